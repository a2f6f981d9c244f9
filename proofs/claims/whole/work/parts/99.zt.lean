/-! CALLS: the reference scans all sets. Written by wip/b/mk99zt.py. -/
section MSD
variable {σ : TH} {y : Nat} {G : GH} {A : AS} {N : Nat → Nat} {g c ln : Nat → Int} {op : Nat → Bool} {lim : Int} {n : Nat}
theorem m_scanEnd (h : mr_ σ y G A N) (hlim : 0 ≤ lim ∧ lim ≤ 10000000) (R : TH → Nat → Int32 → Int32 → Int32 → Option (Unit × TH)) {b t : CH} (hb : be9_ b) (ht : be9_ t) : f_X15_cuts_b238 R (cbm8_ σ y b) y (zI lim) (nI n) (nI t.1) (zI t.2.2) (zI t.2.1) 1 = f_X15_cuts_b342 R (cbm8_ σ y (f9_ lim b t)) y (zI lim) (nI n) (nI t.1) := by
  have hy : kd_ (cbm8_ σ y b) y = 17 := (mo_y h.1 : kd_ σ y = 17)
  obtain ⟨b1, b2, b3, b4⟩ := hb
  obtain ⟨t1, t2, t3, t4⟩ := ht
  have low := low9_ (u := t.1) (b := b.1) (Nat.lt_of_lt_of_le t1 (by decide))
  have yes : t.2.2 ≤ lim ∧ (b.2.1 < t.2.1 ∨ (t.2.1 = b.2.1 ∧ (t.2.2 < b.2.2 ∨ (t.2.2 = b.2.2 ∧ lo9_ t.1 b.1 = true)))) → f_X15_cuts_b309 R (cbm8_ σ y b) y (zI lim) (nI n) (nI t.1) (zI t.2.2) (zI t.2.1) = f_X15_cuts_b342 R (cbm8_ σ y (f9_ lim b t)) y (zI lim) (nI n) (nI t.1) := fun q => by
    unfold f_X15_cuts_b309 f_X15_cuts_b314 f9_
    rw [if_neg (by decide), gt_t hy, lt_e, lt_e, lt_e, if_pos q]
    exact congrArg (fun s => f_X15_cuts_b342 R s y (zI lim) (nI n) (nI t.1)) (cbm8_cm (σ := σ) (a := y) (s := b) (t := t))
  have no : ¬ (t.2.2 ≤ lim ∧ (b.2.1 < t.2.1 ∨ (t.2.1 = b.2.1 ∧ (t.2.2 < b.2.2 ∨ (t.2.2 = b.2.2 ∧ lo9_ t.1 b.1 = true))))) → f_X15_cuts_b342 R (cbm8_ σ y b) y (zI lim) (nI n) (nI t.1) = f_X15_cuts_b342 R (cbm8_ σ y (f9_ lim b t)) y (zI lim) (nI n) (nI t.1) := fun q => by
    unfold f9_
    rw [if_neg q]
  have no3 : f_X15_cuts_b313 R (cbm8_ σ y b) y (zI lim) (nI n) (nI t.1) (zI t.2.2) (zI t.2.1) = f_X15_cuts_b342 R (cbm8_ σ y b) y (zI lim) (nI n) (nI t.1) := by
    unfold f_X15_cuts_b313 f_X15_cuts_b314
    rw [if_pos rfl]
  unfold f_X15_cuts_b238
  rw [if_neg (by decide)]
  by_cases z1 : lim < t.2.2
  · rw [if_pos ((zI_lt (by omega) (by omega) (by omega) (by omega)).mpr z1)]
    exact no (by omega)
  rw [if_neg (fun q => z1 ((zI_lt (by omega) (by omega) (by omega) (by omega)).mp q)), gt_t hy, lt_e, cbm8_4, lt_e, cbm8_3, lt_e, lt_e, lt_e, cbm8_5, lt_e]
  by_cases z2 : t.2.1 < b.2.1
  · rw [if_neg (Int32.not_le.mpr ((zI_lt (by omega) (by omega) (by omega) (by omega)).mpr z2))]
    exact no (by omega)
  rw [if_pos (Int32.not_lt.mp (fun q => z2 ((zI_lt (by omega) (by omega) (by omega) (by omega)).mp q)))]
  by_cases z3 : b.2.1 < t.2.1
  · rw [if_pos ((zI_lt (by omega) (by omega) (by omega) (by omega)).mpr z3)]
    exact yes ⟨by omega, Or.inl z3⟩
  rw [if_neg (fun q => z3 ((zI_lt (by omega) (by omega) (by omega) (by omega)).mp q))]
  by_cases z4 : t.2.2 < b.2.2
  · rw [if_pos ((zI_lt (by omega) (by omega) (by omega) (by omega)).mpr z4)]
    exact yes ⟨by omega, Or.inr ⟨by omega, Or.inl z4⟩⟩
  rw [if_neg (fun q => z4 ((zI_lt (by omega) (by omega) (by omega) (by omega)).mp q))]
  by_cases z5 : t.2.2 = b.2.2
  · rw [if_pos (by rw [z5])]
    by_cases z6 : lo_ t.1 b.1
    · rw [if_neg (fun q => low.mp q z6)]
      exact yes ⟨by omega, Or.inr ⟨by omega, Or.inr ⟨z5, lo9_iff.mpr z6⟩⟩⟩
    · rw [if_pos (low.mpr z6), no3]
      refine no (fun q => ?_)
      rcases q.2 with q | ⟨-, q | ⟨-, q⟩⟩
      · omega
      · omega
      · exact z6 (lo9_iff.mp q)
  · rw [if_neg (fun q => z5 ((zI_eq (by omega) (by omega) (by omega) (by omega)).mp q)), no3]
    exact no (fun q => by
      rcases q.2 with q | ⟨-, q | ⟨q, -⟩⟩
      · omega
      · omega
      · exact z5 q)
theorem pa_be (hl : mlo8_ σ G g c ln op lim n) {u : Nat} (hu : u < 2 ^ n) : be9_ (pa_ g c 1 u n 0 (0, 0, 0)) := by
  obtain ⟨hn, -, hg, hc, -, -⟩ := hl
  obtain ⟨-, e1, e2⟩ := pa_sum (g := g) (c := c) (gap := 1) u n
  have s1 := su9_b (B := 100000000) (by decide) hg u n
  have s2 := su9_b (B := 10000000) (by decide) hc u n
  have s3 := pc9_le u n
  refine ⟨?_, ?_, ?_⟩
  · rw [pa_1 hu]
    exact Nat.lt_of_lt_of_le hu (Nat.pow_le_pow_right (by decide) hn)
  · rw [e1]; omega
  · rw [e2]; omega
theorem bu9_be (hl : mlo8_ σ G g c ln op lim n) : ∀ u, u ≤ 2 ^ n → be9_ (bu9_ g c ln op 1 lim n u)
  | 0, _ => ⟨show 0 < 2 ^ 14 by decide, show (-1 : Int) ≤ 0 ∧ (0 : Int) ≤ 1400000000 by decide, show (0 : Int) ≤ 0 ∧ (0 : Int) ≤ 140000014 by decide⟩
  | u + 1, hu => by
    have ih := bu9_be hl u (by omega)
    show be9_ (if (decide (0 < u) && fe9_ ln op u n) = true then f9_ lim (bu9_ g c ln op 1 lim n u) (pa_ g c 1 u n 0 (0, 0, 0)) else bu9_ g c ln op 1 lim n u)
    split
    · unfold f9_
      split
      · exact pa_be hl (by omega)
      · exact ih
    · exact ih
/-- the reference's scan -/
theorem m_scan (h : mr_ σ y G A N) (hl : mlo8_ σ G g c ln op lim n) : f_X15_cuts_b112 fu_ (cbm8_ σ y (0, 0, 0)) y (zI lim) (nI n) 1 = some ((), cbm8_ σ y (bu9_ g c ln op 1 lim n (2 ^ n))) := by
  have hn := hl.1
  have p14 : 2 ^ n ≤ 2 ^ 14 := Nat.pow_le_pow_right (by decide) hn
  have p0 : 1 ≤ 2 ^ n := Nat.one_le_two_pow
  have sh : (1 : Int32) <<< (nI n &&& 31) = nI (2 ^ n) := sh14_ n (by omega)
  have key := lpk_ (F := fun f (s : TH) k => f_X15_cuts_b112 f s y (zI lim) (nI n) k) 1 (2 ^ n) p0 (fun u => cbm8_ σ y (bu9_ g c ln op 1 lim n u)) (r := some ((), cbm8_ σ y (bu9_ g c ln op 1 lim n (2 ^ n)))) (fun f u h1 h2 => ?_) (fun f => ?_) (by omega)
  · exact key
  · show f_X15_cuts_b112 (f + 1) (cbm8_ σ y (bu9_ g c ln op 1 lim n u)) y (zI lim) (nI n) (nI u) = f_X15_cuts_b112 f (cbm8_ σ y (bu9_ g c ln op 1 lim n (u + 1))) y (zI lim) (nI n) (nI (u + 1))
    have hu14 : u < 2 ^ 14 := by omega
    have epc : pc9_ u 14 = pc9_ u n := by
      have := pc9_n h2 (14 - n)
      rw [show n + (14 - n) = 14 by omega] at this
      exact this
    have ppos := pc9_p (show 0 < u by omega) h2
    have ple := pc9_le u n
    have ex : nI (pc9_ u n) - 1 = zI (((pc9_ u n - 1 : Nat) : Int) + su9_ c u 0) := by
      have e0 : (((pc9_ u n - 1 : Nat) : Int) + su9_ c u 0) = (pc9_ u n : Int) - 1 := by
        show ((pc9_ u n - 1 : Nat) : Int) + 0 = _
        omega
      rw [e0, ← zI_nI]
      exact (Int32.ofInt_sub ((pc9_ u n : Nat) : Int) 1).symm
    have inn := m_scanIn h hl (f_X15_cuts_b112 f) hu14 (P := ((pc9_ u n - 1 : Nat) : Int)) (by omega) (bu9_ g c ln op 1 lim n u) n 0 fu_ (by omega) (by unfold fu_; omega)
    rw [f_X15_cuts_b112, sh, if_neg (nI_ge h2 (by omega)), m_bits14 _ hu14, bd_s, lt_e, epc, ex]
    have inn : f_X15_cuts_b139 (f_X15_cuts_b112 f) fu_ (cbm8_ σ y (bu9_ g c ln op 1 lim n u)) y (zI lim) (nI n) (nI u) (zI (((pc9_ u n - 1 : Nat) : Int) + su9_ c u 0)) 0 1 0 = _ := inn
    rw [inn]
    have e : bu9_ g c ln op 1 lim n (u + 1) = if (decide (0 < u) && fe9_ ln op u n) = true then f9_ lim (bu9_ g c ln op 1 lim n u) (pa_ g c 1 u n 0 (0, 0, 0)) else bu9_ g c ln op 1 lim n u := rfl
    rw [decide_eq_true (show 0 < u by omega), Bool.true_and] at e
    by_cases z : fe9_ ln op u n = true
    · rw [if_pos z] at e ⊢
      obtain ⟨-, e1, e2⟩ := pa_sum (g := g) (c := c) (gap := 1) u n
      have q := m_scanEnd (n := n) h hl.2.2.2.2.2 (f_X15_cuts_b112 f) (bu9_be hl u (by omega)) (pa_be hl h2)
      rw [pa_1 h2, e1, e2] at q
      rw [show ((pc9_ u n - 1 : Nat) : Int) + su9_ c u n = su9_ c u n + 1 * ((pc9_ u n - 1 : Nat) : Int) by omega, q, e]
      unfold f_X15_cuts_b342
      rw [lt_e, nI_1]
    · rw [if_neg z] at e ⊢
      rw [e]
      unfold f_X15_cuts_b342
      rw [lt_e, nI_1]
  · show f_X15_cuts_b112 (f + 1) (cbm8_ σ y (bu9_ g c ln op 1 lim n (2 ^ n))) y (zI lim) (nI n) (nI (2 ^ n)) = _
    rw [f_X15_cuts_b112, sh, if_pos (nI_le (Nat.le_refl _) (by omega))]
end MSD
