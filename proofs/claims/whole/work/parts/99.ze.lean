/-! CALLS: paragraph. Written by wip/b/mk99ze.py. -/
section RF9
variable {ka : Nat → Nat} {TX : Nat → Nat → (Nat → Int32) → Nat → (Nat → Int32) → Prop} {x y o N0 : Nat}
theorem ob_rf {A : AS} {G : GH} {N : Nat → Nat} {r i : Nat} {m : CE} (S : Nat → Int32) (hd : ¬ r ∈ ([0, 10] : List Nat)) (h : ob_ ka TX A G N r i m) : ob_ ka TX (S, A.2) G (fun q => if q = 30 then 0 else N q) r i m := by
  match r, hd, h with
  | 0, hd, h => exact absurd (by decide) hd
  | 1, hd, h => exact h
  | 2, hd, h => exact h
  | 3, hd, h => exact h
  | 4, hd, h => exact h
  | 5, hd, h => exact h
  | 6, hd, h => exact h
  | 7, hd, h => exact h
  | 8, hd, h => exact h
  | 9, hd, h => exact h
  | 10, hd, h => exact absurd (by decide) hd
  | 11, hd, h => exact h
  | 12, hd, h => exact h
  | 13, hd, h => exact h
  | 14, hd, h => exact h
  | 15, hd, h => exact h
  | 16, hd, h => exact h
  | 17, hd, h => exact h
  | 18, hd, h => exact h
  | 19, hd, h => exact h
  | 20, hd, h => exact h
  | 21, hd, h => exact h
  | 22, hd, h => exact h
  | 23, hd, h => exact h
  | 24, hd, h => exact h
  | 25, hd, h => exact h
  | 26, hd, h => exact h
  | 27, hd, h => exact h
  | 28, hd, h => exact h
  | 29, hd, h => exact h
  | 30, hd, h => exact h
  | 31, hd, h => exact h
  | 32, hd, h => exact h
  | 33, hd, h => exact h
  | 34, hd, h => exact h
  | 35, hd, h => exact h
  | 36, hd, h => exact h
  | 37, hd, h => exact h
  | 38, hd, h => exact h
  | 39, hd, h => exact h
  | 40, hd, h => exact h
  | 41, hd, h => exact h
  | 42, hd, h => exact h
  | 43, hd, h => exact h
  | 44, hd, h => exact h
  | 45, hd, h => exact h
  | 46, hd, h => exact h
  | 47, hd, h => exact h
  | 48, hd, h => exact h
  | 49, hd, h => exact h
  | 50, hd, h => exact h
  | 51, hd, h => exact h
  | 52, hd, h => exact h
  | 53, hd, h => exact h
  | 54, hd, h => exact h
  | 55, hd, h => exact h
  | 56, hd, h => exact h
  | 57, hd, h => exact h
  | 58, hd, h => exact h
  | r + 59, hd, h => exact h

/-- the reader has read, and no text is kept -/
theorem rc_rf {c τ : TH} {G : GH} {A : AS} {N : Nat → Nat} {f v s2 : Int32} (h : rc_ ka TX c x G A N) (hf : fq_ (fun q => q = ga_ G 10 0 ∨ q = ga_ G 12 0 ∨ q = ga_ G 13 0) c τ) (r1 : ∀ d, fr_ τ d (ga_ G 10 0) = fr_ c d (ga_ G 10 0)) (r2 : fi_ τ 701 (ga_ G 10 0) = 0) (r3 : fi_ τ 702 (ga_ G 10 0) = f) (r4 : v = 4 → fi_ τ 703 (ga_ G 10 0) = s2) (r5 : v ≠ 4 → s2 = -1) : rc_ ka TX (si_ τ 1214 x v) x G ((fun q => if q = 2 then s2 else if q = 1 then v else if q = 3 then f else if q = 30 then 0 else aS A q), A.2) (fun q => if q = 30 then 0 else N q) ∧ fq_ (fun q => q = x ∨ q = ga_ G 10 0 ∨ q = ga_ G 12 0 ∨ q = ga_ G 13 0) c (si_ τ 1214 x v) := by
  have hx0 : ∀ r i, i < gc_ G r → r ≠ 0 → ga_ G r i ≠ x := fun r i hi hr => rc_nx h hi hr
  have hxl : x < nx_ c := kd_ltn h.1.1 (rc_x h) (by decide)
  have nx : ¬ (x = ga_ G 10 0 ∨ x = ga_ G 12 0 ∨ x = ga_ G 13 0) := fun q => by
    rcases q with q | q | q
    · exact hx0 10 0 (rc_1 h (by decide)) (by decide) q.symm
    · exact hx0 12 0 (rc_1 h (by decide)) (by decide) q.symm
    · exact hx0 13 0 (rc_1 h (by decide)) (by decide) q.symm
  have hf2 : fq_ (fun q => q = x ∨ q = ga_ G 10 0 ∨ q = ga_ G 12 0 ∨ q = ga_ G 13 0) c (si_ τ 1214 x v) := fqi (fq_w hf (fun _ q => Or.inr q)) (Or.inl rfl)
  refine ⟨rc_gen2 h hf2 (sh_fq h.1 hf2) h.2.2.1 [0, 10, 12, 13] (fun r _ => ⟨rfl, fun _ => rfl⟩) h.2.1.1 (fun q hq => ?_) (fun r i m hd h9 => ob_rf _ (fun q => hd (by revert q; simp only [List.mem_cons, List.not_mem_nil, or_false]; omega)) h9) (fun r i hr hi => ?_), hf2⟩
  · rcases hq with hq | hq | hq | hq
    · exact Or.inl ⟨0, 0, by decide, rc_1 h (by decide), hq.trans h.2.1.1.symm⟩
    · exact Or.inl ⟨10, 0, by decide, rc_1 h (by decide), hq⟩
    · exact Or.inl ⟨12, 0, by decide, rc_1 h (by decide), hq⟩
    · exact Or.inl ⟨13, 0, by decide, rc_1 h (by decide), hq⟩
  · simp only [List.mem_cons, List.not_mem_nil, or_false] at hr
    rcases hr with rfl | rfl | rfl | rfl
    · have : i = 0 := g0_ h (by decide) hi
      subst this
      have q := h.2.2.2 0 0 (rc_1 h (by decide))
      rw [h.2.1.1] at q ⊢
      have x1 : ∀ d, fr_ (si_ τ 1214 x v) d x = fr_ c d x := fun d => fq_fr hf hxl nx d
      have x2 : ∀ d, d ≠ 1214 → fi_ (si_ τ 1214 x v) d x = fi_ c d x := fun d hd => by
        rw [fi_si, up2_c hd]; exact fq_fi hf hxl nx d
      have x4 : fi_ (si_ τ 1214 x v) 1214 x = v := by rw [fi_si, up2_s]
      obtain ⟨⟨q20, q21, q22, q23, q24, q25, q26, q27, q28, q29, q30, q31⟩, q1, q2, q3, q4, q5, q6, q7, q8⟩ := q
      exact ⟨⟨(x1 1200).trans q20, (x1 1201).trans q21, (x1 1202).trans q22, (x1 1203).trans q23, (x1 1204).trans q24, (x1 1205).trans q25, (x1 1206).trans q26, (x1 1207).trans q27, (x1 1208).trans q28, (x1 1209).trans q29, (x1 1210).trans q30, (x1 1218).trans q31⟩, (x2 1211 (by decide)).trans q1, (x2 1212 (by decide)).trans q2, (x2 1213 (by decide)).trans q3, x4, (x2 1215 (by decide)).trans q5, (x2 1216 (by decide)).trans q6, (x2 1217 (by decide)).trans q7, (x2 1219 (by decide)).trans q8⟩
    · have : i = 0 := g0_ h (by decide) hi
      subst this
      have ne : ga_ G 10 0 ≠ x := hx0 10 0 (rc_1 h (by decide)) (by decide)
      have ce := ce_si (σ := τ) (c := 1214) (v := v) ne
      rw [ce]
      obtain ⟨q1, q2, q3, q4, q5, q6, q7⟩ := h.2.2.2 10 0 (rc_1 h (by decide))
      exact ⟨(r1 700).trans q1, (r1 704).trans q2, (r1 705).trans q3, r2, r3, fun z => r4 z, fun z => r5 z⟩
    · trivial
    · trivial
theorem k_hS {c : TH} {G : GH} {A : AS} {N : Nat → Nat} (h : rc_ ka TX c x G A N) : hS_ c (ga_ G 10 0) (ga_ G 11 0) (ga_ G 12 0) (ga_ G 13 0) := by
  obtain ⟨q1, q2, q3, -⟩ := h.2.2.2 10 0 (rc_1 h (by decide))
  have a := h.1.2 10 0 (rc_1 h (by decide))
  have b := h.1.2 11 0 (rc_1 h (by decide))
  have d := h.1.2 12 0 (rc_1 h (by decide))
  have e := h.1.2 13 0 (rc_1 h (by decide))
  exact ⟨a.1, ⟨q1, q2, q3⟩, ⟨b.1, b.2.2.1 (by decide)⟩, ⟨d.1, d.2.2.1 (by decide)⟩, ⟨e.1, e.2.2.1 (by decide)⟩, sh_ne h.1 (rc_1 h (by decide)) (rc_1 h (by decide)) (Or.inl (by decide)), sh_ne h.1 (rc_1 h (by decide)) (rc_1 h (by decide)) (Or.inl (by decide)), sh_ne h.1 (rc_1 h (by decide)) (rc_1 h (by decide)) (Or.inl (by decide))⟩
theorem k_tape {c : TH} {G : GH} {A : AS} {N : Nat → Nat} (h : rc_ ka TX c x G A N) (hD : ∀ j, j < 400 → (aV A 26 j).toInt8.toInt32 = aV A 26 j) {n : Nat} (hn : n ≤ 400) : bt9_ (w9_ n (aV A 26)) n (ai_ c (ga_ G 11 0)) := by
  have q := h.2.2.2 11 0 (rc_1 h (by decide))
  have b := bt9_of (B := aV A 26) hn hD
  refine ⟨fun k hk => ⟨(b.1 k hk).1, ?_⟩, b.2.1, hn⟩
  exact (q k (by omega)).trans (b.1 k hk).2
theorem k_holds {c : TH} {G : GH} {A : AS} {N : Nat → Nat} (h : rc_ ka TX c x G A N) (e30 : aS A 30 = nI (N 30)) (v : Int32) : f_X6_holds c (ga_ G 10 0) v = some (bi_ (0 ≤ v ∧ v ≤ nI (N 30)), c) := by
  obtain ⟨q1, q2, q3, q4, -⟩ := h.2.2.2 10 0 (rc_1 h (by decide))
  have q4 : fi_ c 701 (ga_ G 10 0) = nI (N 30) := q4.trans e30
  unfold f_X6_holds
  rw [gt_t (rc_r1208 h).2, lt_e, q4, k_within, bd_s, gt_t bi_01]
end RF9
theorem m_isTaped {σ : TH} {y : Nat} {G : GH} {A : AS} {N : Nat → Nat} (h : mr_ σ y G A N) (v : Int32) : f_X15_isTaped σ y v = some (bi_ (0 ≤ v ∧ v ≤ nI (N 30)), σ) := by
  have hy := mo_y h.1
  have e30 := (mo_n h.1 (j := 30) (cj := 1630) (m := 400) (by decide)).1
  unfold f_X15_isTaped f_X15_isTaped_b16 f_X15_isTaped_b17
  by_cases z1 : v < 0
  · rw [if_pos z1, bi_f (fun q => absurd z1 (Int32.not_lt.mpr q.1)), gt_t (by decide)]
  · rw [if_neg z1, gt_t hy, lt_e, e30]
    by_cases z2 : nI (N 30) < v
    · rw [if_pos z2, bi_f (fun q => absurd z2 (Int32.not_lt.mpr q.2)), gt_t (by decide)]
    · rw [if_neg z2, bi_t ⟨Int32.not_lt.mp z1, Int32.not_lt.mp z2⟩, gt_t (by decide)]
/-- a lean -/
theorem lean_of {v : Int32} {s : Nat} (hs : s < 2 ^ 30) (h : (-1 : Int32) ≤ v ∧ v ≤ nI s - 1) : v = -1 ∨ ∃ j, j < s ∧ v = nI j := by
  by_cases z : v < 0
  · left
    have h1 := Int32.le_iff_toInt_le.mp h.1
    have h2 := Int32.lt_iff_toInt_lt.mp z
    refine Int32.toInt_inj.mp ?_
    have e1 : (-1 : Int32).toInt = -1 := by decide
    have e0 : (0 : Int32).toInt = 0 := by decide
    rw [e1] at h1 ⊢
    rw [e0] at h2
    omega
  · right
    rcases rg_ v (n := s) (by omega) with q | q
    · exact q
    · exact absurd ⟨Int32.not_lt.mp z, h.2⟩ (rg_out (by omega) q)
theorem st_nt {A : AS} {N : Nat → Nat} {p : Nat} {S : Nat → Int32} {V P B : Nat → Nat → Int32} {L : Nat → Nat} {Q : (Nat → Nat → Int32) × (Nat → Nat) × (Nat → Nat → Int32) × (Nat → Nat → Int32) × (Nat → Nat → Int32)} {N' : Nat → Nat} (hN' : N' 47 = N 47 + 1) (hP : ∀ k, k < N 47 → ∀ d, P d k = aP A d k) (e0 : P 1400 (N 47) = nI p) (hp : p < 30) (i : Nat) (hi : i < 30) : st_ (S, V, P, B, L, Q) N' i = st_ A N i + if i = p then 1 else 0 := by
  unfold st_
  rw [hN']
  show cn_ (fun k => decide (P 1400 k = nI i)) (N 47 + 1) = _
  rw [cn_s, cn_cong (q2 := fun k => decide (aP A 1400 k = nI i)) (N 47) (fun k hk => by rw [hP k hk]), e0]
  by_cases z : i = p
  · subst z; simp
  · have : ¬ nI p = nI i := fun q => z ((nI_eq (by omega) (by omega)).mp q).symm
    simp [z, this]
theorem pl_nt {A : AS} {N : Nat → Nat} {S : Nat → Int32} {V P B : Nat → Nat → Int32} {L : Nat → Nat} {Q : (Nat → Nat → Int32) × (Nat → Nat) × (Nat → Nat → Int32) × (Nat → Nat → Int32) × (Nat → Nat → Int32)} (hP : ∀ k, k < N 47 → ∀ d, P d k = aP A d k) {k : Nat} (hk : k < N 47) : pl_ (S, V, P, B, L, Q) k = pl_ A k := by
  unfold pl_
  show cn_ (fun q => decide (P 1400 q = P 1400 k)) k = _
  exact cn_cong k (fun q hq => by rw [hP q (by omega), hP k hk])
theorem pln_nt {A : AS} {N : Nat → Nat} {p : Nat} {S : Nat → Int32} {V P B : Nat → Nat → Int32} {L : Nat → Nat} {Q : (Nat → Nat → Int32) × (Nat → Nat) × (Nat → Nat → Int32) × (Nat → Nat → Int32) × (Nat → Nat → Int32)} (hP : ∀ k, k < N 47 → ∀ d, P d k = aP A d k) (e0 : P 1400 (N 47) = nI p) : pl_ (S, V, P, B, L, Q) (N 47) = st_ A N p := by
  unfold pl_ st_
  show cn_ (fun q => decide (P 1400 q = P 1400 (N 47))) (N 47) = _
  exact cn_cong (N 47) (fun q hq => by rw [hP q hq, e0])
theorem pv_nt {A : AS} {N : Nat → Nat} {p : Nat} {S : Nat → Int32} {P B : Nat → Nat → Int32} {L : Nat → Nat} (h : pv_ A N) (hp : p < N 5) (hN5 : N 5 ≤ 30) (hst : st_ A N p < 14) (hP : ∀ k, k < N 47 → ∀ d, P d k = aP A d k) (e0 : P 1400 (N 47) = nI p) (e2 : (0 : Int32) ≤ P 1402 (N 47) ∧ P 1402 (N 47) ≤ 999) (e3 : P 1403 (N 47) = -1 ∨ ∃ j, j < st_ A N p ∧ P 1403 (N 47) = nI j) (e4 : ∃ z, z < 1024 ∧ P 1404 (N 47) = nI z) : pv_ (S, aV A, P, B, L, A.2.2.2.2.2) (fun q => if q = 47 then N 47 + 1 else if q = 30 then 0 else N q) := by
  obtain ⟨h1, h2, h3, h4, h5, h6, h7, h8⟩ := h
  refine ⟨h1, fun q hq => ?_, h3, fun k hk => ?_, h5, h6, h7, h8⟩
  · obtain ⟨a1, a2, a3, a4⟩ := h2 q hq
    refine ⟨a1, a2, a3, ?_⟩
    have hq : q < N 5 := hq
    rw [st_nt (N := N) rfl hP e0 (by omega) q (by omega)]
    by_cases z : q = p
    · rw [if_pos z, z]; omega
    · rw [if_neg z]; exact a4
  · have hk : k < N 47 + 1 := hk
    by_cases z : k = N 47
    · rw [z, pln_nt hP e0]
      exact ⟨⟨p, hp, e0⟩, e2, e3, e4⟩
    · have hk2 : k < N 47 := by omega
      rw [pl_nt hP hk2]
      show (∃ p, p < N 5 ∧ P 1400 k = nI p) ∧ ((0 : Int32) ≤ P 1402 k ∧ P 1402 k ≤ 999) ∧ (P 1403 k = -1 ∨ ∃ j, j < pl_ A k ∧ P 1403 k = nI j) ∧ ∃ z, z < 1024 ∧ P 1404 k = nI z
      rw [hP k hk2, hP k hk2, hP k hk2, hP k hk2]
      exact h4 k hk2
