/-! CALLS: rule. Written by wip/b/mk99zi.py. -/
section IR9
variable {σ : TH} {y : Nat} {G : GH} {A : AS} {N : Nat → Nat}
/-- the reference reads a rule -/
theorem m_isRule (hf : wf_ σ) (h : mr_ σ y G A N) (hv : pv_ A N) {n : Nat} (hn : n ≤ 400) : match rN_ true (w9_ n (aV A 26)) n (m0_ true) 0 with
  | .inl e => ∃ τ, f_X15_ruleHolds (si_ (si_ σ 1630 y 0) 1603 y 0) y (some (ga_ G 26 0)) (nI n) 0 = some (.inr (ga_ G 25 0), τ) ∧ (kd_ τ (ga_ G 25 0) = 16 ∧ fi_ τ 1506 (ga_ G 25 0) = nI e.1 ∧ fi_ τ 1507 (ga_ G 25 0) = nI e.2) ∧ mr_ τ y G A (fun q => if q = 30 then 0 else N q) ∧ fq_ (rU_ y G) σ τ ∧ (nx_ τ = nx_ σ ∧ sl_ τ = sl_ σ) ∧ ∀ j, j ∈ DS → fi_ τ (1600 + j) y = if j = 3 then 0 else if j = 30 then 0 else fi_ σ (1600 + j) y
  | .inr _ => ∃ v τ, f_X15_ruleHolds (si_ (si_ σ 1630 y 0) 1603 y 0) y (some (ga_ G 26 0)) (nI n) 0 = some (.inl v, τ) ∧ mr_ τ y G A (fun q => if q = 30 then 0 else N q) ∧ fq_ (rU_ y G) σ τ ∧ (nx_ τ = nx_ σ ∧ sl_ τ = sl_ σ) ∧ ∀ j, j ∈ DS → fi_ τ (1600 + j) y = if j = 3 then 0 else if j = 30 then 0 else fi_ σ (1600 + j) y := by
  have hy := mo_y h.1
  have h1 := mr_t0 h
  obtain ⟨a26, tb⟩ := mr_tape h1 hn
  have fq1 : fq_ (rU_ y G) σ (si_ (si_ σ 1630 y 0) 1603 y 0) := fqi (fq_si hf (Or.inl rfl)) (Or.inl rfl)
  have d1 : ∀ j, fi_ (si_ (si_ σ 1630 y 0) 1603 y 0) (1600 + j) y = if j = 3 then 0 else if j = 30 then 0 else fi_ σ (1600 + j) y := fun j => by
    rw [fi_si]
    by_cases z3 : j = 3
    · subst z3; rw [if_pos rfl]; exact up2_s
    · rw [up2_c (by omega), if_neg z3, fi_si]
      by_cases z30 : j = 30
      · subst z30; rw [if_pos rfl]; exact up2_s
      · rw [up2_c (by omega), if_neg z30]
  have g := m_ruleHolds (E := ER_ A (fun q => if q = 30 then 0 else N q) 0) (p := 0) h1.1.1.1 h1 tb (ve_of (N := (fun q => if q = 30 then 0 else N q)) (Or.inr ⟨rfl, rfl⟩) hv.1 hv.2.2.1 (by decide))
  have q := rN_RR (E := ER_ A (fun q => if q = 30 then 0 else N q) 0) (w9_wn (B := aV A 26) hn) (m := m0_ true) rfl rfl rfl rfl
  generalize (fun q => if q = 30 then 0 else N q) = N1 at h1 tb g q ⊢
  obtain ⟨σ1, hσ1⟩ : ∃ σ1, σ1 = si_ (si_ σ 1630 y 0) 1603 y 0 := ⟨_, rfl⟩
  rw [← hσ1] at h1 tb fq1 d1 g a26
  rw [← hσ1]
  revert g q
  cases pR_ (ER_ A N1 0) (w9_ n (aV A 26)) with
  | inl e =>
    intro q g
    have q : rN_ true (w9_ n (aV A 26)) n (m0_ true) 0 = .inl e := q
    rw [q]
    obtain ⟨τ, g1, g2, g3, g4, g5⟩ := g
    have g1 : f_X15_ruleHolds σ1 y (some (ga_ G 26 0)) (nI n) 0 = some (.inr (ga_ G 25 0), τ) := g1
    exact ⟨τ, g1, ⟨g3, g4, g5⟩, g2.1, fq_tr fq1 g2.2.1, ⟨g2.2.2.1.1.trans (by rw [hσ1]; rfl), g2.2.2.1.2.trans (by rw [hσ1]; rfl)⟩, fun j hj => by rw [g2.2.2.2.2.2.2 j hj, d1 j]⟩
  | inr x =>
    intro q g
    obtain ⟨m', e1, e2, e3⟩ := q
    rw [e1]
    obtain ⟨u, τ, g1, g2, g3, g4⟩ := g
    have g1 : f_X15_ruleHolds σ1 y (some (ga_ G 26 0)) (nI n) 0 = some (.inl u, τ) := g1
    exact ⟨u, τ, g1, g2.1, fq_tr fq1 g2.2.1, ⟨g2.2.2.1.1.trans (by rw [hσ1]; rfl), g2.2.2.1.2.trans (by rw [hσ1]; rfl)⟩, fun j hj => by rw [g2.2.2.2.2.2.2 j hj, d1 j]⟩
end IR9
section NR9
variable {ka : Nat → Nat} {TX : Nat → Nat → (Nat → Int32) → Nat → (Nat → Int32) → Prop} {x y o N0 : Nat}
theorem ob_nr {A : AS} {G : GH} {N : Nat → Nat} {r i : Nat} {m : CE} (S : Nat → Int32) (RR : Nat → Nat → Int32) (M : Nat → Nat) (a b e1 : Nat) (hd : ¬ r ∈ ([0, 3, 10, 12, 13, 39, 40, 53] : List Nat)) (h : ob_ ka TX A G N r i m) : ob_ ka TX (S, aV A, aP A, aB A, aL A, RR, M, A.2.2.2.2.2.2.2) (gy_ (gn_ (gn_ G 39 a) 40 b) 53 e1) (fun q => if q = 58 then N 58 + 1 else if q = 30 then 0 else N q) r i m := by
  match r, hd, h with
  | 0, hd, h => exact absurd (by decide) hd
  | 1, hd, h => exact h
  | 2, hd, h => exact h
  | 3, hd, h => exact absurd (by decide) hd
  | 4, hd, h => exact h
  | 5, hd, h => exact h
  | 6, hd, h => exact h
  | 7, hd, h => exact h
  | 8, hd, h => exact h
  | 9, hd, h => exact h
  | 10, hd, h => exact absurd (by decide) hd
  | 11, hd, h => exact h
  | 12, hd, h => exact absurd (by decide) hd
  | 13, hd, h => exact absurd (by decide) hd
  | 14, hd, h => exact h
  | 15, hd, h => exact h
  | 16, hd, h => exact h
  | 17, hd, h => exact h
  | 18, hd, h => exact h
  | 19, hd, h => exact h
  | 20, hd, h => exact h
  | 21, hd, h => exact h
  | 22, hd, h => exact h
  | 23, hd, h => exact h
  | 24, hd, h => exact h
  | 25, hd, h => exact h
  | 26, hd, h => exact h
  | 27, hd, h => exact h
  | 28, hd, h => exact h
  | 29, hd, h => exact h
  | 30, hd, h => exact h
  | 31, hd, h => exact h
  | 32, hd, h => exact h
  | 33, hd, h => exact h
  | 34, hd, h => exact h
  | 35, hd, h => exact h
  | 36, hd, h => exact h
  | 37, hd, h => exact h
  | 38, hd, h => exact h
  | 39, hd, h => exact absurd (by decide) hd
  | 40, hd, h => exact absurd (by decide) hd
  | 41, hd, h => exact h
  | 42, hd, h => exact h
  | 43, hd, h => exact h
  | 44, hd, h => exact h
  | 45, hd, h => exact h
  | 46, hd, h => exact h
  | 47, hd, h => exact h
  | 48, hd, h => exact h
  | 49, hd, h => exact h
  | 50, hd, h => exact h
  | 51, hd, h => exact h
  | 52, hd, h => exact h
  | 53, hd, h => exact absurd (by decide) hd
  | 54, hd, h => exact h
  | 55, hd, h => exact h
  | 56, hd, h => exact h
  | 57, hd, h => exact h
  | 58, hd, h => exact h
  | r + 59, hd, h => exact h
theorem cg_nr {G : GH} {N : Nat → Nat} {a b e1 : Nat} (h : cg_ G N) : cg_ (gy_ (gn_ (gn_ G 39 a) 40 b) 53 e1) ((fun q => if q = 58 then N 58 + 1 else if q = 30 then 0 else N q)) := by
  obtain ⟨h0, h30, h31, h32, h33, h34, h35, h36, h37, h38, h39, h40, h41, h42, h43, h44, h45, h46, h47, h48⟩ := h
  refine ⟨fun r hr => ?_, h30, h31, h32, h33, h34, h35, h36, h37, h38, ?_, ?_, h41, h42, h43, h44, h45, h46, h47, h48⟩
  · have h9 : ∀ r, r ∈ ([0, 1, 2, 3, 4, 5, 6, 7, 8, 9, 10, 11, 12, 13, 14, 15, 16, 17, 18, 19, 20, 21, 22] : List Nat) → r ≠ 39 ∧ r ≠ 40 ∧ r ≠ 53 := by decide
    have := h9 r hr
    show gc_ (gy_ (gn_ (gn_ G 39 a) 40 b) 53 e1) r = 1
    refine Eq.trans ?_ (h0 r hr)
    simp [gy_, gn_, gc_, this]
  · show gc_ (gy_ (gn_ (gn_ G 39 a) 40 b) 53 e1) 39 = ((fun q => if q = 58 then N 58 + 1 else if q = 30 then 0 else N q)) 58
    simp [gy_, gn_, gc_] at *
    omega
  · show gc_ (gy_ (gn_ (gn_ G 39 a) 40 b) 53 e1) 40 = ((fun q => if q = 58 then N 58 + 1 else if q = 30 then 0 else N q)) 58
    simp [gy_, gn_, gc_] at *
    omega

theorem rc_39 {σ : TH} {G : GH} {A : AS} {N : Nat → Nat} (h : rc_ ka TX σ x G A N) : gc_ G 39 = N 58 ∧ gc_ G 40 = N 58 := by
  have := h.2.2.1
  unfold cg_ at this
  simp only [this, and_self]
theorem rc_nr {c c1 : TH} {G : GH} {A : AS} {N : Nat → Nat} {a b e1 : Nat} {RR : Nat → Nat → Int32} {M : Nat → Nat} (h : rc_ ka TX c x G A N)
    (hf : fq_ (fun q => (q = x ∨ q = ga_ G 10 0 ∨ q = ga_ G 12 0 ∨ q = ga_ G 13 0) ∨ q = ga_ G 3 0 ∨ q = (if gc_ G 53 = 0 then ka 200 else ga_ G 53 0)) c c1)
    (x1 : ∀ d, fr_ c1 d x = fr_ c d x) (x2 : ∀ d, d ≠ 1214 → fi_ c1 d x = fi_ c d x) (x4 : fi_ c1 1214 x = 0)
    (r1 : ∀ d, fr_ c1 d (ga_ G 10 0) = fr_ c d (ga_ G 10 0)) (r2 : fi_ c1 701 (ga_ G 10 0) = 0) (r3 : fi_ c1 702 (ga_ G 10 0) = 0)
    (he : kd_ c1 e1 = 24) (hee : (0 < gc_ G 53 ∧ e1 = ga_ G 53 0) ∨ nx_ c ≤ e1) (hl : ls_ ka c1 (ga_ G 3 0) e1 (N 58 + 1) (fun i => if i = N 58 then a else ga_ G 39 i))
    (ha : nx_ c ≤ a) (hb : nx_ c ≤ b) (hab : a ≠ b) (hae : a ≠ e1) (hbe : b ≠ e1) (a1 : kd_ c1 a = 11 ∧ fr_ c1 1000 a = some b) (b1 : kd_ c1 b = 20) (b2 : TX 1 (M (N 58)) (RR (N 58)) (ln_ c1 b) (ai_ c1 b))
    (hB : ∀ k, k < N 58 → RR k = aR A k ∧ M k = aM A k) :
    rc_ ka TX c1 x (gy_ (gn_ (gn_ G 39 a) 40 b) 53 e1) ((fun q => if q = 2 then -1 else if q = 1 then 0 else if q = 3 then 0 else if q = 30 then 0 else aS A q), aV A, aP A, aB A, aL A, RR, M, A.2.2.2.2.2.2.2) (fun q => if q = 58 then N 58 + 1 else if q = 30 then 0 else N q) := by
  obtain ⟨c39, c40⟩ := rc_39 h
  have hx0 : ∀ r i, i < gc_ G r → r ≠ 0 → ga_ G r i ≠ x := fun r i hi hr => rc_nx h hi hr
  have hTE : ∀ r i, i < gc_ G r → r ≠ 53 → ga_ G r i ≠ (if gc_ G 53 = 0 then ka 200 else ga_ G 53 0) := fun r i hi hr => by
    by_cases z : gc_ G 53 = 0
    · rw [if_pos z]; exact rc_ka h hi
    · rw [if_neg z]; exact sh_ne h.1 hi (Nat.pos_of_ne_zero z) (Or.inl hr)
  have nT : ∀ r i, i < gc_ G r → r ≠ 0 → r ≠ 10 → r ≠ 12 → r ≠ 13 → r ≠ 3 → r ≠ 53 → ce_ c1 (ga_ G r i) = ce_ c (ga_ G r i) := fun r i hi z0 z10 z12 z13 z3 z53 => by
    refine rc_ce h hf hi (fun q => ?_)
    rcases q with (q | q | q | q) | q | q
    · exact hx0 r i hi z0 q
    · exact sh_ne h.1 hi (rc_1 h (by decide)) (Or.inl z10) q
    · exact sh_ne h.1 hi (rc_1 h (by decide)) (Or.inl z12) q
    · exact sh_ne h.1 hi (rc_1 h (by decide)) (Or.inl z13) q
    · exact sh_ne h.1 hi (rc_1 h (by decide)) (Or.inl z3) q
    · exact hTE r i hi z53 q
  have hsh : sh_ KC LC c1 (gy_ (gn_ (gn_ G 39 a) 40 b) 53 e1) := by
    have h2 := sh_gn2 (r := 40) (sh_gn2 (r := 39) (sh_fq h.1 hf) (fh_of h.1 ha) a1.1 (by decide) (fun z => absurd rfl z)) (fh_gn (fh_of h.1 hb) hab) b1 (by decide) (fun z => absurd rfl z)
    refine sh_gy h2 ?_ he (by decide) rfl
    rcases hee with ⟨q1, q2⟩ | q
    · exact Or.inr ⟨q1, q2⟩
    · exact Or.inl (fh_gn (fh_gn (fh_of h.1 q) hae) hbe)
  have g39 : ∀ k, ga_ (gy_ (gn_ (gn_ G 39 a) 40 b) 53 e1) 39 k = if k = N 58 then a else ga_ G 39 k := fun k => by
    rw [← c39]
    show (if 39 = 53 ∧ k = 0 then e1 else if 39 = 40 ∧ k = gc_ (gn_ G 39 a) 40 then b else if 39 = 39 ∧ k = gc_ G 39 then a else ga_ G 39 k) = _
    simp
  have g40 : ∀ k, ga_ (gy_ (gn_ (gn_ G 39 a) 40 b) 53 e1) 40 k = if k = N 58 then b else ga_ G 40 k := fun k => by
    rw [← c40]
    show (if 40 = 53 ∧ k = 0 then e1 else if 40 = 40 ∧ k = gc_ G 40 then b else if 40 = 39 ∧ k = gc_ G 39 then a else ga_ G 40 k) = _
    simp
  have hao := ao_3 (ka := ka) (TX := TX) (A := ((fun q => if q = 2 then -1 else if q = 1 then 0 else if q = 3 then 0 else if q = 30 then 0 else aS A q), aV A, aP A, aB A, aL A, RR, M, A.2.2.2.2.2.2.2)) (G1 := (gy_ (gn_ (gn_ G 39 a) 40 b) 53 e1)) (N1 := (fun q => if q = 58 then N 58 + 1 else if q = 30 then 0 else N q)) (τ := c1) (a := ga_ G 3 0) (e1 := e1) hl he ⟨rfl, rfl⟩ (fun j _ => (g39 j).symm)
  refine rc_gen2 h hf hsh (cg_nr h.2.2.1) [0, 3, 10, 12, 13, 39, 40, 53] (fun r hr => ?_) h.2.1.1 (fun q hq => ?_) (fun r i m hr h9 => ob_nr _ RR M a b e1 hr h9) (fun r i hr hi => ?_)
  · have q1 : r ≠ 39 := fun z => hr (by rw [z]; decide)
    have q2 : r ≠ 40 := fun z => hr (by rw [z]; decide)
    have q3 : r ≠ 53 := fun z => hr (by rw [z]; decide)
    exact ⟨by simp [gy_, gn_, gc_, q1, q2, q3], fun i => by simp [gy_, gn_, ga_, q1, q2, q3]⟩
  · rcases hq with (hq | hq | hq | hq) | hq | hq
    · exact Or.inl ⟨0, 0, by decide, rc_1 h (by decide), hq.trans h.2.1.1.symm⟩
    · exact Or.inl ⟨10, 0, by decide, rc_1 h (by decide), hq⟩
    · exact Or.inl ⟨12, 0, by decide, rc_1 h (by decide), hq⟩
    · exact Or.inl ⟨13, 0, by decide, rc_1 h (by decide), hq⟩
    · exact Or.inl ⟨3, 0, by decide, rc_1 h (by decide), hq⟩
    · by_cases z : gc_ G 53 = 0
      · rw [if_pos z] at hq; exact Or.inr hq
      · rw [if_neg z] at hq
        exact Or.inl ⟨53, 0, by decide, Nat.pos_of_ne_zero z, hq⟩
  · simp only [List.mem_cons, List.not_mem_nil, or_false] at hr
    rcases hr with rfl | rfl | rfl | rfl | rfl | rfl | rfl | rfl
    · have : i = 0 := g0_ h (by decide) (show i < gc_ G 0 from hi)
      subst this
      have q := h.2.2.2 0 0 (rc_1 h (by decide))
      show ob_ ka TX _ _ _ 0 0 (ce_ c1 (ga_ G 0 0))
      rw [h.2.1.1] at q ⊢
      obtain ⟨⟨q20, q21, q22, q23, q24, q25, q26, q27, q28, q29, q30, q31⟩, q1, q2, q3, q4, q5, q6, q7, q8⟩ := q
      exact ⟨⟨(x1 1200).trans q20, (x1 1201).trans q21, (x1 1202).trans q22, (x1 1203).trans q23, (x1 1204).trans q24, (x1 1205).trans q25, (x1 1206).trans q26, (x1 1207).trans q27, (x1 1208).trans q28, (x1 1209).trans q29, (x1 1210).trans q30, (x1 1218).trans q31⟩, (x2 1211 (by decide)).trans q1, (x2 1212 (by decide)).trans q2, (x2 1213 (by decide)).trans q3, x4, (x2 1215 (by decide)).trans q5, (x2 1216 (by decide)).trans q6, (x2 1217 (by decide)).trans q7, (x2 1219 (by decide)).trans q8⟩
    · have : i = 0 := g0_ h (by decide) (show i < gc_ G 3 from hi)
      subst this
      exact hao.1
    · have : i = 0 := g0_ h (by decide) (show i < gc_ G 10 from hi)
      subst this
      obtain ⟨q1, q2, q3, q4, q5, q6, q7⟩ := h.2.2.2 10 0 (rc_1 h (by decide))
      exact ⟨(r1 700).trans q1, (r1 704).trans q2, (r1 705).trans q3, r2, r3, fun z => absurd (show (0 : Int32) = 4 from z) (by decide), fun _ => rfl⟩
    · trivial
    · trivial
    · have hi' : i < N 58 + 1 := by rw [← c39]; exact hi
      rw [g39]
      show fr_ c1 1000 (if i = N 58 then a else ga_ G 39 i) = some (ga_ (gy_ (gn_ (gn_ G 39 a) 40 b) 53 e1) 40 i)
      rw [g40]
      by_cases z : i = N 58
      · rw [if_pos z, if_pos z]; exact a1.2
      · have hi2 : i < gc_ G 39 := by rw [c39]; omega
        have ce := nT 39 i hi2 (by decide) (by decide) (by decide) (by decide) (by decide) (by decide)
        rw [if_neg z, if_neg z]
        have q : fr_ c 1000 (ga_ G 39 i) = some (ga_ G 40 i) := h.2.2.2 39 i hi2
        exact (congrFun (congrArg (fun z => z.2.2.1) ce) 1000).trans q
    · have hi' : i < N 58 + 1 := by rw [← c40]; exact hi
      rw [g40]
      show TX 1 (M i) (RR i) (ln_ c1 (if i = N 58 then b else ga_ G 40 i)) (ai_ c1 (if i = N 58 then b else ga_ G 40 i))
      by_cases z : i = N 58
      · rw [if_pos z, z]; exact b2
      · have hi2 : i < gc_ G 40 := by rw [c40]; omega
        have ce := nT 40 i hi2 (by decide) (by decide) (by decide) (by decide) (by decide) (by decide)
        have q := h.2.2.2 40 i hi2
        rw [if_neg z, (hB i (by omega)).1, (hB i (by omega)).2, show ln_ c1 (ga_ G 40 i) = ln_ c (ga_ G 40 i) from congrArg (fun z => z.1) ce, show ai_ c1 (ga_ G 40 i) = ai_ c (ga_ G 40 i) from congrArg (fun z => z.2.2.2.2.1) ce]
        exact q
    · have hi' : i < 1 := hi
      have : i = 0 := by omega
      subst this
      exact hao.2
end NR9
section RU8
variable {ka : Nat → Nat} {x y o N0 : Nat}
theorem ok_rule : St_rule ka x y (inv_ ka TXp_ pv_ x y o N0) := fun n c m a0 hn hI => by
  obtain ⟨GC, GM, N, k1, k2, k3, k4, k5, k6, k7, k8⟩ := id hI
  have hN := (mo_n k1 (j := 5) (cj := 1605) (m := 30) (by decide)).2
  obtain ⟨e6, hN6⟩ := mo_n k1 (j := 6) (cj := 1606) (m := 5257439) (by decide)
  have hb : mr_ (bm_ m c) y GM (as_ m y GM) N := mr_bm (mr_of k1) (Nat.le_of_eq k5.1)
  have hx := rc_x k2
  obtain ⟨e30, hN30⟩ := mo_n k1 (j := 30) (cj := 1630) (m := 400) (by decide)
  obtain ⟨e58, hN58⟩ := mo_n k1 (j := 58) (cj := 1658) (m := 12) (by decide)
  have hj0 : ∀ j, j ∈ DS → j ≠ 0 := by decide
  obtain ⟨r8, r8k⟩ := rc_r1208 k2
  obtain ⟨r2, r2k⟩ := rc_r1202 k2
  by_cases c3 : (0 : Int32) ≤ a0 ∧ a0 ≤ nI (N 30)
  · obtain ⟨t, ht, rfl⟩ : ∃ t, t ≤ N 30 ∧ a0 = nI t := by
      rcases rg_ a0 (n := N 30 + 1) (by omega) with ⟨t, ht, e⟩ | q
      · exact ⟨t, by omega, e⟩
      · rcases q with q | q
        · exact absurd q (Int32.not_lt.mpr c3.1)
        · exact absurd (Int32.le_trans q c3.2) (nI_ge (by omega) (by omega))
    have hS := k_hS k2
    have hbt := k_tape k2 k3.2.2.2.2.2.2.2.2.2.2.2.2 (n := t) (by omega)
    have hholds := k_holds k2 e30 (nI t)
    rw [bi_t c3] at hholds
    have hread : ∀ r9 s9, f_X6_read c (ga_ GC 10 0) (nI t) 1 = some (r9, s9) → f_X11_rule ka c x (nI t) = oc_ r9 (bd_ (f_X11_refused s9 x (4 : Int32)) fun x12 s13 => some (x12, s13)) (fun a11 => lt_ (fr_ s9 1202 x) fun r14 => nn_ r14 fun a15 => gt_ (kd_ s9 a15 = 1) <| bd_ (f_Jx4a65c_size_8abf5 s9 a15) fun x16 s17 => if x16 < (12 : Int32) then (lt_ (fr_ s17 1202 x) fun r18 => nn_ r18 fun a19 => gt_ (kd_ s17 a19 = 1) <| bd_ (f_Jx4a65c_add_9ea2d ka s17 a19 (some a11)) fun x20 s21 => lt_ (fr_ s21 1202 x) fun r22 => nn_ r22 fun a23 => gt_ (kd_ s21 a23 = 1) <| bd_ (f_Jx4a65c_size_8abf5 s21 a23) fun x24 s25 => bd_ (f_X11_granted s25 x x24) fun x26 s27 => some (x26, s27)) else (bd_ (f_X11_refused s17 x (3 : Int32)) fun x28 s29 => some (x28, s29))) := fun r9 s9 hr => by
      unfold f_X11_rule
      rw [gt_t hx, lt_e, r8, nn_s, gt_t r8k, hholds, bd_s, if_neg (by decide), lt_e, r8, nn_s, gt_t r8k, hr, bd_s]
    have ref : ∀ (z : TH), nx_ m ≤ nx_ z → f_X15_rule (bm_ m z) y (nI t) = bc_ (f_X15_ruleHolds (si_ (si_ (si_ (bm_ m z) 1600 y 0) 1630 y 0) 1603 y 0) y (some (ga_ GM 26 0)) (nI t) (0 : Int32)) (fun x9 s10 => lt_ (fi_ s10 1658 y) fun x11 => if x11 = (12 : Int32) then (bd_ (f_X15_refused s10 y (3 : Int32)) fun x12 s13 => some (x12, s13)) else (lt_ (fr_ s10 1660 y) fun r14 => lt_ (fi_ s10 1658 y) fun x15 => gt_ (kd_ s10 (nx_ s10) = 0) <| lt_ (nx_ s10) fun a16 => lt_ (nw_ s10 15 0 7) fun s17 => bd_ (f_X13_init s17 a16) fun x18 s19 => nn_ r14 fun a20 => gt_ (kd_ s19 a20 = 27) <| gt_ (¬ (x15 < 0 ∨ ln_ s19 a20 ≤ x15.toNatClampNeg)) <| lt_ (sq_ s19 a20 x15.toNatClampNeg (some a16)) fun s21 => lt_ (fr_ s21 1660 y) fun r22 => lt_ (fi_ s21 1658 y) fun x23 => nn_ r22 fun a24 => gt_ (kd_ s21 a24 = 27) <| gt_ (¬ (x23 < 0 ∨ ln_ s21 a24 ≤ x23.toNatClampNeg)) <| lt_ (ar_ s21 a24 x23.toNatClampNeg) fun r25 => bd_ (f_X15_takesText s21 y r25 (nI t)) fun x26 s27 => lt_ (fi_ s27 1658 y) fun x28 => lt_ (si_ s27 1658 y (x28 + (1 : Int32))) fun s29 => lt_ (fi_ s29 1658 y) fun x30 => bd_ (f_X15_done s29 y x30) fun x31 s32 => some (x31, s32))) (fun q33 s34 => gt_ (kd_ s34 q33 = 16) <| lt_ (fi_ s34 1506 q33) fun x35 => lt_ (si_ s34 1603 y x35) fun s36 => lt_ (si_ s36 1601 y (4 : Int32)) fun s37 => lt_ (fi_ s37 1507 q33) fun x38 => lt_ (si_ s37 1602 y x38) fun s39 => some ((-1 : Int32), s39)) := fun z hz => by
      have hb0 := mr_bm (z := z) (mr_of k1) hz
      have hb1 := mr_si hb0 (j := 0) (c := 1600) (by decide) 0
      have it := m_isTaped hb1 (nI t)
      rw [bi_t c3] at it
      have a26 := (mr_tape (mr_t0 hb1) (n := t) (by omega)).1
      unfold f_X15_rule
      rw [gt_t (mo_y hb0.1), lt_e, it, bd_s, if_neg (by decide), lt_e, lt_e, lt_e, a26]
    have hit := fun (z : TH) (hz : nx_ m ≤ nx_ z) => m_isRule (n := t) (mr_si (mr_bm (z := z) (mr_of k1) hz) (j := 0) (c := 1600) (by decide) 0).1.1.1 (mr_si (mr_bm (z := z) (mr_of k1) hz) (j := 0) (c := 1600) (by decide) 0) k3 (by omega)
    cases hrn : rN_ true (w9_ t (aV (as_ m y GM) 26)) t (m0_ true) 0 with
    | inl e =>
      obtain ⟨F', X', Y', q1, q2, q3, q4, q5⟩ := k_readF (r := true) hS hbt 1 rfl hrn
      rw [hrn] at hit
      obtain ⟨rc1, fc1⟩ := rc_rf (f := nI e.1) (v := 4) (s2 := nI e.2) k2 (kh_fq (F := F') (X := X') (Y := Y') k2.1.1) (fun _ => rfl) ((kh_fi 701).trans q2) ((kh_fi 702).trans q3) (fun _ => (kh_fi 703).trans q4) (fun z => absurd rfl z)
      obtain ⟨m2, g1, ⟨gk, g6, g7⟩, g2, g3, g4, g5⟩ := hit (si_ (kh_ c (ga_ GC 10 0) (ga_ GC 12 0) (ga_ GC 13 0) F' X' Y') 1214 x 4) (Nat.le_of_eq k5.1)
      have rf := ref (si_ (kh_ c (ga_ GC 10 0) (ga_ GC 12 0) (ga_ GC 13 0) F' X' Y') 1214 x 4) (Nat.le_of_eq k5.1)
      rw [g1, bc9_r, gt_t gk, lt_e, g6, lt_e, lt_e, lt_e, show fi_ (si_ (si_ m2 1603 y (nI e.1)) 1601 y 4) 1507 (ga_ GM 25 0) = nI e.2 from by rw [fi_si, up2_c (by decide), fi_si, up2_c (by decide), g7], lt_e] at rf
      have cl := hread _ _ q1
      rw [oc_n, k_refused (show kd_ (kh_ c (ga_ GC 10 0) (ga_ GC 12 0) (ga_ GC 13 0) F' X' Y') x = 13 from hx), bd_s] at cl
      refine ⟨-1, _, _, cl, rf, inv_fin hI fc1 ⟨Nat.le_add_right _ _, Nat.le_add_right _ _⟩ (U := rU_ y GM) (fqi (fqi (fqi (fq_tr (fq_si (mr_bm (z := si_ (kh_ c (ga_ GC 10 0) (ga_ GC 12 0) (ga_ GC 13 0) F' X' Y') 1214 x 4) (mr_of k1) (Nat.le_of_eq k5.1)).1.1.1 (Or.inl rfl)) g3) (Or.inl rfl)) (Or.inl rfl)) (Or.inl rfl)) ⟨by show nx_ m2 ≤ _; rw [g4.1]; exact Nat.le_add_right _ _, by show sl_ m2 ≤ _; rw [g4.2]; exact Nat.le_add_right _ _⟩ (mr_S (mr_si (mr_si (mr_si g2 (j := 3) (by decide) _) (j := 1) (by decide) _) (j := 2) (by decide) _) _) (fun j hj => ?_) rc1 ?_⟩
      · have h0 := hj0 j hj
        show _ = if j = 2 then nI e.2 else if j = 1 then 4 else if j = 3 then nI e.1 else if j = 30 then 0 else aS (as_ m y GM) j
        rw [fi_si]
        by_cases z2 : j = 2
        · subst z2; rw [if_pos rfl]; exact up2_s
        rw [up2_c (by omega), if_neg z2, fi_si]
        by_cases z1 : j = 1
        · subst z1; rw [if_pos rfl]; exact up2_s
        rw [up2_c (by omega), if_neg z1, fi_si]
        by_cases z3 : j = 3
        · subst z3; rw [if_pos rfl]; exact up2_s
        rw [up2_c (by omega), if_neg z3, g5 j hj, if_neg z3, fi_si, up2_c (by omega)]
        rfl
      · obtain ⟨h1, h2, h3, h4, h5, h6, h7, d1, d2, d3, d4, d5, d6⟩ := k3
        exact ⟨h1, h2, h3, h4, h5, h6, h7, d1, d2, d3, d4, d5, d6⟩
    | inr m' =>
      obtain ⟨τ, q1, q2, q3, ⟨u1, u2, u3, u4⟩, ⟨v1, v2, v3, v4, v5⟩, ⟨w1, w2, w3⟩, kz⟩ := k_readT (r := true) k2.1.1 hS hbt 1 rfl hrn
      rw [hrn] at hit
      have cl := hread _ _ q1
      have hxl : x < nx_ c := kd_ltn k2.1.1 hx (by decide)
      have hx0 : ∀ r i, i < gc_ GC r → r ≠ 0 → ga_ GC r i ≠ x := fun r i hi hr => rc_nx k2 hi hr
      have nT : ∀ r i, i < gc_ GC r → r ≠ 10 → r ≠ 12 → r ≠ 13 → ¬ (ga_ GC r i = ga_ GC 10 0 ∨ ga_ GC r i = ga_ GC 12 0 ∨ ga_ GC r i = ga_ GC 13 0) := fun r i hi z1 z2 z3 z => by
        rcases z with z | z | z
        · exact sh_ne k2.1 hi (rc_1 k2 (by decide)) (Or.inl z1) z
        · exact sh_ne k2.1 hi (rc_1 k2 (by decide)) (Or.inl z2) z
        · exact sh_ne k2.1 hi (rc_1 k2 (by decide)) (Or.inl z3) z
      have nTx : ¬ (x = ga_ GC 10 0 ∨ x = ga_ GC 12 0 ∨ x = ga_ GC 13 0) := by
        have := nT 0 0 (rc_1 k2 (by decide)) (by decide) (by decide) (by decide)
        rw [k2.2.1.1] at this
        exact this
      have fx : ∀ d, fi_ τ d x = fi_ c d x := fun d => fq_fi q2 hxl nTx d
      have rx : ∀ d, fr_ τ d x = fr_ c d x := fun d => fq_fr q2 hxl nTx d
      have hxτ : kd_ τ x = 13 := fq_kd q2 hx (by decide)
      have hEn : ¬ ((if gc_ GC 53 = 0 then ka 200 else ga_ GC 53 0) = ga_ GC 10 0 ∨ (if gc_ GC 53 = 0 then ka 200 else ga_ GC 53 0) = ga_ GC 12 0 ∨ (if gc_ GC 53 = 0 then ka 200 else ga_ GC 53 0) = ga_ GC 13 0) := by
        by_cases z : gc_ GC 53 = 0
        · rw [if_pos z]
          intro q
          rcases q with q | q | q
          · exact rc_ka k2 (rc_1 k2 (by decide)) q.symm
          · exact rc_ka k2 (rc_1 k2 (by decide)) q.symm
          · exact rc_ka k2 (rc_1 k2 (by decide)) q.symm
        · rw [if_neg z]
          exact nT 53 0 (Nat.pos_of_ne_zero z) (by decide) (by decide) (by decide)
      have hl0 := ls_fq (rc_l3 k2 (by omega)) k2.1.1 q2 (nT 3 0 (rc_1 k2 (by decide)) (by decide) (by decide) (by decide)) hEn k2.2.1.2.2
      have z2 : fr_ τ 1202 x = some (ga_ GC 3 0) := (rx 1202).trans r2
      have z2k : kd_ τ (ga_ GC 3 0) = 1 := fq_kd q2 r2k (by decide)
      rw [oc_s, lt_e, z2, nn_s, gt_t z2k, l_size hl0, bd_s] at cl
      by_cases full : N 58 = 12
      · obtain ⟨rc1, fc1⟩ := rc_rf (f := 0) (v := 3) (s2 := -1) k2 q2 w3 w1 w2 (fun z => absurd z (by decide)) (fun _ => rfl)
        have zC : nx_ m ≤ nx_ (si_ τ 1214 x 3) := by show nx_ m ≤ nx_ τ; rw [q3.1, k5.1]; omega
        obtain ⟨u, m2, g1, g2, g3, g4, g5⟩ := hit (si_ τ 1214 x 3) zC
        have rf := ref (si_ τ 1214 x 3) zC
        have hy2 := mo_y g2.1
        have e58' : fi_ m2 1658 y = nI (N 58) := (mo_n g2.1 (j := 58) (cj := 1658) (m := 12) (by decide)).1
        rw [if_neg (show ¬ nI (N 58) < 12 from nI_nlt (b := 12) (by omega) (by omega)), k_refused hxτ, bd_s] at cl
        rw [g1, bc9_l, lt_e, e58', if_pos (show nI (N 58) = 12 from (iq9_ (b := 12) (B := 12) rfl (by omega) (by decide)).mpr full), m_refused hy2, bd_s] at rf
        refine ⟨-1, _, tr_ m2 y 3, cl, rf, inv_fin hI fc1 ⟨by show nx_ τ ≤ _; rw [q3.1]; omega, by show sl_ τ ≤ _; have := q3.2; omega⟩ (U := rU_ y GM) (fqt (fq_tr (fq_si (mr_bm (z := si_ τ 1214 x 3) (mr_of k1) zC).1.1.1 (Or.inl rfl)) g3) (Or.inl rfl)) ⟨by show nx_ m2 ≤ _; rw [g4.1]; exact Nat.le_add_right _ _, by show sl_ m2 ≤ _; rw [g4.2]; exact Nat.le_add_right _ _⟩ (mr_S (mr_tr g2 3) _) (fun j hj => ?_) rc1 ?_⟩
        · have h0 := hj0 j hj
          show _ = if j = 2 then -1 else if j = 1 then 3 else if j = 3 then 0 else if j = 30 then 0 else aS (as_ m y GM) j
          unfold tr_
          rw [fi_si]
          by_cases z2 : j = 2
          · subst z2; rw [if_pos rfl]; exact up2_s
          rw [up2_c (by omega), if_neg z2, fi_si]
          by_cases z1 : j = 1
          · subst z1; rw [if_pos rfl]; exact up2_s
          rw [up2_c (by omega), if_neg z1, g5 j hj, fi_si, up2_c (by omega)]
          rfl
        · obtain ⟨h1, h2, h3, h4, h5, h6, h7, d1, d2, d3, d4, d5, d6⟩ := k3
          exact ⟨h1, h2, h3, h4, h5, h6, h7, d1, d2, d3, d4, d5, d6⟩
      · have n12 : N 58 < 12 := by omega
        obtain ⟨e1, τ2, ka1, ka2, ka3, ka4, ka5, -⟩ := l_add (ka := ka) q2.2.1 hl0 (by omega) (b := nx_ c) (by rw [u1]; decide)
        have lt3 : ga_ GC 3 0 < nx_ c := sh_lt k2.1 (rc_1 k2 (by decide))
        have lt10 : ga_ GC 10 0 < nx_ c := sh_lt k2.1 (rc_1 k2 (by decide))
        have ltE : (if gc_ GC 53 = 0 then ka 200 else ga_ GC 53 0) < nx_ c := by
          by_cases z : gc_ GC 53 = 0
          · rw [if_pos z]; exact k2.2.1.2.2
          · rw [if_neg z]; exact sh_lt k2.1 (Nat.pos_of_ne_zero z)
        have nA : ∀ q, q < nx_ τ → q ≠ ga_ GC 3 0 → q ≠ (if gc_ GC 53 = 0 then ka 200 else ga_ GC 53 0) → ce_ τ2 q = ce_ τ q := fun q hq z1 z2 => ka3.2.2 q hq (fun z => z.elim z1 z2)
        have x3 : x ≠ ga_ GC 3 0 := (hx0 3 0 (rc_1 k2 (by decide)) (by decide)).symm
        have xE : x ≠ (if gc_ GC 53 = 0 then ka 200 else ga_ GC 53 0) := by
          by_cases z : gc_ GC 53 = 0
          · rw [if_pos z, ← k2.2.1.1]; exact rc_ka k2 (rc_1 k2 (by decide))
          · rw [if_neg z]; exact (hx0 53 0 (Nat.pos_of_ne_zero z) (by decide)).symm
        have r3 : ga_ GC 10 0 ≠ ga_ GC 3 0 := sh_ne k2.1 (rc_1 k2 (by decide)) (rc_1 k2 (by decide)) (Or.inl (by decide))
        have rE : ga_ GC 10 0 ≠ (if gc_ GC 53 = 0 then ka 200 else ga_ GC 53 0) := fun z => hEn (Or.inl z.symm)
        have cex := nA x (by omega) x3 xE
        have ce10 := nA (ga_ GC 10 0) (by omega) r3 rE
        have cea := nA (nx_ c) (by omega) (by omega) (by omega)
        have ceb := nA (nx_ c + 1) (by omega) (by omega) (by omega)
        have hx2 : kd_ τ2 x = 13 := fq_kd ka3 hxτ (by decide)
        obtain ⟨C, hC⟩ : ∃ C, C = si_ τ2 1214 x 0 := ⟨_, rfl⟩
        have cl2 : f_X11_rule ka c x (nI t) = some (nI (N 58 + 1), C) := by
          rw [cl, if_pos (show nI (N 58) < 12 from nI_lt (b := 12) n12 (by decide)), lt_e, z2, nn_s, gt_t z2k, ka1, bd_s, lt_e, show fr_ τ2 1202 x = some (ga_ GC 3 0) from (congrFun (congrArg (fun z => z.2.2.1) cex) 1202).trans z2, nn_s, gt_t (fq_kd ka3 z2k (by decide)), l_size ka2, bd_s, k_granted hx2, bd_s, hC]
        have nC : nx_ C = nx_ τ2 := by rw [hC]; rfl
        have slC : sl_ C = sl_ τ2 := by rw [hC]; rfl
        have b2c : nx_ τ2 ≤ nx_ c + 3 ∧ sl_ τ2 ≤ sl_ c + 900 + 2000 := by
          have := q3.1
          have := q3.2
          rcases ka4 with ⟨-, -, y1, y2⟩ | ⟨-, y1, y2⟩
          · exact ⟨by omega, by omega⟩
          · exact ⟨by omega, by omega⟩
        have lc : nx_ c ≤ nx_ τ2 := by
          have := ka3.1.1
          have := q3.1
          omega
        have fC : fq_ (fun q => (q = x ∨ q = ga_ GC 10 0 ∨ q = ga_ GC 12 0 ∨ q = ga_ GC 13 0) ∨ q = ga_ GC 3 0 ∨ q = (if gc_ GC 53 = 0 then ka 200 else ga_ GC 53 0)) c C := by
          rw [hC]
          exact fqi (fq_tr (fq_w q2 (fun _ q => Or.inl (Or.inr q))) (fq_w ka3 (fun _ q => Or.inr q))) (Or.inl (Or.inl rfl))
        have zC : nx_ m ≤ nx_ C := by rw [nC, k5.1]; exact lc
        have hb0 := mr_bm (z := C) (mr_of k1) zC
        obtain ⟨u, m2, g1, g2, g3, g4, g5⟩ := hit C zC
        have rf := ref C zC
        have hy2 := mo_y g2.1
        have e58' : fi_ m2 1658 y = nI (N 58) := (mo_n g2.1 (j := 58) (cj := 1658) (m := 12) (by decide)).1
        have wm2 := g2.1.1.1
        have yl : y < nx_ m2 := kd_ltn wm2 hy2 (by decide)
        obtain ⟨a26, b26, c26⟩ := mo_a g2.1 (j := 26) (cj := 1626) (K := 21) (n := 400) (by decide)
        obtain ⟨a60, b60, c60⟩ := mo_a g2.1 (j := 60) (cj := 1660) (K := 27) (n := 12) (by decide)
        have l26 : ga_ GM 26 0 < nx_ m2 := kd_ltn wm2 b26 (by decide)
        have l60 : ga_ GM 60 0 < nx_ m2 := kd_ltn wm2 b60 (by decide)
        have n26 : ga_ GM 26 0 ≠ ga_ GM 60 0 := fun e => by rw [e, b60] at b26; cases b26
        have y60 : y ≠ ga_ GM 60 0 := fun e => by rw [e, b60] at hy2; cases hy2
        obtain ⟨aa, haa⟩ : ∃ aa, aa = nx_ m2 := ⟨_, rfl⟩
        obtain ⟨M, hM⟩ : ∃ M, M = sq_ (nw_ m2 15 0 7) (ga_ GM 60 0) (N 58) (some aa) := ⟨_, rfl⟩
        have fM0 : fq_ (fun q => q = ga_ GM 60 0) m2 M := by
          rw [hM]
          exact fqq (fq_nw wm2 (by decide)) rfl
        have nM : nx_ M = nx_ m2 + 1 := by rw [hM]; rfl
        have slM : sl_ M = sl_ m2 + 7 := by rw [hM]; rfl
        have kM : kd_ M aa = 15 := by rw [hM, haa]; exact kd_nw m2 15 0 7
        have tM : ai_ M (ga_ GM 26 0) = aV (as_ m y GM) 26 := by
          have : ai_ M (ga_ GM 26 0) = ai_ m2 (ga_ GM 26 0) := congrArg (fun z => z.2.2.2.2.1) (fM0.2.2 _ l26 n26)
          rw [this]
          exact mr_V' g2 (by decide)
        obtain ⟨m3, j1, j2, j3, ⟨j4, j5, j6⟩, j7, j8, j9, j10, j11⟩ := m_takesText (σ := M) (T := ga_ GM 26 0) (a := aa) (n := t) fM0.2.1 (fq_kd fM0 hy2 (by decide)) kM ⟨(fq_fr fM0 yl y60 1626).trans a26, fq_kd fM0 b26 (by decide), (fM0.1.2.2.2.2 _ (by rw [b26]; decide)).2.trans c26⟩ (by omega) (fun j hj => by rw [tM]; exact k3.2.2.2.2.2.2.2.2.2.2.2.2 j hj)
        have nya : ¬ (y = aa) := by omega
        have y3r : ∀ d, fr_ m3 d y = fr_ m2 d y := fun d => (fq_fr j2 (by omega) nya d).trans (fq_fr fM0 yl y60 d)
        have y3f : ∀ d, fi_ m3 d y = fi_ m2 d y := fun d => (fq_fi j2 (by omega) nya d).trans (fq_fi fM0 yl y60 d)
        have hy3 : kd_ m3 y = 17 := fq_kd j2 (fq_kd fM0 hy2 (by decide)) (by decide)
        have ar60 : ar_ m3 (ga_ GM 60 0) = ar_ M (ga_ GM 60 0) := congrArg (fun z => z.2.2.2.2.2.1) (j2.2.2 _ (by omega) (by omega))
        obtain ⟨M4, hM4⟩ : ∃ M4, M4 = tr_ (si_ m3 1658 y (nI (N 58 + 1))) y 0 := ⟨_, rfl⟩
        have rf2 : f_X15_rule (bm_ m C) y (nI t) = some (nI (N 58 + 1), M4) := by
          have i12 := ix9_ (k := N 58) (M := 12) (by omega) (by omega)
          have k60 : kd_ (nw_ m2 15 0 7) (ga_ GM 60 0) = 27 := (kd_nwn (by omega)).trans b60
          have l60' : ln_ (nw_ m2 15 0 7) (ga_ GM 60 0) = 12 := (ln_nwn (by omega)).trans c60
          have rM : fr_ M 1660 y = some (ga_ GM 60 0) := (fq_fr fM0 yl y60 1660).trans a60
          have fM : fi_ M 1658 y = nI (N 58) := (fq_fi fM0 yl y60 1658).trans e58'
          have kM60 : kd_ M (ga_ GM 60 0) = 27 := fq_kd fM0 b60 (by decide)
          have lM60 : ln_ M (ga_ GM 60 0) = 12 := by rw [hM]; exact l60'
          have aM60 : ar_ M (ga_ GM 60 0) (N 58) = some aa := by rw [hM]; exact up2_s
          have w58 : fi_ m3 1658 y = nI (N 58) := (y3f 1658).trans e58'
          rw [rf, g1, bc9_l, lt_e, e58', if_neg (fun q => by have := (iq9_ (b := 12) (B := 12) rfl (by omega) (by decide)).mp q; omega), lt_e, a60, lt_e, gt_t (wf_0 wm2 (Nat.le_refl _)), lt_e, lt_e]
          unfold f_X13_init
          rw [bd_s, nn_s, gt_t k60, nI_clamp (by omega), l60', gt_t i12, lt_e, ← haa, ← hM, lt_e, rM, lt_e, fM, nn_s, gt_t kM60, nI_clamp (by omega), lM60, gt_t i12, lt_e, aM60, j1, bd_s, lt_e, w58, nI_1, lt_e, lt_e, fi_si, up2_s, m_done (show kd_ (si_ m3 1658 y (nI (N 58 + 1))) y = 17 from hy3), bd_s, hM4]
        have f4 : fq_ (fun q => q = y ∨ q = ga_ GM 60 0) m2 M4 := by
          have f3 : fq_ (fun q => q = y ∨ q = ga_ GM 60 0) m2 m3 := by
            refine ⟨tl_tr fM0.1 j2.1, j2.2.1, fun q hq hT => ?_⟩
            exact (j2.2.2 q (by omega) (by omega)).trans (fM0.2.2 q hq (fun z => hT (Or.inr z)))
          rw [hM4]
          exact fqt (fqi f3 (Or.inl rfl)) (Or.inl rfl)
        have kb : kd_ M4 (nx_ M) = 21 := by rw [hM4]; exact j4
        have lb : ln_ M4 (nx_ M) = t := by rw [hM4]; exact j5
        have ab : ∀ i, ai_ M4 (nx_ M) i = if i < t then ai_ M (ga_ GM 26 0) i else 0 := fun i => by rw [hM4]; exact j6 i
        have mfi : ∀ j, fi_ M4 (1600 + j) y = if j = 2 then -1 else if j = 1 then 0 else if j = 58 then nI (N 58 + 1) else fi_ m2 (1600 + j) y := fun j => by
          rw [hM4]
          unfold tr_
          rw [fi_si]
          by_cases z2 : j = 2
          · subst z2; rw [if_pos rfl]; exact up2_s
          rw [up2_c (by omega), if_neg z2, fi_si]
          by_cases z1 : j = 1
          · subst z1; rw [if_pos rfl]; exact up2_s
          rw [up2_c (by omega), if_neg z1, fi_si]
          by_cases z58 : j = 58
          · subst z58; rw [if_pos rfl]; exact up2_s
          rw [up2_c (by omega), if_neg z58]
          exact y3f _
        have hm := mr_nR (τ := M4) (a := aa) (b := nx_ M) g2 n12 f4 (by omega) (by omega) (by omega) (by rw [hM4]; exact fq_kd j2 kM (by decide)) kb (fun d => by rw [hM4]; exact y3r d) (by rw [hM4]; exact j7) (fun k => by
            have e : ar_ M4 (ga_ GM 60 0) = ar_ M (ga_ GM 60 0) := by rw [hM4]; exact ar60
            rw [e, hM]
            show up2_ (ar_ (nw_ m2 15 0 7)) (ga_ GM 60 0) (N 58) (some aa) (ga_ GM 60 0) k = if k = N 58 then some aa else ar_ m2 (ga_ GM 60 0) k
            by_cases z : k = N 58
            · rw [if_pos z, z]; exact up2_s
            · rw [if_neg z, up2_n z, ar_nwn (by omega)]) (fun j hj => by
            have hj3 : ∀ j, j ∈ MN → j ≠ 1 ∧ j ≠ 2 := by decide
            rw [mfi j, if_neg (hj3 j hj).2, if_neg (hj3 j hj).1]
            rfl)
        obtain ⟨R9, hRd⟩ : ∃ R9 : Nat → Nat → Int32, R9 = fun k => if k = N 58 then ai_ M4 (nx_ M) else aR (as_ m y GM) k := ⟨_, rfl⟩
        obtain ⟨L9, hLd⟩ : ∃ L9 : Nat → Nat, L9 = fun k => if k = N 58 then ln_ M4 (nx_ M) else aM (as_ m y GM) k := ⟨_, rfl⟩
        have hm : mr_ M4 y (gn_ (gn_ GM 102 aa) 103 (nx_ M)) (aS (as_ m y GM), aV (as_ m y GM), aP (as_ m y GM), aB (as_ m y GM), aL (as_ m y GM), R9, L9, (as_ m y GM).2.2.2.2.2.2.2) (fun q => if q = 58 then N 58 + 1 else if q = 30 then 0 else N q) := by
          rw [hRd, hLd]
          exact hm
        have Bo : ∀ k, k < N 58 → R9 k = aR (as_ m y GM) k ∧ L9 k = aM (as_ m y GM) k := fun k hk => by
          rw [hRd, hLd]
          exact ⟨if_neg (by omega), if_neg (by omega)⟩
        have Ln : L9 (N 58) = t := by
          rw [hLd]
          exact (if_pos rfl).trans lb
        have Bn : R9 (N 58) = ai_ M4 (nx_ M) := by
          rw [hRd]
          exact if_pos rfl
        have x10 : ga_ GC 10 0 ≠ x := hx0 10 0 (rc_1 k2 (by decide)) (by decide)
        have he1 : (0 < gc_ GC 53 ∧ e1 = ga_ GC 53 0) ∨ nx_ τ ≤ e1 := by
          rcases ka4 with ⟨y1, y2, -⟩ | ⟨y1, -⟩
          · refine Or.inl ?_
            by_cases z : gc_ GC 53 = 0
            · rw [if_pos z, fq_k0 q2 k2.1.1 k2.2.1.2.2 k2.2.1.2.1] at y2
              cases y2
            · rw [if_neg z] at y1
              exact ⟨Nat.pos_of_ne_zero z, y1⟩
          · exact Or.inr (by omega)
        have ne1 : nx_ c ≠ e1 ∧ nx_ c + 1 ≠ e1 := by
          have := q3.1
          rcases he1 with ⟨y1, y2⟩ | y1
          · have := sh_lt k2.1 y1
            rw [← y2] at this
            exact ⟨by omega, by omega⟩
          · exact ⟨by omega, by omega⟩
        have hlC : ls_ ka C (ga_ GC 3 0) e1 (N 58 + 1) (fun i => if i = N 58 then nx_ c else ga_ GC 39 i) := by
          rw [hC]
          have ltE1 : e1 < nx_ τ2 := kd_ltn ka3.2.1 ka5 (by decide)
          have xe1 : e1 ≠ x := fun z => by
            rw [z, hx2] at ka5
            cases ka5
          exact ls_fq ka2 ka3.2.1 (fq_si (T := fun q => q = x) ka3.2.1 rfl) (fun z => x3 z.symm) xe1 (by
            have := k2.2.1.2.2
            omega)
        have rc1 := rc_nr (c1 := C) (a := nx_ c) (b := nx_ c + 1) (e1 := e1) (RR := R9) (M := L9) k2 fC
          (fun d => by rw [hC]; exact (congrFun (congrArg (fun z => z.2.2.1) cex) d).trans (rx d))
          (fun d z4 => by rw [hC, fi_si, up2_c z4]; exact (congrFun (congrArg (fun z => z.2.1) cex) d).trans (fx d))
          (by rw [hC, fi_si, up2_s])
          (fun d => by rw [hC]; exact (congrFun (congrArg (fun z => z.2.2.1) ce10) d).trans (w3 d))
          (by rw [hC, fi_si, up2_ne (fun q => x10 q.2)]; exact (congrFun (congrArg (fun z => z.2.1) ce10) 701).trans w1)
          (by rw [hC, fi_si, up2_ne (fun q => x10 q.2)]; exact (congrFun (congrArg (fun z => z.2.1) ce10) 702).trans w2)
          (by rw [hC]; exact ka5) (he1.elim Or.inl (fun q => Or.inr (by omega))) hlC (Nat.le_refl _) (Nat.le_succ _) (by omega) ne1.1 ne1.2
          ⟨by rw [hC]; exact fq_kd ka3 u1 (by decide), by rw [hC]; exact (congrFun (congrArg (fun z => z.2.2.1) cea) 1000).trans u2⟩
          (by rw [hC]; exact fq_kd ka3 v1 (by decide))
          (by
            have ac : ai_ C (nx_ c + 1) = ai_ τ (nx_ c + 1) := by rw [hC]; exact congrArg (fun z => z.2.2.2.2.1) ceb
            have lc : ln_ C (nx_ c + 1) = (mS_ m').length := by rw [hC]; exact (congrArg (fun z => z.1) ceb).trans v2
            rw [ac, lc, Ln, Bn]
            have ew : w9_ t (ai_ M4 (nx_ M)) = w9_ t (aV (as_ m y GM) 26) := w9_ext (fun i hi => by rw [ab i, if_pos hi, tM])
            exact ⟨by omega, m', by rw [ew]; exact hrn, rfl, by omega, v4, v5⟩)
          Bo
        refine ⟨nI (N 58 + 1), C, M4, cl2, rf2, inv_fin hI fC ⟨by rw [nC]; have := b2c.1; omega, by rw [slC]; have := b2c.2; omega⟩ (U := fun q => rU_ y GM q ∨ q = ga_ GM 60 0) (fq_tr (fq_tr (fq_si hb0.1.1.1 (Or.inl (Or.inl rfl))) (fq_w g3 (fun _ q => Or.inl q))) (fq_w f4 (fun _ q => q.elim (fun q => Or.inl (Or.inl q)) Or.inr))) ?_ (mr_S hm _) (fun j hj => ?_) rc1 ?_⟩
        · have z1 : nx_ M4 = nx_ m3 := by rw [hM4]; rfl
          have z2 : sl_ M4 = sl_ m3 := by rw [hM4]; rfl
          rw [z1, z2, j3.1, j3.2, nM, slM, g4.1, g4.2]
          exact ⟨by show nx_ C + 1 + 1 ≤ _; omega, by show sl_ C + 7 + t ≤ _; omega⟩
        · have h0 := hj0 j hj
          have h58 : ∀ j, j ∈ DS → j ≠ 58 := by decide
          show _ = if j = 2 then -1 else if j = 1 then 0 else if j = 3 then 0 else if j = 30 then 0 else aS (as_ m y GM) j
          rw [mfi j]
          by_cases z2 : j = 2
          · rw [if_pos z2, if_pos z2]
          rw [if_neg z2, if_neg z2]
          by_cases z1 : j = 1
          · rw [if_pos z1, if_pos z1]
          rw [if_neg z1, if_neg z1, if_neg (h58 j hj), g5 j hj, fi_si, up2_c (by omega)]
          rfl
        · obtain ⟨h1, h2, h3, h4, h5, h6, h7, d1, d2, d3, d4, d5, d6⟩ := k3
          exact ⟨h1, h2, h3, h4, h5, h6, h7, d1, d2, d3, d4, d5, d6⟩
  · have hholds := k_holds k2 e30 a0
    rw [bi_f c3] at hholds
    refine ⟨-1, si_ c 1214 x 2, tr_ (si_ (bm_ m (si_ c 1214 x 2)) 1600 y 0) y 2, ?_, ?_, no_ pv_S hI 2 (by decide)⟩
    · unfold f_X11_rule
      rw [gt_t hx, lt_e, r8, nn_s, gt_t r8k, hholds, bd_s, if_pos rfl, k_refused hx, bd_s]
    · have h1 := mr_si (mr_bm (z := si_ c 1214 x 2) (mr_of k1) (Nat.le_of_eq k5.1)) (j := 0) (c := 1600) (by decide) 0
      unfold f_X15_rule
      rw [gt_t (show kd_ (bm_ m (si_ c 1214 x 2)) y = 17 from mo_yb k1), lt_e]
      generalize si_ (bm_ m (si_ c 1214 x 2)) 1600 y 0 = σ at h1 ⊢
      have it := m_isTaped h1 a0
      rw [bi_f c3] at it
      have hy := mo_y h1.1
      rw [it, bd_s, if_pos rfl, m_refused hy, bd_s]
end RU8
