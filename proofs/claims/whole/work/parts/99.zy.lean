/-! THE REFERENCE KEEPS ONE MORE EDITION; what lies outside changes nothing. Written by wip/b/mk99zy.py. -/
theorem rc_fh {ka : Nat → Nat} {TX : Nat → Nat → (Nat → Int32) → Nat → (Nat → Int32) → Prop} {σ τ : TH} {x : Nat} {G : GH} {A : AS} {N : Nat → Nat} {T : Nat → Prop} (h : rc_ ka TX σ x G A N) (hf : fq_ T σ τ) (hT : ∀ q, T q → fh_ G q) : rc_ ka TX τ x G A N := by
  have hlt := h.2.1.2.2
  refine ⟨sh_fq h.1 hf, ⟨h.2.1.1, fq_k0 hf h.1.1 hlt h.2.1.2.1, Nat.lt_of_lt_of_le hlt hf.1.1⟩, h.2.2.1, fun r i hi => ?_⟩
  rw [rc_ce h hf hi (fun t => hT _ t r i hi rfl)]
  exact h.2.2.2 r i hi
section MNE
variable {σ τ : TH} {y : Nat} {G : GH} {A : AS} {N : Nat → Nat}
theorem mr_fh {T : Nat → Prop} (h : mr_ σ y G A N) (hf : fq_ T σ τ) (hT : ∀ q, T q → fh_ G q) : mr_ τ y G A N := by
  have lt100 : ∀ r, r ∈ MA → r < 100 := by decide
  obtain ⟨⟨c100, c101, c102, c103, c104, c105, c106⟩, mpP, mpR, mpE⟩ := h.1.2.1.2.2
  have g0 : 0 < gc_ G 0 := by rw [h.1.2.1.1]; decide
  have gA : ∀ j, j ∈ MA → 0 < gc_ G j := fun j hj => by rw [(h.1.2.2.1 j hj).1]; decide
  have ce : ∀ r i, i < gc_ G r → ce_ τ (ga_ G r i) = ce_ σ (ga_ G r i) := fun r i hi => hf.2.2 _ (sh_lt h.1.1 hi) (fun z => hT _ z r i hi rfl)
  have cfi : ∀ r i, i < gc_ G r → ∀ c, fi_ τ c (ga_ G r i) = fi_ σ c (ga_ G r i) := fun r i hi c => congrFun (congrArg (fun z => z.2.1) (ce r i hi)) c
  have cfr : ∀ r i, i < gc_ G r → ∀ c, fr_ τ c (ga_ G r i) = fr_ σ c (ga_ G r i) := fun r i hi c => congrFun (congrArg (fun z => z.2.2.1) (ce r i hi)) c
  have cai : ∀ r i, i < gc_ G r → ai_ τ (ga_ G r i) = ai_ σ (ga_ G r i) := fun r i hi => congrArg (fun z => z.2.2.2.2.1) (ce r i hi)
  have car : ∀ r i, i < gc_ G r → ar_ τ (ga_ G r i) = ar_ σ (ga_ G r i) := fun r i hi => congrArg (fun z => z.2.2.2.2.2.1) (ce r i hi)
  have cln : ∀ r i, i < gc_ G r → ln_ τ (ga_ G r i) = ln_ σ (ga_ G r i) := fun r i hi => congrArg (fun z => z.1) (ce r i hi)
  have y0 : y < nx_ σ := by
    have := sh_lt h.1.1 g0
    rw [h.1.2.1.2.1] at this
    exact this
  have ey := ce 0 0 g0
  rw [h.1.2.1.2.1] at ey
  have hfr : ∀ c, fr_ τ c y = fr_ σ c y := fun c => congrFun (congrArg (fun z => z.2.2.1) ey) c
  have hfi : ∀ c, fi_ τ c y = fi_ σ c y := fun c => congrFun (congrArg (fun z => z.2.1) ey) c
  refine ⟨⟨sh_fq h.1.1 hf, ⟨h.1.2.1.1, h.1.2.1.2.1, ?_⟩, fun j hj => ?_, fun j hj => ?_⟩, fun j hj => ?_, ?_⟩
  · refine ⟨⟨c100, c101, c102, c103, c104, c105, c106⟩, fun k hk => ?_, fun k hk => ?_, fun k hk => ?_⟩
    · have hkG : k < gc_ G 100 := by rw [c100]; exact hk
      rw [car 48 0 (gA 48 (by decide)), cfr 100 k hkG]
      exact mpP k hk
    · have hkG : k < gc_ G 102 := by rw [c102]; exact hk
      rw [car 60 0 (gA 60 (by decide)), cfr 102 k hkG]
      exact mpR k hk
    · have hkG : k < gc_ G 104 := by rw [c104]; exact hk
      rw [car 82 0 (gA 82 (by decide)), cfr 104 k hkG, cfr 104 k hkG]
      exact mpE k hk
  · rw [hfr]
    exact h.1.2.2.1 j hj
  · rw [hfi]
    exact h.1.2.2.2 j hj
  · have hj2 : ∀ j, j ∈ MV → j ∈ MA := by decide
    have j1 := hj2 j hj
    rw [as_V j1, cai j 0 (gA j j1)]
    exact mr_V' h hj
  · have p0 := h.2.2
    have pP : aP (as_ σ y G) = aP A := congrArg (fun z => z.1) p0
    have pB : aB (as_ σ y G) = aB A := congrArg (fun z => z.2.1) p0
    have pL : aL (as_ σ y G) = aL A := congrArg (fun z => z.2.2.1) p0
    have pR : aR (as_ σ y G) = aR A := congrArg (fun z => z.2.2.2.1) p0
    have pM : aM (as_ σ y G) = aM A := congrArg (fun z => z.2.2.2.2.1) p0
    have pE : aE (as_ σ y G) = aE A := congrArg (fun z => z.2.2.2.2.2.1) p0
    have pD : aD (as_ σ y G) = aD A := congrArg (fun z => z.2.2.2.2.2.2.1) p0
    have pF : aF (as_ σ y G) = aF A := congrArg (fun z => z.2.2.2.2.2.2.2) p0
    have e0 : aP (as_ τ y (G)) = aP A := by
      rw [← pP]
      funext c k
      show (if c < 1500 ∧ k < gc_ (G) 100 then fi_ τ c (ga_ (G) 100 k) else 0) = if c < 1500 ∧ k < gc_ G 100 then fi_ σ c (ga_ G 100 k) else 0
      by_cases z : c < 1500 ∧ k < gc_ G 100
      · rw [if_pos z, if_pos z, cfi 100 k z.2]
      · rw [if_neg z, if_neg z]
    have e1 : aB (as_ τ y (G)) = aB A := by
      rw [← pB]
      funext k
      show (if k < gc_ (G) 101 then ai_ τ (ga_ (G) 101 k) else fun _ => (0 : Int32)) = if k < gc_ G 101 then ai_ σ (ga_ G 101 k) else fun _ => (0 : Int32)
      by_cases z : k < gc_ G 101
      · rw [if_pos z, if_pos z, cai 101 k z]
      · rw [if_neg z, if_neg z]
    have e2 : aL (as_ τ y (G)) = aL A := by
      rw [← pL]
      funext k
      show (if k < gc_ (G) 101 then ln_ τ (ga_ (G) 101 k) else 0) = if k < gc_ G 101 then ln_ σ (ga_ G 101 k) else 0
      by_cases z : k < gc_ G 101
      · rw [if_pos z, if_pos z, cln 101 k z]
      · rw [if_neg z, if_neg z]
    have e3 : aR (as_ τ y (G)) = aR A := by
      rw [← pR]
      funext k
      show (if k < gc_ (G) 103 then ai_ τ (ga_ (G) 103 k) else fun _ => (0 : Int32)) = if k < gc_ G 103 then ai_ σ (ga_ G 103 k) else fun _ => (0 : Int32)
      by_cases z : k < gc_ G 103
      · rw [if_pos z, if_pos z, cai 103 k z]
      · rw [if_neg z, if_neg z]
    have e4 : aM (as_ τ y (G)) = aM A := by
      rw [← pM]
      funext k
      show (if k < gc_ (G) 103 then ln_ τ (ga_ (G) 103 k) else 0) = if k < gc_ G 103 then ln_ σ (ga_ G 103 k) else 0
      by_cases z : k < gc_ G 103
      · rw [if_pos z, if_pos z, cln 103 k z]
      · rw [if_neg z, if_neg z]
    have e5 : aE (as_ τ y (G)) = aE A := by
      rw [← pE]
      funext c k
      show (if c < 1400 ∧ k < gc_ (G) 104 then fi_ τ c (ga_ (G) 104 k) else 0) = if c < 1400 ∧ k < gc_ G 104 then fi_ σ c (ga_ G 104 k) else 0
      by_cases z : c < 1400 ∧ k < gc_ G 104
      · rw [if_pos z, if_pos z, cfi 104 k z.2]
      · rw [if_neg z, if_neg z]
    have e6 : aD (as_ τ y (G)) = aD A := by
      rw [← pD]
      funext k
      show (if k < gc_ (G) 105 then ai_ τ (ga_ (G) 105 k) else fun _ => (0 : Int32)) = if k < gc_ G 105 then ai_ σ (ga_ G 105 k) else fun _ => (0 : Int32)
      by_cases z : k < gc_ G 105
      · rw [if_pos z, if_pos z, cai 105 k z]
      · rw [if_neg z, if_neg z]
    have e7 : aF (as_ τ y (G)) = aF A := by
      rw [← pF]
      funext k
      show (if k < gc_ (G) 106 then ai_ τ (ga_ (G) 106 k) else fun _ => (0 : Int32)) = if k < gc_ G 106 then ai_ σ (ga_ G 106 k) else fun _ => (0 : Int32)
      by_cases z : k < gc_ G 106
      · rw [if_pos z, if_pos z, cai 106 k z]
      · rw [if_neg z, if_neg z]
    show (aP (as_ τ y (G)), aB (as_ τ y (G)), aL (as_ τ y (G)), aR (as_ τ y (G)), aM (as_ τ y (G)), aE (as_ τ y (G)), aD (as_ τ y (G)), aF (as_ τ y (G))) = _
    rw [e0, e1, e2, e3, e4, e5, e6, e7]
    all_goals rfl
theorem mr_nE {a b d : Nat} (h : mr_ σ y G A N) (hN : N 71 < 80) (hf : fq_ (fun q => q = y ∨ q = ga_ G 82 0) σ τ) (ha : fh_ G a) (hb : fh_ G b) (hd : fh_ G d) (hab : a ≠ b) (had : a ≠ d) (hbd : b ≠ d) (ka : kd_ τ a = 14) (kb : kd_ τ b = 20 ∧ ln_ τ b = 10) (kdd : kd_ τ d = 20 ∧ ln_ τ d = 10) (hfr : ∀ c, fr_ τ c y = fr_ σ c y) (h9 : fr_ τ 1309 a = some b) (h10 : fr_ τ 1310 a = some d) (hA : ∀ k, ar_ τ (ga_ G 82 0) k = if k = N 71 then some a else ar_ σ (ga_ G 82 0) k) (hfi : ∀ j, j ∈ MN → fi_ τ (1600 + j) y = if j = 71 then nI (N 71 + 1) else fi_ σ (1600 + j) y) : mr_ τ y (gn_ (gn_ (gn_ G 104 a) 105 b) 106 d) (aS A, aV A, aP A, aB A, aL A, aR A, aM A, (fun c k => if k = N 71 then (if c < 1400 then fi_ τ c a else 0) else aE A c k), (fun k => if k = N 71 then ai_ τ b else aD A k), (fun k => if k = N 71 then ai_ τ d else aF A k)) (fun q => if q = 71 then N 71 + 1 else N q) := by
  have lt100 : ∀ r, r ∈ MA → r < 100 := by decide
  obtain ⟨⟨c100, c101, c102, c103, c104, c105, c106⟩, mpP, mpR, mpE⟩ := h.1.2.1.2.2
  have g0 : 0 < gc_ G 0 := by rw [h.1.2.1.1]; decide
  have gA : ∀ j, j ∈ MA → 0 < gc_ G j := fun j hj => by rw [(h.1.2.2.1 j hj).1]; decide
  have ce : ∀ r i, i < gc_ G r → r ≠ 0 ∧ r ≠ 82 → ce_ τ (ga_ G r i) = ce_ σ (ga_ G r i) := fun r i hi hr => hf.2.2 _ (sh_lt h.1.1 hi) (fun z => by
    rcases z with z | z
    · rw [← h.1.2.1.2.1] at z
      exact sh_ne h.1.1 hi g0 (Or.inl hr.1) z
    · exact sh_ne h.1.1 hi (gA 82 (by decide)) (Or.inl hr.2) z)
  have cfi : ∀ r i, i < gc_ G r → r ≠ 0 ∧ r ≠ 82 → ∀ c, fi_ τ c (ga_ G r i) = fi_ σ c (ga_ G r i) := fun r i hi hr c => congrFun (congrArg (fun z => z.2.1) (ce r i hi hr)) c
  have cfr : ∀ r i, i < gc_ G r → r ≠ 0 ∧ r ≠ 82 → ∀ c, fr_ τ c (ga_ G r i) = fr_ σ c (ga_ G r i) := fun r i hi hr c => congrFun (congrArg (fun z => z.2.2.1) (ce r i hi hr)) c
  have cai : ∀ r i, i < gc_ G r → r ≠ 0 ∧ r ≠ 82 → ai_ τ (ga_ G r i) = ai_ σ (ga_ G r i) := fun r i hi hr => congrArg (fun z => z.2.2.2.2.1) (ce r i hi hr)
  have car : ∀ r i, i < gc_ G r → r ≠ 0 ∧ r ≠ 82 → ar_ τ (ga_ G r i) = ar_ σ (ga_ G r i) := fun r i hi hr => congrArg (fun z => z.2.2.2.2.2.1) (ce r i hi hr)
  have cln : ∀ r i, i < gc_ G r → r ≠ 0 ∧ r ≠ 82 → ln_ τ (ga_ G r i) = ln_ σ (ga_ G r i) := fun r i hi hr => congrArg (fun z => z.1) (ce r i hi hr)
  have gco : ∀ r, r ≠ 104 ∧ r ≠ 105 ∧ r ≠ 106 → gc_ (gn_ (gn_ (gn_ G 104 a) 105 b) 106 d) r = gc_ G r := fun r z => by simp [gn_, gc_, z]
  have gao : ∀ r i, r ≠ 104 ∧ r ≠ 105 ∧ r ≠ 106 → ga_ (gn_ (gn_ (gn_ G 104 a) 105 b) 106 d) r i = ga_ G r i := fun r i z => by simp [gn_, ga_, z]
  have gc4 : gc_ (gn_ (gn_ (gn_ G 104 a) 105 b) 106 d) 104 = N 71 + 1 := by rw [← c104]; rfl
  have gc5 : gc_ (gn_ (gn_ (gn_ G 104 a) 105 b) 106 d) 105 = N 71 + 1 := by rw [← c105]; rfl
  have gc6 : gc_ (gn_ (gn_ (gn_ G 104 a) 105 b) 106 d) 106 = N 71 + 1 := by rw [← c106]; rfl
  have ga4 : ∀ k, ga_ (gn_ (gn_ (gn_ G 104 a) 105 b) 106 d) 104 k = if k = N 71 then a else ga_ G 104 k := fun k => by
    rw [← c104]
    show (if 104 = 106 ∧ k = gc_ (gn_ (gn_ G 104 a) 105 b) 106 then d else if 104 = 105 ∧ k = gc_ (gn_ G 104 a) 105 then b else if 104 = 104 ∧ k = gc_ G 104 then a else ga_ G 104 k) = _
    simp [show gc_ (gn_ (gn_ G 104 a) 105 b) 106 = gc_ G 106 from rfl, show gc_ (gn_ G 104 a) 105 = gc_ G 105 from rfl]
  have ga5 : ∀ k, ga_ (gn_ (gn_ (gn_ G 104 a) 105 b) 106 d) 105 k = if k = N 71 then b else ga_ G 105 k := fun k => by
    rw [← c105]
    show (if 105 = 106 ∧ k = gc_ (gn_ (gn_ G 104 a) 105 b) 106 then d else if 105 = 105 ∧ k = gc_ (gn_ G 104 a) 105 then b else if 105 = 104 ∧ k = gc_ G 104 then a else ga_ G 105 k) = _
    simp [show gc_ (gn_ (gn_ G 104 a) 105 b) 106 = gc_ G 106 from rfl, show gc_ (gn_ G 104 a) 105 = gc_ G 105 from rfl]
  have ga6 : ∀ k, ga_ (gn_ (gn_ (gn_ G 104 a) 105 b) 106 d) 106 k = if k = N 71 then d else ga_ G 106 k := fun k => by
    rw [← c106]
    show (if 106 = 106 ∧ k = gc_ (gn_ (gn_ G 104 a) 105 b) 106 then d else if 106 = 105 ∧ k = gc_ (gn_ G 104 a) 105 then b else if 106 = 104 ∧ k = gc_ G 104 then a else ga_ G 106 k) = _
    simp [show gc_ (gn_ (gn_ G 104 a) 105 b) 106 = gc_ G 106 from rfl, show gc_ (gn_ G 104 a) 105 = gc_ G 105 from rfl]
  refine ⟨⟨?_, ⟨?_, ?_, ?_⟩, fun j hj => ?_, fun j hj => ?_⟩, fun j hj => ?_, ?_⟩
  · exact sh_gn2 (r := 106) (sh_gn2 (r := 105) (sh_gn2 (r := 104) (sh_fq h.1.1 hf) ha ka (by decide) (fun z => absurd rfl z)) (fh_gn hb hab) kb.1 (by decide) (fun _ => kb.2)) (fh_gn (fh_gn hd had) hbd) kdd.1 (by decide) (fun _ => kdd.2)
  · rw [gco 0 (by decide)]; exact h.1.2.1.1
  · rw [gao 0 0 (by decide)]; exact h.1.2.1.2.1
  · refine ⟨⟨(gco 100 (by decide)).trans c100, (gco 101 (by decide)).trans c101, (gco 102 (by decide)).trans c102, (gco 103 (by decide)).trans c103, gc4, gc5, gc6⟩, fun k hk => ?_, fun k hk => ?_, fun k hk => ?_⟩
    · have hk : k < N 47 := hk
      have hkG : k < gc_ G 100 := by rw [c100]; exact hk
      rw [gao 48 0 (by decide), gao 100 k (by decide), gao 101 k (by decide), car 48 0 (gA 48 (by decide)) (by decide), cfr 100 k hkG (by decide)]
      exact mpP k hk
    · have hk : k < N 58 := hk
      have hkG : k < gc_ G 102 := by rw [c102]; exact hk
      rw [gao 60 0 (by decide), gao 102 k (by decide), gao 103 k (by decide), car 60 0 (gA 60 (by decide)) (by decide), cfr 102 k hkG (by decide)]
      exact mpR k hk
    · have hk : k < N 71 + 1 := hk
      rw [gao 82 0 (by decide), ga4, ga5, ga6, hA]
      by_cases z : k = N 71
      · rw [if_pos z, if_pos z, if_pos z, if_pos z]; exact ⟨rfl, h9, h10⟩
      · have hkG : k < gc_ G 104 := by rw [c104]; omega
        rw [if_neg z, if_neg z, if_neg z, if_neg z, cfr 104 k hkG (by decide), cfr 104 k hkG (by decide)]
        exact mpE k (by omega)
  · have hj' := lt100 j hj
    rw [gco j (by omega), gao j 0 (by omega), hfr]
    exact h.1.2.2.1 j hj
  · have q := h.1.2.2.2 j hj
    rw [hfi j hj]
    by_cases z : j = 71
    · subst z
      rw [if_pos rfl]
      exact ⟨rfl, by show N 71 + 1 ≤ 80; omega⟩
    · rw [if_neg z, q.1]
      show nI (N j) = nI (if j = 71 then _ else _) ∧ (if j = 71 then _ else _) ≤ MX j
      rw [if_neg z]
      exact ⟨rfl, q.2⟩
  · have hj2 : ∀ j, j ∈ MV → j ∈ MA ∧ j ≠ 0 ∧ j ≠ 82 := by decide
    obtain ⟨j1, j2⟩ := hj2 j hj
    have hj' := lt100 j j1
    rw [as_V j1, gao j 0 (by omega), cai j 0 (gA j j1) j2]
    exact mr_V' h hj
  · have p0 := h.2.2
    have pP : aP (as_ σ y G) = aP A := congrArg (fun z => z.1) p0
    have pB : aB (as_ σ y G) = aB A := congrArg (fun z => z.2.1) p0
    have pL : aL (as_ σ y G) = aL A := congrArg (fun z => z.2.2.1) p0
    have pR : aR (as_ σ y G) = aR A := congrArg (fun z => z.2.2.2.1) p0
    have pM : aM (as_ σ y G) = aM A := congrArg (fun z => z.2.2.2.2.1) p0
    have pE : aE (as_ σ y G) = aE A := congrArg (fun z => z.2.2.2.2.2.1) p0
    have pD : aD (as_ σ y G) = aD A := congrArg (fun z => z.2.2.2.2.2.2.1) p0
    have pF : aF (as_ σ y G) = aF A := congrArg (fun z => z.2.2.2.2.2.2.2) p0
    have e0 : aP (as_ τ y (gn_ (gn_ (gn_ G 104 a) 105 b) 106 d)) = aP A := by
      rw [← pP]
      funext c k
      show (if c < 1500 ∧ k < gc_ (gn_ (gn_ (gn_ G 104 a) 105 b) 106 d) 100 then fi_ τ c (ga_ (gn_ (gn_ (gn_ G 104 a) 105 b) 106 d) 100 k) else 0) = if c < 1500 ∧ k < gc_ G 100 then fi_ σ c (ga_ G 100 k) else 0
      rw [gco 100 (by decide)]
      by_cases z : c < 1500 ∧ k < gc_ G 100
      · rw [if_pos z, if_pos z, gao 100 k (by decide), cfi 100 k z.2 (by decide)]
      · rw [if_neg z, if_neg z]
    have e1 : aB (as_ τ y (gn_ (gn_ (gn_ G 104 a) 105 b) 106 d)) = aB A := by
      rw [← pB]
      funext k
      show (if k < gc_ (gn_ (gn_ (gn_ G 104 a) 105 b) 106 d) 101 then ai_ τ (ga_ (gn_ (gn_ (gn_ G 104 a) 105 b) 106 d) 101 k) else fun _ => (0 : Int32)) = if k < gc_ G 101 then ai_ σ (ga_ G 101 k) else fun _ => (0 : Int32)
      rw [gco 101 (by decide)]
      by_cases z : k < gc_ G 101
      · rw [if_pos z, if_pos z, gao 101 k (by decide), cai 101 k z (by decide)]
      · rw [if_neg z, if_neg z]
    have e2 : aL (as_ τ y (gn_ (gn_ (gn_ G 104 a) 105 b) 106 d)) = aL A := by
      rw [← pL]
      funext k
      show (if k < gc_ (gn_ (gn_ (gn_ G 104 a) 105 b) 106 d) 101 then ln_ τ (ga_ (gn_ (gn_ (gn_ G 104 a) 105 b) 106 d) 101 k) else 0) = if k < gc_ G 101 then ln_ σ (ga_ G 101 k) else 0
      rw [gco 101 (by decide)]
      by_cases z : k < gc_ G 101
      · rw [if_pos z, if_pos z, gao 101 k (by decide), cln 101 k z (by decide)]
      · rw [if_neg z, if_neg z]
    have e3 : aR (as_ τ y (gn_ (gn_ (gn_ G 104 a) 105 b) 106 d)) = aR A := by
      rw [← pR]
      funext k
      show (if k < gc_ (gn_ (gn_ (gn_ G 104 a) 105 b) 106 d) 103 then ai_ τ (ga_ (gn_ (gn_ (gn_ G 104 a) 105 b) 106 d) 103 k) else fun _ => (0 : Int32)) = if k < gc_ G 103 then ai_ σ (ga_ G 103 k) else fun _ => (0 : Int32)
      rw [gco 103 (by decide)]
      by_cases z : k < gc_ G 103
      · rw [if_pos z, if_pos z, gao 103 k (by decide), cai 103 k z (by decide)]
      · rw [if_neg z, if_neg z]
    have e4 : aM (as_ τ y (gn_ (gn_ (gn_ G 104 a) 105 b) 106 d)) = aM A := by
      rw [← pM]
      funext k
      show (if k < gc_ (gn_ (gn_ (gn_ G 104 a) 105 b) 106 d) 103 then ln_ τ (ga_ (gn_ (gn_ (gn_ G 104 a) 105 b) 106 d) 103 k) else 0) = if k < gc_ G 103 then ln_ σ (ga_ G 103 k) else 0
      rw [gco 103 (by decide)]
      by_cases z : k < gc_ G 103
      · rw [if_pos z, if_pos z, gao 103 k (by decide), cln 103 k z (by decide)]
      · rw [if_neg z, if_neg z]
    have e5 : aE (as_ τ y (gn_ (gn_ (gn_ G 104 a) 105 b) 106 d)) = fun c k => if k = N 71 then (if c < 1400 then fi_ τ c a else 0) else aE A c k := by
      rw [← pE]
      funext c k
      show (if c < 1400 ∧ k < gc_ (gn_ (gn_ (gn_ G 104 a) 105 b) 106 d) 104 then fi_ τ c (ga_ (gn_ (gn_ (gn_ G 104 a) 105 b) 106 d) 104 k) else 0) = if k = N 71 then (if c < 1400 then fi_ τ c a else 0) else (if c < 1400 ∧ k < gc_ G 104 then fi_ σ c (ga_ G 104 k) else 0)
      rw [gc4, ga4, c104]
      by_cases z : k = N 71
      · rw [if_pos z, if_pos z]
        by_cases zc : c < 1400
        · rw [if_pos ⟨zc, by omega⟩, if_pos zc]
        · rw [if_neg (fun q => zc q.1), if_neg zc]
      · rw [if_neg z, if_neg z]
        by_cases zz : c < 1400 ∧ k < N 71
        · rw [if_pos ⟨zz.1, by omega⟩, if_pos zz, cfi 104 k (by rw [c104]; exact zz.2) (by decide)]
        · rw [if_neg (fun q => zz ⟨q.1, by omega⟩), if_neg zz]
    have e6 : aD (as_ τ y (gn_ (gn_ (gn_ G 104 a) 105 b) 106 d)) = fun k => if k = N 71 then ai_ τ b else aD A k := by
      rw [← pD]
      funext k
      show (if k < gc_ (gn_ (gn_ (gn_ G 104 a) 105 b) 106 d) 105 then ai_ τ (ga_ (gn_ (gn_ (gn_ G 104 a) 105 b) 106 d) 105 k) else fun _ => (0 : Int32)) = if k = N 71 then ai_ τ b else (if k < gc_ G 105 then ai_ σ (ga_ G 105 k) else fun _ => (0 : Int32))
      rw [gc5, ga5, c105]
      by_cases z : k = N 71
      · rw [if_pos (by omega), if_pos z, if_pos z]
      · rw [if_neg z, if_neg z]
        by_cases zz : k < N 71
        · rw [if_pos (by omega), if_pos zz, cai 105 k (by rw [c105]; exact zz) (by decide)]
        · rw [if_neg (by omega), if_neg zz]
    have e7 : aF (as_ τ y (gn_ (gn_ (gn_ G 104 a) 105 b) 106 d)) = fun k => if k = N 71 then ai_ τ d else aF A k := by
      rw [← pF]
      funext k
      show (if k < gc_ (gn_ (gn_ (gn_ G 104 a) 105 b) 106 d) 106 then ai_ τ (ga_ (gn_ (gn_ (gn_ G 104 a) 105 b) 106 d) 106 k) else fun _ => (0 : Int32)) = if k = N 71 then ai_ τ d else (if k < gc_ G 106 then ai_ σ (ga_ G 106 k) else fun _ => (0 : Int32))
      rw [gc6, ga6, c106]
      by_cases z : k = N 71
      · rw [if_pos (by omega), if_pos z, if_pos z]
      · rw [if_neg z, if_neg z]
        by_cases zz : k < N 71
        · rw [if_pos (by omega), if_pos zz, cai 106 k (by rw [c106]; exact zz) (by decide)]
        · rw [if_neg (by omega), if_neg zz]
    show (aP (as_ τ y (gn_ (gn_ (gn_ G 104 a) 105 b) 106 d)), aB (as_ τ y (gn_ (gn_ (gn_ G 104 a) 105 b) 106 d)), aL (as_ τ y (gn_ (gn_ (gn_ G 104 a) 105 b) 106 d)), aR (as_ τ y (gn_ (gn_ (gn_ G 104 a) 105 b) 106 d)), aM (as_ τ y (gn_ (gn_ (gn_ G 104 a) 105 b) 106 d)), aE (as_ τ y (gn_ (gn_ (gn_ G 104 a) 105 b) 106 d)), aD (as_ τ y (gn_ (gn_ (gn_ G 104 a) 105 b) 106 d)), aF (as_ τ y (gn_ (gn_ (gn_ G 104 a) 105 b) 106 d))) = _
    rw [e0, e1, e2, e3, e4, e5, e6, e7]
    all_goals rfl
end MNE
