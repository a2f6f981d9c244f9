/-! THE REFERENCE KEEPS ONE MORE TEXT. Written by wip/b/mk99zc.py. -/
theorem mr_V' {σ : TH} {y : Nat} {G : GH} {A : AS} {N : Nat → Nat} (h : mr_ σ y G A N) {j : Nat} (hj : j ∈ MV) : ai_ σ (ga_ G j 0) = aV A j := funext fun t => mr_V h hj t
theorem mr_nP {σ τ : TH} {y : Nat} {G : GH} {A : AS} {N : Nat → Nat} {a b : Nat} (h : mr_ σ y G A N) (hN : N 47 < 150) (hf : fq_ (fun q => q = y ∨ q = ga_ G 48 0) σ τ) (ha : nx_ σ ≤ a) (hb : nx_ σ ≤ b) (hab : a ≠ b) (ka : kd_ τ a = 15) (kb : kd_ τ b = 21) (hfr : ∀ c, fr_ τ c y = fr_ σ c y) (h6 : fr_ τ 1406 a = some b) (hA : ∀ k, ar_ τ (ga_ G 48 0) k = if k = N 47 then some a else ar_ σ (ga_ G 48 0) k) (hfi : ∀ j, j ∈ MN → fi_ τ (1600 + j) y = if j = 47 then nI (N 47 + 1) else fi_ σ (1600 + j) y) : mr_ τ y (gn_ (gn_ G 100 a) 101 b) (aS A, aV A, (fun c k => if k = N 47 then (if c < 1500 then fi_ τ c a else 0) else aP A c k), (fun k => if k = N 47 then ai_ τ b else aB A k), (fun k => if k = N 47 then ln_ τ b else aL A k), A.2.2.2.2.2) (fun q => if q = 47 then N 47 + 1 else N q) := by
  have lt100 : ∀ r, r ∈ MA → r < 100 := by decide
  obtain ⟨⟨c100, c101, c102, c103, c104, c105, c106⟩, mpP, mpR, mpE⟩ := h.1.2.1.2.2
  have g0 : 0 < gc_ G 0 := by rw [h.1.2.1.1]; decide
  have gA : ∀ j, j ∈ MA → 0 < gc_ G j := fun j hj => by rw [(h.1.2.2.1 j hj).1]; decide
  have nT : ∀ r i, i < gc_ G r → r ≠ 0 → r ≠ 48 → ¬ (ga_ G r i = y ∨ ga_ G r i = ga_ G 48 0) := fun r i hi r0 r1 z => by
    rcases z with z | z
    · rw [← h.1.2.1.2.1] at z
      exact sh_ne h.1.1 hi g0 (Or.inl r0) z
    · exact sh_ne h.1.1 hi (gA 48 (by decide)) (Or.inl r1) z
  have ce : ∀ r i, i < gc_ G r → r ≠ 0 → r ≠ 48 → ce_ τ (ga_ G r i) = ce_ σ (ga_ G r i) := fun r i hi r0 r1 => hf.2.2 _ (sh_lt h.1.1 hi) (nT r i hi r0 r1)
  have cfi : ∀ r i, i < gc_ G r → r ≠ 0 → r ≠ 48 → ∀ c, fi_ τ c (ga_ G r i) = fi_ σ c (ga_ G r i) := fun r i hi r0 r1 c => congrFun (congrArg (fun z => z.2.1) (ce r i hi r0 r1)) c
  have cfr : ∀ r i, i < gc_ G r → r ≠ 0 → r ≠ 48 → ∀ c, fr_ τ c (ga_ G r i) = fr_ σ c (ga_ G r i) := fun r i hi r0 r1 c => congrFun (congrArg (fun z => z.2.2.1) (ce r i hi r0 r1)) c
  have cai : ∀ r i, i < gc_ G r → r ≠ 0 → r ≠ 48 → ai_ τ (ga_ G r i) = ai_ σ (ga_ G r i) := fun r i hi r0 r1 => congrArg (fun z => z.2.2.2.2.1) (ce r i hi r0 r1)
  have car : ∀ r i, i < gc_ G r → r ≠ 0 → r ≠ 48 → ar_ τ (ga_ G r i) = ar_ σ (ga_ G r i) := fun r i hi r0 r1 => congrArg (fun z => z.2.2.2.2.2.1) (ce r i hi r0 r1)
  have cln : ∀ r i, i < gc_ G r → r ≠ 0 → r ≠ 48 → ln_ τ (ga_ G r i) = ln_ σ (ga_ G r i) := fun r i hi r0 r1 => congrArg (fun z => z.1) (ce r i hi r0 r1)
  have gco : ∀ r, r ≠ 100 → r ≠ 101 → gc_ (gn_ (gn_ G 100 a) 101 b) r = gc_ G r := fun r z0 z1 => by simp [gn_, gc_, z0, z1]
  have gao : ∀ r i, r ≠ 100 → r ≠ 101 → ga_ (gn_ (gn_ G 100 a) 101 b) r i = ga_ G r i := fun r i z0 z1 => by simp [gn_, ga_, z0, z1]
  have gc0 : gc_ (gn_ (gn_ G 100 a) 101 b) 100 = N 47 + 1 := by rw [← c100]; rfl
  have gc1 : gc_ (gn_ (gn_ G 100 a) 101 b) 101 = N 47 + 1 := by rw [← c101]; rfl
  have ga0 : ∀ k, ga_ (gn_ (gn_ G 100 a) 101 b) 100 k = if k = N 47 then a else ga_ G 100 k := fun k => by
    rw [← c100]
    show (if 100 = 101 ∧ k = gc_ (gn_ G 100 a) 101 then b else if 100 = 100 ∧ k = gc_ G 100 then a else ga_ G 100 k) = _
    simp
  have ga1 : ∀ k, ga_ (gn_ (gn_ G 100 a) 101 b) 101 k = if k = N 47 then b else ga_ G 101 k := fun k => by
    rw [← c101]
    show (if 101 = 101 ∧ k = gc_ G 101 then b else if 101 = 100 ∧ k = gc_ G 100 then a else ga_ G 101 k) = _
    simp
  refine ⟨⟨?_, ⟨?_, ?_, ?_⟩, fun j hj => ?_, fun j hj => ?_⟩, fun j hj => ?_, ?_⟩
  · exact sh_gn2 (r := 101) (sh_gn2 (r := 100) (sh_fq h.1.1 hf) (fh_of h.1.1 ha) ka (by decide) (fun z => absurd rfl z)) (fh_gn (fh_of h.1.1 hb) hab) kb (by decide) (fun z => absurd rfl z)
  · rw [gco 0 (by decide) (by decide)]; exact h.1.2.1.1
  · rw [gao 0 0 (by decide) (by decide)]; exact h.1.2.1.2.1
  · refine ⟨⟨gc0, gc1, (gco 102 (by decide) (by decide)).trans c102, (gco 103 (by decide) (by decide)).trans c103, (gco 104 (by decide) (by decide)).trans c104, (gco 105 (by decide) (by decide)).trans c105, (gco 106 (by decide) (by decide)).trans c106⟩, fun k hk => ?_, fun k hk => ?_, fun k hk => ?_⟩
    · have hk : k < N 47 + 1 := hk
      rw [gao 48 0 (by decide) (by decide), ga0, ga1, hA]
      by_cases z : k = N 47
      · rw [if_pos z, if_pos z, if_pos z]; exact ⟨rfl, h6⟩
      · have hkG : k < gc_ G 100 := by rw [c100]; omega
        rw [if_neg z, if_neg z, if_neg z, cfr 100 k hkG (by decide) (by decide)]
        exact mpP k (by omega)
    · have hk : k < N 58 := hk
      have hkG : k < gc_ G 102 := by rw [c102]; exact hk
      rw [gao 60 0 (by decide) (by decide), gao 102 k (by decide) (by decide), gao 103 k (by decide) (by decide), car 60 0 (gA 60 (by decide)) (by decide) (by decide), cfr 102 k hkG (by decide) (by decide)]
      exact mpR k hk
    · have hk : k < N 71 := hk
      have hkG : k < gc_ G 104 := by rw [c104]; exact hk
      rw [gao 82 0 (by decide) (by decide), gao 104 k (by decide) (by decide), gao 105 k (by decide) (by decide), gao 106 k (by decide) (by decide), car 82 0 (gA 82 (by decide)) (by decide) (by decide), cfr 104 k hkG (by decide) (by decide), cfr 104 k hkG (by decide) (by decide)]
      exact mpE k hk
  · have hj' := lt100 j hj
    rw [gco j (by omega) (by omega), gao j 0 (by omega) (by omega), hfr]
    exact h.1.2.2.1 j hj
  · have q := h.1.2.2.2 j hj
    rw [hfi j hj]
    by_cases z : j = 47
    · subst z
      rw [if_pos rfl]
      exact ⟨rfl, by show N 47 + 1 ≤ 150; omega⟩
    · rw [if_neg z, q.1]
      show nI (N j) = nI (if j = 47 then _ else _) ∧ (if j = 47 then _ else _) ≤ MX j
      rw [if_neg z]
      exact ⟨rfl, q.2⟩
  · have hj2 : ∀ j, j ∈ MV → j ∈ MA ∧ j ≠ 48 ∧ j ≠ 0 := by decide
    obtain ⟨j1, j2, j3⟩ := hj2 j hj
    have hj' := lt100 j j1
    rw [as_V j1, gao j 0 (by omega) (by omega), cai j 0 (gA j j1) j3 j2]
    exact mr_V' h hj
  · have p0 := h.2.2
    have pP : aP (as_ σ y G) = aP A := congrArg (fun z => z.1) p0
    have pB : aB (as_ σ y G) = aB A := congrArg (fun z => z.2.1) p0
    have pL : aL (as_ σ y G) = aL A := congrArg (fun z => z.2.2.1) p0
    have pR : aR (as_ σ y G) = aR A := congrArg (fun z => z.2.2.2.1) p0
    have pM : aM (as_ σ y G) = aM A := congrArg (fun z => z.2.2.2.2.1) p0
    have pE : aE (as_ σ y G) = aE A := congrArg (fun z => z.2.2.2.2.2.1) p0
    have pD : aD (as_ σ y G) = aD A := congrArg (fun z => z.2.2.2.2.2.2.1) p0
    have pF : aF (as_ σ y G) = aF A := congrArg (fun z => z.2.2.2.2.2.2.2) p0
    have e1 : aP (as_ τ y (gn_ (gn_ G 100 a) 101 b)) = fun c k => if k = N 47 then (if c < 1500 then fi_ τ c a else 0) else aP A c k := by
      rw [← pP]
      funext c k
      show (if c < 1500 ∧ k < gc_ (gn_ (gn_ G 100 a) 101 b) 100 then fi_ τ c (ga_ (gn_ (gn_ G 100 a) 101 b) 100 k) else 0) = if k = N 47 then (if c < 1500 then fi_ τ c a else 0) else (if c < 1500 ∧ k < gc_ G 100 then fi_ σ c (ga_ G 100 k) else 0)
      rw [gc0, ga0, c100]
      by_cases z : k = N 47
      · rw [if_pos z, if_pos z]
        by_cases zc : c < 1500
        · rw [if_pos ⟨zc, by omega⟩, if_pos zc]
        · rw [if_neg (fun q => zc q.1), if_neg zc]
      · rw [if_neg z, if_neg z]
        by_cases zz : c < 1500 ∧ k < N 47
        · rw [if_pos ⟨zz.1, by omega⟩, if_pos zz, cfi 100 k (by rw [c100]; exact zz.2) (by decide) (by decide)]
        · rw [if_neg (fun q => zz ⟨q.1, by omega⟩), if_neg zz]
    have e2 : aB (as_ τ y (gn_ (gn_ G 100 a) 101 b)) = fun k => if k = N 47 then ai_ τ b else aB A k := by
      rw [← pB]
      funext k
      show (if k < gc_ (gn_ (gn_ G 100 a) 101 b) 101 then ai_ τ (ga_ (gn_ (gn_ G 100 a) 101 b) 101 k) else fun _ => (0 : Int32)) = if k = N 47 then ai_ τ b else (if k < gc_ G 101 then ai_ σ (ga_ G 101 k) else fun _ => (0 : Int32))
      rw [gc1, ga1, c101]
      by_cases z : k = N 47
      · rw [if_pos (by omega), if_pos z, if_pos z]
      · rw [if_neg z, if_neg z]
        by_cases zz : k < N 47
        · rw [if_pos (by omega), if_pos zz, cai 101 k (by rw [c101]; exact zz) (by decide) (by decide)]
        · rw [if_neg (by omega), if_neg zz]
    have e3 : aL (as_ τ y (gn_ (gn_ G 100 a) 101 b)) = fun k => if k = N 47 then ln_ τ b else aL A k := by
      rw [← pL]
      funext k
      show (if k < gc_ (gn_ (gn_ G 100 a) 101 b) 101 then ln_ τ (ga_ (gn_ (gn_ G 100 a) 101 b) 101 k) else 0) = if k = N 47 then ln_ τ b else (if k < gc_ G 101 then ln_ σ (ga_ G 101 k) else 0)
      rw [gc1, ga1, c101]
      by_cases z : k = N 47
      · rw [if_pos (by omega), if_pos z, if_pos z]
      · rw [if_neg z, if_neg z]
        by_cases zz : k < N 47
        · rw [if_pos (by omega), if_pos zz, cln 101 k (by rw [c101]; exact zz) (by decide) (by decide)]
        · rw [if_neg (by omega), if_neg zz]
    have e4 : aR (as_ τ y (gn_ (gn_ G 100 a) 101 b)) = aR A := by
      rw [← pR]
      funext k
      show (if k < gc_ (gn_ (gn_ G 100 a) 101 b) 103 then ai_ τ (ga_ (gn_ (gn_ G 100 a) 101 b) 103 k) else fun _ => (0 : Int32)) = if k < gc_ G 103 then ai_ σ (ga_ G 103 k) else fun _ => (0 : Int32)
      rw [gco 103 (by decide) (by decide)]
      by_cases z : k < gc_ G 103
      · rw [if_pos z, if_pos z, gao 103 k (by decide) (by decide), cai 103 k z (by decide) (by decide)]
      · rw [if_neg z, if_neg z]
    have e5 : aM (as_ τ y (gn_ (gn_ G 100 a) 101 b)) = aM A := by
      rw [← pM]
      funext k
      show (if k < gc_ (gn_ (gn_ G 100 a) 101 b) 103 then ln_ τ (ga_ (gn_ (gn_ G 100 a) 101 b) 103 k) else 0) = if k < gc_ G 103 then ln_ σ (ga_ G 103 k) else 0
      rw [gco 103 (by decide) (by decide)]
      by_cases z : k < gc_ G 103
      · rw [if_pos z, if_pos z, gao 103 k (by decide) (by decide), cln 103 k z (by decide) (by decide)]
      · rw [if_neg z, if_neg z]
    have e6 : aE (as_ τ y (gn_ (gn_ G 100 a) 101 b)) = aE A := by
      rw [← pE]
      funext c k
      show (if c < 1400 ∧ k < gc_ (gn_ (gn_ G 100 a) 101 b) 104 then fi_ τ c (ga_ (gn_ (gn_ G 100 a) 101 b) 104 k) else 0) = if c < 1400 ∧ k < gc_ G 104 then fi_ σ c (ga_ G 104 k) else 0
      rw [gco 104 (by decide) (by decide)]
      by_cases z : c < 1400 ∧ k < gc_ G 104
      · rw [if_pos z, if_pos z, gao 104 k (by decide) (by decide), cfi 104 k z.2 (by decide) (by decide)]
      · rw [if_neg z, if_neg z]
    have e7 : aD (as_ τ y (gn_ (gn_ G 100 a) 101 b)) = aD A := by
      rw [← pD]
      funext k
      show (if k < gc_ (gn_ (gn_ G 100 a) 101 b) 105 then ai_ τ (ga_ (gn_ (gn_ G 100 a) 101 b) 105 k) else fun _ => (0 : Int32)) = if k < gc_ G 105 then ai_ σ (ga_ G 105 k) else fun _ => (0 : Int32)
      rw [gco 105 (by decide) (by decide)]
      by_cases z : k < gc_ G 105
      · rw [if_pos z, if_pos z, gao 105 k (by decide) (by decide), cai 105 k z (by decide) (by decide)]
      · rw [if_neg z, if_neg z]
    have e8 : aF (as_ τ y (gn_ (gn_ G 100 a) 101 b)) = aF A := by
      rw [← pF]
      funext k
      show (if k < gc_ (gn_ (gn_ G 100 a) 101 b) 106 then ai_ τ (ga_ (gn_ (gn_ G 100 a) 101 b) 106 k) else fun _ => (0 : Int32)) = if k < gc_ G 106 then ai_ σ (ga_ G 106 k) else fun _ => (0 : Int32)
      rw [gco 106 (by decide) (by decide)]
      by_cases z : k < gc_ G 106
      · rw [if_pos z, if_pos z, gao 106 k (by decide) (by decide), cai 106 k z (by decide) (by decide)]
      · rw [if_neg z, if_neg z]
    show (aP (as_ τ y (gn_ (gn_ G 100 a) 101 b)), aB (as_ τ y (gn_ (gn_ G 100 a) 101 b)), aL (as_ τ y (gn_ (gn_ G 100 a) 101 b)), aR (as_ τ y (gn_ (gn_ G 100 a) 101 b)), aM (as_ τ y (gn_ (gn_ G 100 a) 101 b)), aE (as_ τ y (gn_ (gn_ G 100 a) 101 b)), aD (as_ τ y (gn_ (gn_ G 100 a) 101 b)), aF (as_ τ y (gn_ (gn_ G 100 a) 101 b))) = _
    rw [e1, e2, e3, e4, e5, e6, e7, e8]
    rfl
theorem mr_nR {σ τ : TH} {y : Nat} {G : GH} {A : AS} {N : Nat → Nat} {a b : Nat} (h : mr_ σ y G A N) (hN : N 58 < 12) (hf : fq_ (fun q => q = y ∨ q = ga_ G 60 0) σ τ) (ha : nx_ σ ≤ a) (hb : nx_ σ ≤ b) (hab : a ≠ b) (ka : kd_ τ a = 15) (kb : kd_ τ b = 21) (hfr : ∀ c, fr_ τ c y = fr_ σ c y) (h6 : fr_ τ 1406 a = some b) (hA : ∀ k, ar_ τ (ga_ G 60 0) k = if k = N 58 then some a else ar_ σ (ga_ G 60 0) k) (hfi : ∀ j, j ∈ MN → fi_ τ (1600 + j) y = if j = 58 then nI (N 58 + 1) else fi_ σ (1600 + j) y) : mr_ τ y (gn_ (gn_ G 102 a) 103 b) (aS A, aV A, aP A, aB A, aL A, (fun k => if k = N 58 then ai_ τ b else aR A k), (fun k => if k = N 58 then ln_ τ b else aM A k), A.2.2.2.2.2.2.2) (fun q => if q = 58 then N 58 + 1 else N q) := by
  have lt100 : ∀ r, r ∈ MA → r < 100 := by decide
  obtain ⟨⟨c100, c101, c102, c103, c104, c105, c106⟩, mpP, mpR, mpE⟩ := h.1.2.1.2.2
  have g0 : 0 < gc_ G 0 := by rw [h.1.2.1.1]; decide
  have gA : ∀ j, j ∈ MA → 0 < gc_ G j := fun j hj => by rw [(h.1.2.2.1 j hj).1]; decide
  have nT : ∀ r i, i < gc_ G r → r ≠ 0 → r ≠ 60 → ¬ (ga_ G r i = y ∨ ga_ G r i = ga_ G 60 0) := fun r i hi r0 r1 z => by
    rcases z with z | z
    · rw [← h.1.2.1.2.1] at z
      exact sh_ne h.1.1 hi g0 (Or.inl r0) z
    · exact sh_ne h.1.1 hi (gA 60 (by decide)) (Or.inl r1) z
  have ce : ∀ r i, i < gc_ G r → r ≠ 0 → r ≠ 60 → ce_ τ (ga_ G r i) = ce_ σ (ga_ G r i) := fun r i hi r0 r1 => hf.2.2 _ (sh_lt h.1.1 hi) (nT r i hi r0 r1)
  have cfi : ∀ r i, i < gc_ G r → r ≠ 0 → r ≠ 60 → ∀ c, fi_ τ c (ga_ G r i) = fi_ σ c (ga_ G r i) := fun r i hi r0 r1 c => congrFun (congrArg (fun z => z.2.1) (ce r i hi r0 r1)) c
  have cfr : ∀ r i, i < gc_ G r → r ≠ 0 → r ≠ 60 → ∀ c, fr_ τ c (ga_ G r i) = fr_ σ c (ga_ G r i) := fun r i hi r0 r1 c => congrFun (congrArg (fun z => z.2.2.1) (ce r i hi r0 r1)) c
  have cai : ∀ r i, i < gc_ G r → r ≠ 0 → r ≠ 60 → ai_ τ (ga_ G r i) = ai_ σ (ga_ G r i) := fun r i hi r0 r1 => congrArg (fun z => z.2.2.2.2.1) (ce r i hi r0 r1)
  have car : ∀ r i, i < gc_ G r → r ≠ 0 → r ≠ 60 → ar_ τ (ga_ G r i) = ar_ σ (ga_ G r i) := fun r i hi r0 r1 => congrArg (fun z => z.2.2.2.2.2.1) (ce r i hi r0 r1)
  have cln : ∀ r i, i < gc_ G r → r ≠ 0 → r ≠ 60 → ln_ τ (ga_ G r i) = ln_ σ (ga_ G r i) := fun r i hi r0 r1 => congrArg (fun z => z.1) (ce r i hi r0 r1)
  have gco : ∀ r, r ≠ 102 → r ≠ 103 → gc_ (gn_ (gn_ G 102 a) 103 b) r = gc_ G r := fun r z0 z1 => by simp [gn_, gc_, z0, z1]
  have gao : ∀ r i, r ≠ 102 → r ≠ 103 → ga_ (gn_ (gn_ G 102 a) 103 b) r i = ga_ G r i := fun r i z0 z1 => by simp [gn_, ga_, z0, z1]
  have gc0 : gc_ (gn_ (gn_ G 102 a) 103 b) 102 = N 58 + 1 := by rw [← c102]; rfl
  have gc1 : gc_ (gn_ (gn_ G 102 a) 103 b) 103 = N 58 + 1 := by rw [← c103]; rfl
  have ga0 : ∀ k, ga_ (gn_ (gn_ G 102 a) 103 b) 102 k = if k = N 58 then a else ga_ G 102 k := fun k => by
    rw [← c102]
    show (if 102 = 103 ∧ k = gc_ (gn_ G 102 a) 103 then b else if 102 = 102 ∧ k = gc_ G 102 then a else ga_ G 102 k) = _
    simp
  have ga1 : ∀ k, ga_ (gn_ (gn_ G 102 a) 103 b) 103 k = if k = N 58 then b else ga_ G 103 k := fun k => by
    rw [← c103]
    show (if 103 = 103 ∧ k = gc_ G 103 then b else if 103 = 102 ∧ k = gc_ G 102 then a else ga_ G 103 k) = _
    simp
  refine ⟨⟨?_, ⟨?_, ?_, ?_⟩, fun j hj => ?_, fun j hj => ?_⟩, fun j hj => ?_, ?_⟩
  · exact sh_gn2 (r := 103) (sh_gn2 (r := 102) (sh_fq h.1.1 hf) (fh_of h.1.1 ha) ka (by decide) (fun z => absurd rfl z)) (fh_gn (fh_of h.1.1 hb) hab) kb (by decide) (fun z => absurd rfl z)
  · rw [gco 0 (by decide) (by decide)]; exact h.1.2.1.1
  · rw [gao 0 0 (by decide) (by decide)]; exact h.1.2.1.2.1
  · refine ⟨⟨(gco 100 (by decide) (by decide)).trans c100, (gco 101 (by decide) (by decide)).trans c101, gc0, gc1, (gco 104 (by decide) (by decide)).trans c104, (gco 105 (by decide) (by decide)).trans c105, (gco 106 (by decide) (by decide)).trans c106⟩, fun k hk => ?_, fun k hk => ?_, fun k hk => ?_⟩
    · have hk : k < N 47 := hk
      have hkG : k < gc_ G 100 := by rw [c100]; exact hk
      rw [gao 48 0 (by decide) (by decide), gao 100 k (by decide) (by decide), gao 101 k (by decide) (by decide), car 48 0 (gA 48 (by decide)) (by decide) (by decide), cfr 100 k hkG (by decide) (by decide)]
      exact mpP k hk
    · have hk : k < N 58 + 1 := hk
      rw [gao 60 0 (by decide) (by decide), ga0, ga1, hA]
      by_cases z : k = N 58
      · rw [if_pos z, if_pos z, if_pos z]; exact ⟨rfl, h6⟩
      · have hkG : k < gc_ G 102 := by rw [c102]; omega
        rw [if_neg z, if_neg z, if_neg z, cfr 102 k hkG (by decide) (by decide)]
        exact mpR k (by omega)
    · have hk : k < N 71 := hk
      have hkG : k < gc_ G 104 := by rw [c104]; exact hk
      rw [gao 82 0 (by decide) (by decide), gao 104 k (by decide) (by decide), gao 105 k (by decide) (by decide), gao 106 k (by decide) (by decide), car 82 0 (gA 82 (by decide)) (by decide) (by decide), cfr 104 k hkG (by decide) (by decide), cfr 104 k hkG (by decide) (by decide)]
      exact mpE k hk
  · have hj' := lt100 j hj
    rw [gco j (by omega) (by omega), gao j 0 (by omega) (by omega), hfr]
    exact h.1.2.2.1 j hj
  · have q := h.1.2.2.2 j hj
    rw [hfi j hj]
    by_cases z : j = 58
    · subst z
      rw [if_pos rfl]
      exact ⟨rfl, by show N 58 + 1 ≤ 12; omega⟩
    · rw [if_neg z, q.1]
      show nI (N j) = nI (if j = 58 then _ else _) ∧ (if j = 58 then _ else _) ≤ MX j
      rw [if_neg z]
      exact ⟨rfl, q.2⟩
  · have hj2 : ∀ j, j ∈ MV → j ∈ MA ∧ j ≠ 60 ∧ j ≠ 0 := by decide
    obtain ⟨j1, j2, j3⟩ := hj2 j hj
    have hj' := lt100 j j1
    rw [as_V j1, gao j 0 (by omega) (by omega), cai j 0 (gA j j1) j3 j2]
    exact mr_V' h hj
  · have p0 := h.2.2
    have pP : aP (as_ σ y G) = aP A := congrArg (fun z => z.1) p0
    have pB : aB (as_ σ y G) = aB A := congrArg (fun z => z.2.1) p0
    have pL : aL (as_ σ y G) = aL A := congrArg (fun z => z.2.2.1) p0
    have pR : aR (as_ σ y G) = aR A := congrArg (fun z => z.2.2.2.1) p0
    have pM : aM (as_ σ y G) = aM A := congrArg (fun z => z.2.2.2.2.1) p0
    have pE : aE (as_ σ y G) = aE A := congrArg (fun z => z.2.2.2.2.2.1) p0
    have pD : aD (as_ σ y G) = aD A := congrArg (fun z => z.2.2.2.2.2.2.1) p0
    have pF : aF (as_ σ y G) = aF A := congrArg (fun z => z.2.2.2.2.2.2.2) p0
    have e1 : aP (as_ τ y (gn_ (gn_ G 102 a) 103 b)) = aP A := by
      rw [← pP]
      funext c k
      show (if c < 1500 ∧ k < gc_ (gn_ (gn_ G 102 a) 103 b) 100 then fi_ τ c (ga_ (gn_ (gn_ G 102 a) 103 b) 100 k) else 0) = if c < 1500 ∧ k < gc_ G 100 then fi_ σ c (ga_ G 100 k) else 0
      rw [gco 100 (by decide) (by decide)]
      by_cases z : c < 1500 ∧ k < gc_ G 100
      · rw [if_pos z, if_pos z, gao 100 k (by decide) (by decide), cfi 100 k z.2 (by decide) (by decide)]
      · rw [if_neg z, if_neg z]
    have e2 : aB (as_ τ y (gn_ (gn_ G 102 a) 103 b)) = aB A := by
      rw [← pB]
      funext k
      show (if k < gc_ (gn_ (gn_ G 102 a) 103 b) 101 then ai_ τ (ga_ (gn_ (gn_ G 102 a) 103 b) 101 k) else fun _ => (0 : Int32)) = if k < gc_ G 101 then ai_ σ (ga_ G 101 k) else fun _ => (0 : Int32)
      rw [gco 101 (by decide) (by decide)]
      by_cases z : k < gc_ G 101
      · rw [if_pos z, if_pos z, gao 101 k (by decide) (by decide), cai 101 k z (by decide) (by decide)]
      · rw [if_neg z, if_neg z]
    have e3 : aL (as_ τ y (gn_ (gn_ G 102 a) 103 b)) = aL A := by
      rw [← pL]
      funext k
      show (if k < gc_ (gn_ (gn_ G 102 a) 103 b) 101 then ln_ τ (ga_ (gn_ (gn_ G 102 a) 103 b) 101 k) else 0) = if k < gc_ G 101 then ln_ σ (ga_ G 101 k) else 0
      rw [gco 101 (by decide) (by decide)]
      by_cases z : k < gc_ G 101
      · rw [if_pos z, if_pos z, gao 101 k (by decide) (by decide), cln 101 k z (by decide) (by decide)]
      · rw [if_neg z, if_neg z]
    have e4 : aR (as_ τ y (gn_ (gn_ G 102 a) 103 b)) = fun k => if k = N 58 then ai_ τ b else aR A k := by
      rw [← pR]
      funext k
      show (if k < gc_ (gn_ (gn_ G 102 a) 103 b) 103 then ai_ τ (ga_ (gn_ (gn_ G 102 a) 103 b) 103 k) else fun _ => (0 : Int32)) = if k = N 58 then ai_ τ b else (if k < gc_ G 103 then ai_ σ (ga_ G 103 k) else fun _ => (0 : Int32))
      rw [gc1, ga1, c103]
      by_cases z : k = N 58
      · rw [if_pos (by omega), if_pos z, if_pos z]
      · rw [if_neg z, if_neg z]
        by_cases zz : k < N 58
        · rw [if_pos (by omega), if_pos zz, cai 103 k (by rw [c103]; exact zz) (by decide) (by decide)]
        · rw [if_neg (by omega), if_neg zz]
    have e5 : aM (as_ τ y (gn_ (gn_ G 102 a) 103 b)) = fun k => if k = N 58 then ln_ τ b else aM A k := by
      rw [← pM]
      funext k
      show (if k < gc_ (gn_ (gn_ G 102 a) 103 b) 103 then ln_ τ (ga_ (gn_ (gn_ G 102 a) 103 b) 103 k) else 0) = if k = N 58 then ln_ τ b else (if k < gc_ G 103 then ln_ σ (ga_ G 103 k) else 0)
      rw [gc1, ga1, c103]
      by_cases z : k = N 58
      · rw [if_pos (by omega), if_pos z, if_pos z]
      · rw [if_neg z, if_neg z]
        by_cases zz : k < N 58
        · rw [if_pos (by omega), if_pos zz, cln 103 k (by rw [c103]; exact zz) (by decide) (by decide)]
        · rw [if_neg (by omega), if_neg zz]
    have e6 : aE (as_ τ y (gn_ (gn_ G 102 a) 103 b)) = aE A := by
      rw [← pE]
      funext c k
      show (if c < 1400 ∧ k < gc_ (gn_ (gn_ G 102 a) 103 b) 104 then fi_ τ c (ga_ (gn_ (gn_ G 102 a) 103 b) 104 k) else 0) = if c < 1400 ∧ k < gc_ G 104 then fi_ σ c (ga_ G 104 k) else 0
      rw [gco 104 (by decide) (by decide)]
      by_cases z : c < 1400 ∧ k < gc_ G 104
      · rw [if_pos z, if_pos z, gao 104 k (by decide) (by decide), cfi 104 k z.2 (by decide) (by decide)]
      · rw [if_neg z, if_neg z]
    have e7 : aD (as_ τ y (gn_ (gn_ G 102 a) 103 b)) = aD A := by
      rw [← pD]
      funext k
      show (if k < gc_ (gn_ (gn_ G 102 a) 103 b) 105 then ai_ τ (ga_ (gn_ (gn_ G 102 a) 103 b) 105 k) else fun _ => (0 : Int32)) = if k < gc_ G 105 then ai_ σ (ga_ G 105 k) else fun _ => (0 : Int32)
      rw [gco 105 (by decide) (by decide)]
      by_cases z : k < gc_ G 105
      · rw [if_pos z, if_pos z, gao 105 k (by decide) (by decide), cai 105 k z (by decide) (by decide)]
      · rw [if_neg z, if_neg z]
    have e8 : aF (as_ τ y (gn_ (gn_ G 102 a) 103 b)) = aF A := by
      rw [← pF]
      funext k
      show (if k < gc_ (gn_ (gn_ G 102 a) 103 b) 106 then ai_ τ (ga_ (gn_ (gn_ G 102 a) 103 b) 106 k) else fun _ => (0 : Int32)) = if k < gc_ G 106 then ai_ σ (ga_ G 106 k) else fun _ => (0 : Int32)
      rw [gco 106 (by decide) (by decide)]
      by_cases z : k < gc_ G 106
      · rw [if_pos z, if_pos z, gao 106 k (by decide) (by decide), cai 106 k z (by decide) (by decide)]
      · rw [if_neg z, if_neg z]
    show (aP (as_ τ y (gn_ (gn_ G 102 a) 103 b)), aB (as_ τ y (gn_ (gn_ G 102 a) 103 b)), aL (as_ τ y (gn_ (gn_ G 102 a) 103 b)), aR (as_ τ y (gn_ (gn_ G 102 a) 103 b)), aM (as_ τ y (gn_ (gn_ G 102 a) 103 b)), aE (as_ τ y (gn_ (gn_ G 102 a) 103 b)), aD (as_ τ y (gn_ (gn_ G 102 a) 103 b)), aF (as_ τ y (gn_ (gn_ G 102 a) 103 b))) = _
    rw [e1, e2, e3, e4, e5, e6, e7, e8]
    rfl
section TT9
variable {σ : TH} {y : Nat}
theorem va_byte {v : Int32} (h : v.toInt8.toInt32 = v) : vp_nar .byte v = v := by
  rw [← h, pk_vb, h]
/-- the bytes are kept -/
theorem m_takesText {T a n : Nat} (hf : wf_ σ) (hy : kd_ σ y = 17) (ha : kd_ σ a = 15) (hT : fr_ σ 1626 y = some T ∧ kd_ σ T = 21 ∧ ln_ σ T = 400) (hn : n ≤ 400) (hb : ∀ j, j < 400 → (ai_ σ T j).toInt8.toInt32 = ai_ σ T j) : ∃ τ, f_X15_takesText σ y (some a) (nI n) = some ((), τ) ∧ fq_ (fun q => q = a) σ τ ∧ (nx_ τ = nx_ σ + 1 ∧ sl_ τ = sl_ σ + n) ∧ (kd_ τ (nx_ σ) = 21 ∧ ln_ τ (nx_ σ) = n ∧ ∀ i, ai_ τ (nx_ σ) i = if i < n then ai_ σ T i else 0) ∧ fr_ τ 1406 a = some (nx_ σ) ∧ fi_ τ 1404 a = fi_ σ 1640 y ∧ fi_ τ 1405 a = fi_ σ 1638 y ∧ (∀ c, c ≠ 1404 → c ≠ 1405 → fi_ τ c a = fi_ σ c a) ∧ (ai_ τ a = ai_ σ a ∧ ar_ τ a = ar_ σ a) := by
  obtain ⟨t1, t2, t3⟩ := hT
  have al : a < nx_ σ := kd_ltn hf ha (by decide)
  have yl : y < nx_ σ := kd_ltn hf hy (by decide)
  have Tl : T < nx_ σ := kd_ltn hf t2 (by decide)
  have ya : a ≠ y := fun e => by rw [e, hy] at ha; cases ha
  obtain ⟨s4, hs4⟩ : ∃ s4, s4 = sr_ (nw_ σ 21 n n) 1406 a (some (nx_ σ)) := ⟨_, rfl⟩
  have k4 : ∀ q, q ≠ nx_ σ → kd_ s4 q = kd_ σ q := fun q h => by rw [hs4, kd_sr]; exact kd_nwn h
  have l4 : ∀ q, q ≠ nx_ σ → ln_ s4 q = ln_ σ q := fun q h => by rw [hs4, ln_sr]; exact ln_nwn h
  have kx4 : kd_ s4 (nx_ σ) = 21 := by rw [hs4]; exact kd_nw σ 21 n n
  have lx4 : ln_ s4 (nx_ σ) = n := by rw [hs4]; exact ln_nw σ 21 n n
  have ax4 : ∀ i, ai_ s4 (nx_ σ) i = 0 := fun i => by rw [hs4]; exact if_pos rfl
  have a4 : ∀ q, q ≠ nx_ σ → ai_ s4 q = ai_ σ q := fun q h => by rw [hs4, ai_sr]; exact ai_nwn h
  have f4 : ∀ c q, q ≠ nx_ σ → fi_ s4 c q = fi_ σ c q := fun c q h => by rw [hs4, fi_sr]; exact fi_nwn h
  have r6 : fr_ s4 1406 a = some (nx_ σ) := by rw [hs4]; exact up2_s
  have r26 : fr_ s4 1626 y = some T := by rw [hs4, fr_sr, up2_c (by decide), fr_nwn (by omega)]; exact t1
  have fq4 : fq_ (fun q => q = a) σ s4 := by rw [hs4]; exact fqr (fq_nw hf (by decide)) rfl
  obtain ⟨g, hg⟩ : ∃ g : Nat → Nat → Nat → Int32, g = fun i q j => if q = nx_ σ then (if j < i then ai_ σ T j else 0) else ai_ s4 q j := ⟨_, rfl⟩
  have g0 : ha_ s4 (g 0) = s4 := by
    have : g 0 = ai_ s4 := by
      rw [hg]
      funext q j
      by_cases z : q = nx_ σ
      · rw [z]; simp [ax4]
      · simp [z]
    rw [this]
    exact ha_self s4
  have gs : ∀ i, up2_ (g i) (nx_ σ) i (ai_ σ T i) = g (i + 1) := fun i => by
    rw [hg]
    funext q j
    unfold up2_
    by_cases z : q = nx_ σ
    · by_cases z2 : j = i
      · simp [z, z2]
      · by_cases z3 : j < i
        · simp [z, z2, z3, Nat.lt_succ_of_lt z3]
        · simp [z, z2, z3, show ¬ j < i + 1 by omega]
    · simp [z]
  have gT : ∀ i j, g i T j = ai_ σ T j := fun i j => by
    rw [hg]
    show (if T = nx_ σ then _ else ai_ s4 T j) = _
    rw [if_neg (by omega), a4 T (by omega)]
  have lp : f_X15_takesText_b9 fu_ (ha_ s4 (g 0)) y (some a) (nI n) (nI 0) = some ((), si_ (si_ (ha_ s4 (g n)) 1404 a (fi_ σ 1640 y)) 1405 a (fi_ σ 1638 y)) := by
    refine lpk_ (F := fun f (s : TH) k => f_X15_takesText_b9 f s y (some a) (nI n) k) 0 n (Nat.zero_le _) (fun i => ha_ s4 (g i)) (fun f i _ hi => ?_) (fun f => ?_) (by omega)
    · show f_X15_takesText_b9 (f + 1) (ha_ s4 (g i)) y (some a) (nI n) (nI i) = f_X15_takesText_b9 f (ha_ s4 (g (i + 1))) y (some a) (nI n) (nI (i + 1))
      have h1 : kd_ (ha_ s4 (g i)) a = 15 := (k4 a (by omega)).trans ha
      have h2 : fr_ (ha_ s4 (g i)) 1406 a = some (nx_ σ) := r6
      have h3 : kd_ (ha_ s4 (g i)) y = 17 := (k4 y (by omega)).trans hy
      have h4 : fr_ (ha_ s4 (g i)) 1626 y = some T := r26
      have h5 : kd_ (ha_ s4 (g i)) T = 21 := (k4 T (by omega)).trans t2
      have h6 : ln_ (ha_ s4 (g i)) T = 400 := (l4 T (by omega)).trans t3
      have h7 : ai_ (ha_ s4 (g i)) T i = ai_ σ T i := gT i i
      have h8 : kd_ (ha_ s4 (g i)) (nx_ σ) = 21 := kx4
      have h9 : ln_ (ha_ s4 (g i)) (nx_ σ) = n := lx4
      have h10 : sa_ (ha_ s4 (g i)) (nx_ σ) i (ai_ σ T i) = ha_ s4 (g (i + 1)) := by rw [← gs i]; rfl
      rw [f_X15_takesText_b9, if_neg (nI_ge hi (by omega)), nn_s, gt_t h1, lt_e, h2, gt_t h3, lt_e, h4, nn_s, gt_t h5, nI_clamp (by omega), h6, gt_t (ix9_ (k := i) (M := 400) (by omega) (by omega)), lt_e, h7, nn_s, gt_t h8, h9, gt_t (ix9_ (k := i) (M := n) (by omega) (by omega)), lt_e, va_byte (hb i (by omega)), h10, lt_e, nI_1]
    · show f_X15_takesText_b9 (f + 1) (ha_ s4 (g n)) y (some a) (nI n) (nI n) = _
      have h1 : kd_ (ha_ s4 (g n)) a = 15 := (k4 a (by omega)).trans ha
      have h3 : kd_ (ha_ s4 (g n)) y = 17 := (k4 y (by omega)).trans hy
      have h4 : fi_ (ha_ s4 (g n)) 1640 y = fi_ σ 1640 y := f4 1640 y (by omega)
      have h5 : fi_ (si_ (ha_ s4 (g n)) 1404 a (fi_ σ 1640 y)) 1638 y = fi_ σ 1638 y := by
        rw [fi_si, up2_c (by decide)]
        exact f4 1638 y (by omega)
      rw [f_X15_takesText_b9, if_pos (nI_le (Nat.le_refl _) (by omega)), gt_t h3, lt_e, h4, nn_s, gt_t h1, lt_e, lt_e, h5, lt_e]
  have gx : ∀ i, g n (nx_ σ) i = if i < n then ai_ σ T i else 0 := fun i => by
    rw [hg]
    exact if_pos rfl
  have gq : ∀ q, q ≠ nx_ σ → g n q = ai_ s4 q := fun q hq => by
    rw [hg]
    exact funext fun j => if_neg hq
  have fqg : fq_ (fun q => q = a) σ (ha_ s4 (g n)) := by
    refine ⟨fq4.1, fq4.2.1, fun q hq hT => ?_⟩
    rw [← fq4.2.2 q hq hT]
    have e : ai_ (ha_ s4 (g n)) q = ai_ s4 q := gq q (by omega)
    unfold ce_
    rw [e]
    rfl
  refine ⟨si_ (si_ (ha_ s4 (g n)) 1404 a (fi_ σ 1640 y)) 1405 a (fi_ σ 1638 y), ?_, fqi (fqi fqg rfl) rfl, ⟨?_, ?_⟩, ⟨kx4, lx4, gx⟩, r6, ?_, ?_, fun c c4 c5 => ?_, ?_, ?_⟩
  · rw [g0] at lp
    unfold f_X15_takesText
    rw [nI_clamp (by omega), gt_t ⟨nI_pos (by omega), by omega, wf_0 hf (Nat.le_refl _)⟩, lt_e, lt_e, nn_s, gt_t (show kd_ (nw_ σ 21 n n) a = 15 from (kd_nwn (by omega)).trans ha), lt_e, ← hs4]
    exact lp
  · show nx_ s4 = _
    rw [hs4]; rfl
  · show sl_ s4 = _
    rw [hs4]; rfl
  · rw [fi_si, up2_c (by decide), fi_si, up2_s]
  · rw [fi_si, up2_s]
  · rw [fi_si, up2_c c5, fi_si, up2_c c4]
    exact f4 c a (by omega)
  · exact (gq a (by omega)).trans (a4 a (by omega))
  · show ar_ s4 a = _
    rw [hs4, ar_sr]
    exact ar_nwn (by omega)
end TT9
