/-! CALLS: rewrite. Written by wip/b/mk99zg.py. -/
theorem sh_gx2 {K LN : Nat → Nat} {τ : TH} {G : GH} {r i b : Nat} (h : sh_ K LN τ G) (hb : fh_ G b) (hk : kd_ τ b = K r) (hk0 : K r ≠ 0) (hl : LN r ≠ 0 → ln_ τ b = LN r) : sh_ K LN τ (gx_ G r i b) := by
  refine ⟨h.1, fun s j hj => ?_⟩
  have hj' : j < gc_ G s := hj
  by_cases e : s = r ∧ j = i
  · obtain ⟨rfl, rfl⟩ := e
    have e1 : ga_ (gx_ G s j b) s j = b := if_pos ⟨rfl, rfl⟩
    rw [e1]
    exact ⟨hk, hk0, hl, if_pos rfl⟩
  · obtain ⟨h1, h2, h3, h4⟩ := h.2 s j hj'
    have e1 : ga_ (gx_ G r i b) s j = ga_ G s j := if_neg e
    rw [e1]
    exact ⟨h1, h2, h3, (if_neg (hb s j hj')).trans h4⟩
theorem fh_gx {G : GH} {r i b b2 : Nat} (h : fh_ G b2) (hne : b ≠ b2) : fh_ (gx_ G r i b) b2 := fun s j hj e => by
  by_cases q : s = r ∧ j = i
  · have : ga_ (gx_ G r i b) s j = b := if_pos q
    exact hne (this.symm.trans e)
  · have e1 : ga_ (gx_ G r i b) s j = ga_ G s j := if_neg q
    exact h s j hj (e1.symm.trans e)
theorem mr_xP {σ τ : TH} {y : Nat} {G : GH} {A : AS} {N : Nat → Nat} {k b : Nat} (h : mr_ σ y G A N) (hk : k < N 47) (hf : fq_ (fun q => q = y ∨ q = ga_ G 100 k) σ τ) (hb : nx_ σ ≤ b) (kb : kd_ τ b = 21) (hfr : ∀ c, fr_ τ c y = fr_ σ c y) (h6 : fr_ τ 1406 (ga_ G 100 k) = some b) (hfi : ∀ j, j ∈ MN → fi_ τ (1600 + j) y = fi_ σ (1600 + j) y) : mr_ τ y (gx_ G 101 k b) (aS A, aV A, (fun c q => if q = k then (if c < 1500 then fi_ τ c (ga_ G 100 k) else 0) else aP A c q), (fun q => if q = k then ai_ τ b else aB A q), (fun q => if q = k then ln_ τ b else aL A q), A.2.2.2.2.2) N := by
  have lt100 : ∀ r, r ∈ MA → r < 100 := by decide
  obtain ⟨⟨c100, c101, c102, c103, c104, c105, c106⟩, mpP, mpR, mpE⟩ := h.1.2.1.2.2
  have g0 : 0 < gc_ G 0 := by rw [h.1.2.1.1]; decide
  have gA : ∀ j, j ∈ MA → 0 < gc_ G j := fun j hj => by rw [(h.1.2.2.1 j hj).1]; decide
  have k100 : k < gc_ G 100 := by rw [c100]; exact hk
  have nT : ∀ r i, i < gc_ G r → r ≠ 0 → (r ≠ 100 ∨ i ≠ k) → ¬ (ga_ G r i = y ∨ ga_ G r i = ga_ G 100 k) := fun r i hi r0 r1 z => by
    rcases z with z | z
    · rw [← h.1.2.1.2.1] at z
      exact sh_ne h.1.1 hi g0 (Or.inl r0) z
    · exact sh_ne h.1.1 hi k100 r1 z
  have ce2 : ∀ r i, i < gc_ G r → r ≠ 0 → (r ≠ 100 ∨ i ≠ k) → ce_ τ (ga_ G r i) = ce_ σ (ga_ G r i) := fun r i hi r0 r1 => hf.2.2 _ (sh_lt h.1.1 hi) (nT r i hi r0 r1)
  have ce : ∀ r i, i < gc_ G r → r ≠ 0 → r ≠ 100 → ce_ τ (ga_ G r i) = ce_ σ (ga_ G r i) := fun r i hi r0 r1 => ce2 r i hi r0 (Or.inl r1)
  have cfi : ∀ r i, i < gc_ G r → r ≠ 0 → r ≠ 100 → ∀ c, fi_ τ c (ga_ G r i) = fi_ σ c (ga_ G r i) := fun r i hi r0 r1 c => congrFun (congrArg (fun z => z.2.1) (ce r i hi r0 r1)) c
  have cfr : ∀ r i, i < gc_ G r → r ≠ 0 → r ≠ 100 → ∀ c, fr_ τ c (ga_ G r i) = fr_ σ c (ga_ G r i) := fun r i hi r0 r1 c => congrFun (congrArg (fun z => z.2.2.1) (ce r i hi r0 r1)) c
  have cai : ∀ r i, i < gc_ G r → r ≠ 0 → r ≠ 100 → ai_ τ (ga_ G r i) = ai_ σ (ga_ G r i) := fun r i hi r0 r1 => congrArg (fun z => z.2.2.2.2.1) (ce r i hi r0 r1)
  have car : ∀ r i, i < gc_ G r → r ≠ 0 → r ≠ 100 → ar_ τ (ga_ G r i) = ar_ σ (ga_ G r i) := fun r i hi r0 r1 => congrArg (fun z => z.2.2.2.2.2.1) (ce r i hi r0 r1)
  have cln : ∀ r i, i < gc_ G r → r ≠ 0 → r ≠ 100 → ln_ τ (ga_ G r i) = ln_ σ (ga_ G r i) := fun r i hi r0 r1 => congrArg (fun z => z.1) (ce r i hi r0 r1)
  have gao : ∀ r i, r ≠ 101 → ga_ (gx_ G 101 k b) r i = ga_ G r i := fun r i z1 => by simp [gx_, ga_, z1]
  have ga1 : ∀ q, ga_ (gx_ G 101 k b) 101 q = if q = k then b else ga_ G 101 q := fun q => by
    show (if 101 = 101 ∧ q = k then b else ga_ G 101 q) = _
    simp
  refine ⟨⟨?_, ⟨h.1.2.1.1, ?_, ?_⟩, fun j hj => ?_, fun j hj => ?_⟩, fun j hj => ?_, ?_⟩
  · exact sh_gx2 (r := 101) (sh_fq h.1.1 hf) (fh_of h.1.1 hb) kb (by decide) (fun z => absurd rfl z)
  · rw [gao 0 0 (by decide)]; exact h.1.2.1.2.1
  · refine ⟨⟨c100, c101, c102, c103, c104, c105, c106⟩, fun q hq => ?_, fun q hq => ?_, fun q hq => ?_⟩
    · have hqG : q < gc_ G 100 := by rw [c100]; exact hq
      rw [gao 48 0 (by decide), gao 100 q (by decide), ga1, car 48 0 (gA 48 (by decide)) (by decide) (by decide)]
      by_cases z : q = k
      · subst z
        rw [if_pos rfl]
        exact ⟨(mpP q hq).1, h6⟩
      · rw [if_neg z, show fr_ τ 1406 (ga_ G 100 q) = fr_ σ 1406 (ga_ G 100 q) from congrFun (congrArg (fun z => z.2.2.1) (ce2 100 q hqG (by decide) (Or.inr z))) 1406]
        exact mpP q hq
    · have hqG : q < gc_ G 102 := by rw [c102]; exact hq
      rw [gao 60 0 (by decide), gao 102 q (by decide), gao 103 q (by decide), car 60 0 (gA 60 (by decide)) (by decide) (by decide), cfr 102 q hqG (by decide) (by decide)]
      exact mpR q hq
    · have hqG : q < gc_ G 104 := by rw [c104]; exact hq
      rw [gao 82 0 (by decide), gao 104 q (by decide), gao 105 q (by decide), gao 106 q (by decide), car 82 0 (gA 82 (by decide)) (by decide) (by decide), cfr 104 q hqG (by decide) (by decide), cfr 104 q hqG (by decide) (by decide)]
      exact mpE q hq
  · have hj' := lt100 j hj
    rw [gao j 0 (by omega), hfr]
    exact h.1.2.2.1 j hj
  · rw [hfi j hj]
    exact h.1.2.2.2 j hj
  · have hj2 : ∀ j, j ∈ MV → j ∈ MA ∧ j ≠ 0 := by decide
    obtain ⟨j1, j3⟩ := hj2 j hj
    have hj' := lt100 j j1
    rw [as_V j1, gao j 0 (by omega), cai j 0 (gA j j1) j3 (by omega)]
    exact mr_V' h hj
  · have p0 := h.2.2
    have pP : aP (as_ σ y G) = aP A := congrArg (fun z => z.1) p0
    have pB : aB (as_ σ y G) = aB A := congrArg (fun z => z.2.1) p0
    have pL : aL (as_ σ y G) = aL A := congrArg (fun z => z.2.2.1) p0
    have pR : aR (as_ σ y G) = aR A := congrArg (fun z => z.2.2.2.1) p0
    have pM : aM (as_ σ y G) = aM A := congrArg (fun z => z.2.2.2.2.1) p0
    have pE : aE (as_ σ y G) = aE A := congrArg (fun z => z.2.2.2.2.2.1) p0
    have pD : aD (as_ σ y G) = aD A := congrArg (fun z => z.2.2.2.2.2.2.1) p0
    have pF : aF (as_ σ y G) = aF A := congrArg (fun z => z.2.2.2.2.2.2.2) p0
    have e1 : aP (as_ τ y (gx_ G 101 k b)) = fun c q => if q = k then (if c < 1500 then fi_ τ c (ga_ G 100 k) else 0) else aP A c q := by
      rw [← pP]
      funext c q
      show (if c < 1500 ∧ q < gc_ G 100 then fi_ τ c (ga_ (gx_ G 101 k b) 100 q) else 0) = if q = k then (if c < 1500 then fi_ τ c (ga_ G 100 k) else 0) else (if c < 1500 ∧ q < gc_ G 100 then fi_ σ c (ga_ G 100 q) else 0)
      rw [gao 100 q (by decide)]
      by_cases z : q = k
      · rw [if_pos z, z]
        by_cases zc : c < 1500
        · rw [if_pos ⟨zc, k100⟩, if_pos zc]
        · rw [if_neg (fun q => zc q.1), if_neg zc]
      · rw [if_neg z]
        by_cases zz : c < 1500 ∧ q < gc_ G 100
        · rw [if_pos zz, if_pos zz]
          exact congrFun (congrArg (fun z => z.2.1) (ce2 100 q zz.2 (by decide) (Or.inr z))) c
        · rw [if_neg zz, if_neg zz]
    have e2 : aB (as_ τ y (gx_ G 101 k b)) = fun q => if q = k then ai_ τ b else aB A q := by
      rw [← pB]
      funext q
      show (if q < gc_ G 101 then ai_ τ (ga_ (gx_ G 101 k b) 101 q) else fun _ => (0 : Int32)) = if q = k then ai_ τ b else (if q < gc_ G 101 then ai_ σ (ga_ G 101 q) else fun _ => (0 : Int32))
      rw [ga1]
      by_cases z : q = k
      · rw [if_pos (by rw [c101]; omega), if_pos z, if_pos z]
      · rw [if_neg z, if_neg z]
        by_cases zz : q < gc_ G 101
        · rw [if_pos zz, if_pos zz, cai 101 q zz (by decide) (by decide)]
        · rw [if_neg zz, if_neg zz]
    have e3 : aL (as_ τ y (gx_ G 101 k b)) = fun q => if q = k then ln_ τ b else aL A q := by
      rw [← pL]
      funext q
      show (if q < gc_ G 101 then ln_ τ (ga_ (gx_ G 101 k b) 101 q) else 0) = if q = k then ln_ τ b else (if q < gc_ G 101 then ln_ σ (ga_ G 101 q) else 0)
      rw [ga1]
      by_cases z : q = k
      · rw [if_pos (by rw [c101]; omega), if_pos z, if_pos z]
      · rw [if_neg z, if_neg z]
        by_cases zz : q < gc_ G 101
        · rw [if_pos zz, if_pos zz, cln 101 q zz (by decide) (by decide)]
        · rw [if_neg zz, if_neg zz]
    have e4 : aR (as_ τ y (gx_ G 101 k b)) = aR A := by
      rw [← pR]
      funext q
      show (if q < gc_ G 103 then ai_ τ (ga_ (gx_ G 101 k b) 103 q) else fun _ => (0 : Int32)) = if q < gc_ G 103 then ai_ σ (ga_ G 103 q) else fun _ => (0 : Int32)
      by_cases z : q < gc_ G 103
      · rw [if_pos z, if_pos z, gao 103 q (by decide), cai 103 q z (by decide) (by decide)]
      · rw [if_neg z, if_neg z]
    have e5 : aM (as_ τ y (gx_ G 101 k b)) = aM A := by
      rw [← pM]
      funext q
      show (if q < gc_ G 103 then ln_ τ (ga_ (gx_ G 101 k b) 103 q) else 0) = if q < gc_ G 103 then ln_ σ (ga_ G 103 q) else 0
      by_cases z : q < gc_ G 103
      · rw [if_pos z, if_pos z, gao 103 q (by decide), cln 103 q z (by decide) (by decide)]
      · rw [if_neg z, if_neg z]
    have e6 : aE (as_ τ y (gx_ G 101 k b)) = aE A := by
      rw [← pE]
      funext c q
      show (if c < 1400 ∧ q < gc_ G 104 then fi_ τ c (ga_ (gx_ G 101 k b) 104 q) else 0) = if c < 1400 ∧ q < gc_ G 104 then fi_ σ c (ga_ G 104 q) else 0
      by_cases z : c < 1400 ∧ q < gc_ G 104
      · rw [if_pos z, if_pos z, gao 104 q (by decide), cfi 104 q z.2 (by decide) (by decide)]
      · rw [if_neg z, if_neg z]
    have e7 : aD (as_ τ y (gx_ G 101 k b)) = aD A := by
      rw [← pD]
      funext q
      show (if q < gc_ G 105 then ai_ τ (ga_ (gx_ G 101 k b) 105 q) else fun _ => (0 : Int32)) = if q < gc_ G 105 then ai_ σ (ga_ G 105 q) else fun _ => (0 : Int32)
      by_cases z : q < gc_ G 105
      · rw [if_pos z, if_pos z, gao 105 q (by decide), cai 105 q z (by decide) (by decide)]
      · rw [if_neg z, if_neg z]
    have e8 : aF (as_ τ y (gx_ G 101 k b)) = aF A := by
      rw [← pF]
      funext q
      show (if q < gc_ G 106 then ai_ τ (ga_ (gx_ G 101 k b) 106 q) else fun _ => (0 : Int32)) = if q < gc_ G 106 then ai_ σ (ga_ G 106 q) else fun _ => (0 : Int32)
      by_cases z : q < gc_ G 106
      · rw [if_pos z, if_pos z, gao 106 q (by decide), cai 106 q z (by decide) (by decide)]
      · rw [if_neg z, if_neg z]
    show (aP (as_ τ y (gx_ G 101 k b)), aB (as_ τ y (gx_ G 101 k b)), aL (as_ τ y (gx_ G 101 k b)), aR (as_ τ y (gx_ G 101 k b)), aM (as_ τ y (gx_ G 101 k b)), aE (as_ τ y (gx_ G 101 k b)), aD (as_ τ y (gx_ G 101 k b)), aF (as_ τ y (gx_ G 101 k b))) = _
    rw [e1, e2, e3, e4, e5, e6, e7, e8]
    rfl
section XT9
variable {ka : Nat → Nat} {TX : Nat → Nat → (Nat → Int32) → Nat → (Nat → Int32) → Prop} {x y o N0 : Nat}
theorem ob_xt {A : AS} {G : GH} {N : Nat → Nat} {r i : Nat} {m : CE} (S : Nat → Int32) (P B : Nat → Nat → Int32) (L : Nat → Nat) (k a b : Nat) (hd : ¬ r ∈ ([0, 10, 12, 13, 31, 33, 34, 35, 37, 38] : List Nat)) (h : ob_ ka TX A G N r i m) : ob_ ka TX (S, aV A, P, B, L, A.2.2.2.2.2) (gx_ (gx_ G 37 k a) 38 k b) (fun q => if q = 30 then 0 else N q) r i m := by
  match r, hd, h with
  | 0, hd, h => exact absurd (by decide) hd
  | 1, hd, h => exact h
  | 2, hd, h => exact h
  | 3, hd, h => exact h
  | 4, hd, h => exact h
  | 5, hd, h => exact h
  | 6, hd, h => exact h
  | 7, hd, h => exact h
  | 8, hd, h => exact h
  | 9, hd, h => exact h
  | 10, hd, h => exact absurd (by decide) hd
  | 11, hd, h => exact h
  | 12, hd, h => exact absurd (by decide) hd
  | 13, hd, h => exact absurd (by decide) hd
  | 14, hd, h => exact h
  | 15, hd, h => exact h
  | 16, hd, h => exact h
  | 17, hd, h => exact h
  | 18, hd, h => exact h
  | 19, hd, h => exact h
  | 20, hd, h => exact h
  | 21, hd, h => exact h
  | 22, hd, h => exact h
  | 23, hd, h => exact h
  | 24, hd, h => exact h
  | 25, hd, h => exact h
  | 26, hd, h => exact h
  | 27, hd, h => exact h
  | 28, hd, h => exact h
  | 29, hd, h => exact h
  | 30, hd, h => exact h
  | 31, hd, h => exact absurd (by decide) hd
  | 32, hd, h => exact h
  | 33, hd, h => exact absurd (by decide) hd
  | 34, hd, h => exact absurd (by decide) hd
  | 35, hd, h => exact absurd (by decide) hd
  | 36, hd, h => exact h
  | 37, hd, h => exact absurd (by decide) hd
  | 38, hd, h => exact absurd (by decide) hd
  | 39, hd, h => exact h
  | 40, hd, h => exact h
  | 41, hd, h => exact h
  | 42, hd, h => exact h
  | 43, hd, h => exact h
  | 44, hd, h => exact h
  | 45, hd, h => exact h
  | 46, hd, h => exact h
  | 47, hd, h => exact h
  | 48, hd, h => exact h
  | 49, hd, h => exact h
  | 50, hd, h => exact h
  | 51, hd, h => exact h
  | 52, hd, h => exact h
  | 53, hd, h => exact h
  | 54, hd, h => exact h
  | 55, hd, h => exact h
  | 56, hd, h => exact h
  | 57, hd, h => exact h
  | 58, hd, h => exact h
  | r + 59, hd, h => exact h

theorem rc_xt {c c1 : TH} {G : GH} {A : AS} {N : Nat → Nat} {p k a b : Nat} {P B : Nat → Nat → Int32} {L : Nat → Nat} (h : rc_ ka TX c x G A N) (hp : p < N 5) (hN5 : N 5 ≤ 30) (hk : k < N 47) (hkp : aP A 1400 k = nI p)
    (hf : fq_ (fun q => (q = x ∨ q = ga_ G 10 0 ∨ q = ga_ G 12 0 ∨ q = ga_ G 13 0) ∨ q = ga_ G 33 p) c c1)
    (x1 : ∀ d, fr_ c1 d x = fr_ c d x) (x2 : ∀ d, d ≠ 1214 → fi_ c1 d x = fi_ c d x) (x4 : fi_ c1 1214 x = 0)
    (r1 : ∀ d, fr_ c1 d (ga_ G 10 0) = fr_ c d (ga_ G 10 0)) (r2 : fi_ c1 701 (ga_ G 10 0) = 0) (r3 : fi_ c1 702 (ga_ G 10 0) = 0)
    (t3 : ∀ j, ar_ c1 (ga_ G 33 p) j = if j = pl_ A k then some a else ar_ c (ga_ G 33 p) j)
    (ha : nx_ c ≤ a) (hb : nx_ c ≤ b) (hab : a ≠ b) (a1 : kd_ c1 a = 11 ∧ fr_ c1 1000 a = some b ∧ fi_ c1 1001 a = P 1404 k ∧ fi_ c1 1002 a = P 1405 k) (b1 : kd_ c1 b = 20) (b2 : TX 0 (L k) (B k) (ln_ c1 b) (ai_ c1 b))
    (hP : ∀ q, ∀ d, (q ≠ k ∨ (d ≠ 1404 ∧ d ≠ 1405)) → P d q = aP A d q) (hB : ∀ q, q ≠ k → B q = aB A q ∧ L q = aL A q) :
    rc_ ka TX c1 x (gx_ (gx_ G 37 k a) 38 k b) ((fun q => if q = 2 then -1 else if q = 1 then 0 else if q = 3 then 0 else if q = 30 then 0 else aS A q), aV A, P, B, L, A.2.2.2.2.2) (fun q => if q = 30 then 0 else N q) := by
  obtain ⟨c37, c38, c33, c34, c35⟩ := rc_37 h
  have c31 := rc_31 h
  have hx0 : ∀ r i, i < gc_ G r → r ≠ 0 → ga_ G r i ≠ x := fun r i hi hr => rc_nx h hi hr
  have nT : ∀ r i, i < gc_ G r → r ≠ 0 → r ≠ 10 → r ≠ 12 → r ≠ 13 → (r = 33 → i ≠ p) → ce_ c1 (ga_ G r i) = ce_ c (ga_ G r i) := fun r i hi z0 z10 z12 z13 zz => by
    refine rc_ce h hf hi (fun q => ?_)
    rcases q with (q | q | q | q) | q
    · exact hx0 r i hi z0 q
    · exact sh_ne h.1 hi (rc_1 h (by decide)) (Or.inl z10) q
    · exact sh_ne h.1 hi (rc_1 h (by decide)) (Or.inl z12) q
    · exact sh_ne h.1 hi (rc_1 h (by decide)) (Or.inl z13) q
    · refine sh_ne h.1 hi (show p < gc_ G 33 by rw [c33]; exact hp) ?_ q
      by_cases w : r = 33
      · exact Or.inr (zz w)
      · exact Or.inl w
  have P0 : ∀ q, P 1400 q = aP A 1400 q := fun q => hP q 1400 (Or.inr (by decide))
  have st9 : ∀ i, st_ ((fun q => if q = 2 then -1 else if q = 1 then 0 else if q = 3 then 0 else if q = 30 then 0 else aS A q), aV A, P, B, L, A.2.2.2.2.2) (fun q => if q = 30 then 0 else N q) i = st_ A N i := fun i => by
    unfold st_
    show cn_ (fun k => decide (P 1400 k = nI i)) (N 47) = _
    exact cn_cong (N 47) (fun q _ => by rw [P0])
  have pl9 : ∀ q, pl_ ((fun q => if q = 2 then -1 else if q = 1 then 0 else if q = 3 then 0 else if q = 30 then 0 else aS A q), aV A, P, B, L, A.2.2.2.2.2) q = pl_ A q := fun q => by
    unfold pl_
    show cn_ (fun r => decide (P 1400 r = P 1400 q)) q = _
    exact cn_cong q (fun r _ => by rw [P0, P0])
  have hsh : sh_ KC LC c1 (gx_ (gx_ G 37 k a) 38 k b) := sh_gx2 (r := 38) (sh_gx2 (r := 37) (sh_fq h.1 hf) (fh_of h.1 ha) a1.1 (by decide) (fun z => absurd rfl z)) (fh_gx (fh_of h.1 hb) hab) b1 (by decide) (fun z => absurd rfl z)
  have g37 : ∀ q, ga_ (gx_ (gx_ G 37 k a) 38 k b) 37 q = if q = k then a else ga_ G 37 q := fun q => by
    show (if 37 = 38 ∧ q = k then b else if 37 = 37 ∧ q = k then a else ga_ G 37 q) = _
    simp
  have g38 : ∀ q, ga_ (gx_ (gx_ G 37 k a) 38 k b) 38 q = if q = k then b else ga_ G 38 q := fun q => by
    show (if 38 = 38 ∧ q = k then b else if 38 = 37 ∧ q = k then a else ga_ G 38 q) = _
    simp
  -- paragraphs of one story at one place are one
  have uniq : ∀ q, q < N 47 → aP A 1400 q = nI p → pl_ A q = pl_ A k → q = k := fun q hq e1 e2 => by
    rcases Nat.lt_trichotomy q k with z | z | z
    · have : cn_ (fun r => decide (aP A 1400 r = nI p)) q < cn_ (fun r => decide (aP A 1400 r = nI p)) k := cn_lt9 z (by simpa using e1)
      unfold pl_ at e2
      rw [e1, hkp] at e2
      omega
    · exact z
    · have : cn_ (fun r => decide (aP A 1400 r = nI p)) k < cn_ (fun r => decide (aP A 1400 r = nI p)) q := cn_lt9 z (by simpa using hkp)
      unfold pl_ at e2
      rw [e1, hkp] at e2
      omega
  refine rc_gen2 h hf hsh h.2.2.1 [0, 10, 12, 13, 31, 33, 34, 35, 37, 38] (fun r hr => ?_) h.2.1.1 (fun q hq => ?_) (fun r i m hr h9 => ob_xt _ P B L k a b hr h9) (fun r i hr hi => ?_)
  · have q1 : r ≠ 37 := fun z => hr (by rw [z]; decide)
    have q2 : r ≠ 38 := fun z => hr (by rw [z]; decide)
    exact ⟨rfl, fun i => by simp [gx_, ga_, q1, q2]⟩
  · rcases hq with (hq | hq | hq | hq) | hq
    · exact Or.inl ⟨0, 0, by decide, rc_1 h (by decide), hq.trans h.2.1.1.symm⟩
    · exact Or.inl ⟨10, 0, by decide, rc_1 h (by decide), hq⟩
    · exact Or.inl ⟨12, 0, by decide, rc_1 h (by decide), hq⟩
    · exact Or.inl ⟨13, 0, by decide, rc_1 h (by decide), hq⟩
    · exact Or.inl ⟨33, p, by decide, by rw [c33]; exact hp, hq⟩
  · simp only [List.mem_cons, List.not_mem_nil, or_false] at hr
    rcases hr with rfl | rfl | rfl | rfl | rfl | rfl | rfl | rfl | rfl | rfl
    · have : i = 0 := g0_ h (by decide) (show i < gc_ G 0 from hi)
      subst this
      have q := h.2.2.2 0 0 (rc_1 h (by decide))
      show ob_ ka TX _ _ _ 0 0 (ce_ c1 (ga_ G 0 0))
      rw [h.2.1.1] at q ⊢
      obtain ⟨⟨q20, q21, q22, q23, q24, q25, q26, q27, q28, q29, q30, q31⟩, q1, q2, q3, q4, q5, q6, q7, q8⟩ := q
      exact ⟨⟨(x1 1200).trans q20, (x1 1201).trans q21, (x1 1202).trans q22, (x1 1203).trans q23, (x1 1204).trans q24, (x1 1205).trans q25, (x1 1206).trans q26, (x1 1207).trans q27, (x1 1208).trans q28, (x1 1209).trans q29, (x1 1210).trans q30, (x1 1218).trans q31⟩, (x2 1211 (by decide)).trans q1, (x2 1212 (by decide)).trans q2, (x2 1213 (by decide)).trans q3, x4, (x2 1215 (by decide)).trans q5, (x2 1216 (by decide)).trans q6, (x2 1217 (by decide)).trans q7, (x2 1219 (by decide)).trans q8⟩
    · have : i = 0 := g0_ h (by decide) (show i < gc_ G 10 from hi)
      subst this
      obtain ⟨q1, q2, q3, q4, q5, q6, q7⟩ := h.2.2.2 10 0 (rc_1 h (by decide))
      exact ⟨(r1 700).trans q1, (r1 704).trans q2, (r1 705).trans q3, r2, r3, fun z => absurd (show (0 : Int32) = 4 from z) (by decide), fun _ => rfl⟩
    · trivial
    · trivial
    · have hi2 : i < gc_ G 31 := hi
      show ob_ ka TX _ _ _ 31 i (ce_ c1 (ga_ G 31 i))
      rw [nT 31 i hi2 (by decide) (by decide) (by decide) (by decide) (fun z => by cases z)]
      obtain ⟨q0, q1, q2, q3, q4, q5, q6, q7, q8, q9, q10, q11, q12, q13, q14⟩ := h.2.2.2 31 i hi2
      exact ⟨q0, q1, q2, q3, q4, q5, q6, q7, q8.trans (congrArg nI (st9 i).symm), q9, q10, q11, q12, q13, q14⟩
    · have hi' : i < N 5 := by rw [← c33]; exact hi
      have hi2 : i < gc_ G 33 := hi
      have q := h.2.2.2 33 i hi2
      intro s hs e
      have hs : s < N 47 := hs
      have e : aP A 1400 s = nI i := by rw [← P0]; exact e
      show ar_ c1 (ga_ G 33 i) (pl_ ((fun q => if q = 2 then -1 else if q = 1 then 0 else if q = 3 then 0 else if q = 30 then 0 else aS A q), aV A, P, B, L, A.2.2.2.2.2) s) = some (ga_ (gx_ (gx_ G 37 k a) 38 k b) 37 s)
      rw [g37, pl9]
      by_cases z : i = p
      · subst z
        rw [t3]
        by_cases y1 : s = k
        · rw [y1, if_pos rfl, if_pos rfl]
        · rw [if_neg (fun q => y1 (uniq s hs e q)), if_neg y1]
          exact q s hs e
      · have y1 : s ≠ k := fun y1 => by
          rw [y1, hkp] at e
          exact z ((nI_eq (by omega) (by omega)).mp e).symm
        rw [if_neg y1, show ar_ c1 (ga_ G 33 i) = ar_ c (ga_ G 33 i) from congrArg (fun z => z.2.2.2.2.2.1) (nT 33 i hi2 (by decide) (by decide) (by decide) (by decide) (fun _ => z))]
        exact q s hs e
    · have hi2 : i < gc_ G 34 := hi
      have q := h.2.2.2 34 i hi2
      intro s hs e
      have e : aP A 1400 s = nI i := by rw [← P0]; exact e
      show ai_ c1 (ga_ G 34 i) (pl_ ((fun q => if q = 2 then -1 else if q = 1 then 0 else if q = 3 then 0 else if q = 30 then 0 else aS A q), aV A, P, B, L, A.2.2.2.2.2) s) = P 1402 s
      rw [pl9, hP s 1402 (Or.inr (by decide)), show ai_ c1 (ga_ G 34 i) = ai_ c (ga_ G 34 i) from congrArg (fun z => z.2.2.2.2.1) (nT 34 i hi2 (by decide) (by decide) (by decide) (by decide) (fun z => by cases z))]
      exact q s hs e
    · have hi2 : i < gc_ G 35 := hi
      have q := h.2.2.2 35 i hi2
      intro s hs e
      have e : aP A 1400 s = nI i := by rw [← P0]; exact e
      show ai_ c1 (ga_ G 35 i) (pl_ ((fun q => if q = 2 then -1 else if q = 1 then 0 else if q = 3 then 0 else if q = 30 then 0 else aS A q), aV A, P, B, L, A.2.2.2.2.2) s) = P 1403 s
      rw [pl9, hP s 1403 (Or.inr (by decide)), show ai_ c1 (ga_ G 35 i) = ai_ c (ga_ G 35 i) from congrArg (fun z => z.2.2.2.2.1) (nT 35 i hi2 (by decide) (by decide) (by decide) (by decide) (fun z => by cases z))]
      exact q s hs e
    · have hi2 : i < gc_ G 37 := hi
      obtain ⟨q1, q2, q3, q4⟩ := h.2.2.2 37 i hi2
      rw [g37]
      show P 1401 i = nI (pl_ ((fun q => if q = 2 then -1 else if q = 1 then 0 else if q = 3 then 0 else if q = 30 then 0 else aS A q), aV A, P, B, L, A.2.2.2.2.2) i) ∧ fr_ c1 1000 (if i = k then a else ga_ G 37 i) = some (ga_ (gx_ (gx_ G 37 k a) 38 k b) 38 i) ∧ fi_ c1 1001 (if i = k then a else ga_ G 37 i) = P 1404 i ∧ fi_ c1 1002 (if i = k then a else ga_ G 37 i) = P 1405 i
      rw [g38, pl9, hP i 1401 (Or.inr (by decide))]
      by_cases z : i = k
      · rw [if_pos z, if_pos z]
        subst z
        exact ⟨q1, a1.2.1, a1.2.2.1, a1.2.2.2⟩
      · have ce := nT 37 i hi2 (by decide) (by decide) (by decide) (by decide) (fun q => by cases q)
        rw [if_neg z, if_neg z, hP i 1404 (Or.inl z), hP i 1405 (Or.inl z)]
        exact ⟨q1, (congrFun (congrArg (fun z => z.2.2.1) ce) 1000).trans q2, (congrFun (congrArg (fun z => z.2.1) ce) 1001).trans q3, (congrFun (congrArg (fun z => z.2.1) ce) 1002).trans q4⟩
    · have hi2 : i < gc_ G 38 := hi
      rw [g38]
      show TX 0 (L i) (B i) (ln_ c1 (if i = k then b else ga_ G 38 i)) (ai_ c1 (if i = k then b else ga_ G 38 i))
      by_cases z : i = k
      · rw [if_pos z, z]
        exact b2
      · have ce := nT 38 i hi2 (by decide) (by decide) (by decide) (by decide) (fun q => by cases q)
        have q := h.2.2.2 38 i hi2
        rw [if_neg z, (hB i z).1, (hB i z).2, show ln_ c1 (ga_ G 38 i) = ln_ c (ga_ G 38 i) from congrArg (fun z => z.1) ce, show ai_ c1 (ga_ G 38 i) = ai_ c (ga_ G 38 i) from congrArg (fun z => z.2.2.2.2.1) ce]
        exact q
theorem pv_xt {A : AS} {N : Nat → Nat} {k : Nat} {S : Nat → Int32} {P B : Nat → Nat → Int32} {L : Nat → Nat} (h : pv_ A N) (hP : ∀ q, ∀ d, (q ≠ k ∨ (d ≠ 1404 ∧ d ≠ 1405)) → P d q = aP A d q) (e4 : ∃ z, z < 1024 ∧ P 1404 k = nI z) : pv_ (S, aV A, P, B, L, A.2.2.2.2.2) (fun q => if q = 30 then 0 else N q) := by
  obtain ⟨h1, h2, h3, h4, h5, h6, h7, h8⟩ := h
  have P0 : ∀ q, P 1400 q = aP A 1400 q := fun q => hP q 1400 (Or.inr (by decide))
  refine ⟨h1, fun q hq => ?_, h3, fun q hq => ?_, h5, h6, h7, h8⟩
  · obtain ⟨a1, a2, a3, a4⟩ := h2 q hq
    refine ⟨a1, a2, a3, ?_⟩
    have : st_ (S, aV A, P, B, L, A.2.2.2.2.2) (fun q => if q = 30 then 0 else N q) q = st_ A N q := by
      unfold st_
      show cn_ (fun k => decide (P 1400 k = nI q)) (N 47) = _
      exact cn_cong (N 47) (fun q _ => by rw [P0])
    rw [this]
    exact a4
  · have hq : q < N 47 := hq
    obtain ⟨a1, a2, a3, a4⟩ := h4 q hq
    have epl : pl_ (S, aV A, P, B, L, A.2.2.2.2.2) q = pl_ A q := by
      unfold pl_
      show cn_ (fun r => decide (P 1400 r = P 1400 q)) q = _
      exact cn_cong q (fun r _ => by rw [P0, P0])
    rw [epl]
    show (∃ p, p < N 5 ∧ P 1400 q = nI p) ∧ ((0 : Int32) ≤ P 1402 q ∧ P 1402 q ≤ 999) ∧ (P 1403 q = -1 ∨ ∃ j, j < pl_ A q ∧ P 1403 q = nI j) ∧ ∃ z, z < 1024 ∧ P 1404 q = nI z
    rw [P0, hP q 1402 (Or.inr (by decide)), hP q 1403 (Or.inr (by decide))]
    refine ⟨a1, a2, a3, ?_⟩
    by_cases z : q = k
    · rw [z]; exact e4
    · rw [hP q 1404 (Or.inl z)]; exact a4
end XT9
