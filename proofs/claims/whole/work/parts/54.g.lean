/-! GROUND 2: loops; the reference's contents apart from its scratch; the sober truths (pv_); how a call ends. Written by wip/b/mk54.py. -/
theorem lp_ {α β : Type} {F : Nat → α → Int32 → Option β} (n : Nat) (s : Nat → α) {r : Option β} (hs : ∀ f i, i < n → F (f + 1) (s i) (nI i) = F f (s (i + 1)) (nI (i + 1))) (he : ∀ f, F (f + 1) (s n) (nI n) = r) (hn : n < 40000) : F fu_ (s 0) (nI 0) = r := by
  have key : ∀ k, k ≤ n → ∀ f, n ≤ f + k → F (f + 1) (s k) (nI k) = r := by
    intro k hk f hf
    induction f generalizing k with
    | zero =>
      have : k = n := by omega
      subst this
      exact he 0
    | succ f ih =>
      rcases Nat.lt_or_ge k n with h | h
      · rw [hs (f + 1) k h]
        exact ih (k + 1) h (by omega)
      · have : k = n := by omega
        subst this
        exact he (f + 1)
  exact key 0 (Nat.zero_le _) 39999 (by omega)
/-- the same from any place -/
theorem lpk_ {α β : Type} {F : Nat → α → Int32 → Option β} (k n : Nat) (hk : k ≤ n) (s : Nat → α) {r : Option β} (hs : ∀ f i, k ≤ i → i < n → F (f + 1) (s i) (nI i) = F f (s (i + 1)) (nI (i + 1))) (he : ∀ f, F (f + 1) (s n) (nI n) = r) (hn : n < 40000) : F fu_ (s k) (nI k) = r := by
  have key : ∀ q, k ≤ q → q ≤ n → ∀ f, n ≤ f + q → F (f + 1) (s q) (nI q) = r := by
    intro q hq hk f hf
    induction f generalizing q with
    | zero =>
      have : q = n := by omega
      subst this
      exact he 0
    | succ f ih =>
      rcases Nat.lt_or_ge q n with h | h
      · rw [hs (f + 1) q hq h]
        exact ih (q + 1) (by omega) h (by omega)
      · have : q = n := by omega
        subst this
        exact he (f + 1)
  exact key k (Nat.le_refl _) hk 39999 (by omega)
def MV : List Nat := [7, 8, 9, 10, 11, 12, 13, 14, 15, 16, 18, 19, 20, 21, 22, 23, 24, 26, 28, 61, 62, 63, 64, 65, 66, 67, 68, 72, 73, 74, 75, 76, 77, 78, 79, 80, 81, 84]
def DS : List Nat := [17, 47, 6, 1, 42, 56, 57, 87, 30, 3, 2]
theorem MV_MA : ∀ j, j ∈ MV → j ∈ MA := by decide
/-- the reference's heap, and what it holds apart from scratch -/
def mr_ (σ : TH) (y : Nat) (G : GH) (A : AS) (N : Nat → Nat) : Prop := mo_ σ y G N ∧ (∀ j, j ∈ MV → aV (as_ σ y G) j = aV A j) ∧ (as_ σ y G).2.2 = A.2.2
theorem mr_of {σ : TH} {y : Nat} {G : GH} {N : Nat → Nat} (h : mo_ σ y G N) : mr_ σ y G (as_ σ y G) N := ⟨h, fun _ _ => rfl, rfl⟩
section MR
variable {σ : TH} {y : Nat} {G : GH} {A : AS} {N : Nat → Nat}
theorem mr_S (h : mr_ σ y G A N) (S : Nat → Int32) : mr_ σ y G (S, A.2) N := h
theorem mr_V (h : mr_ σ y G A N) {j : Nat} (hj : j ∈ MV) (t : Nat) : ai_ σ (ga_ G j 0) t = aV A j t := by
  have := h.2.1 j hj
  rw [as_V (MV_MA j hj)] at this
  exact congrFun this t
theorem mr_bm {z : TH} (h : mr_ σ y G A N) (hn : nx_ σ ≤ nx_ z) : mr_ (bm_ σ z) y G A N := ⟨mo_bm h.1 hn, h.2.1, h.2.2⟩
theorem mr_si (h : mr_ σ y G A N) {j c : Nat} (hc : 1600 + j = c ∧ j ∉ MN) (v : Int32) : mr_ (si_ σ c y v) y G A N := by
  obtain ⟨hc, hj⟩ := hc
  have e := as_si σ y G j c v hc
  refine ⟨mo_si h.1 (fun q hq e2 => hj ?_), ?_, ?_⟩
  · have : j = q := by omega
    rw [this]; exact hq
  · rw [e]; exact h.2.1
  · rw [e]; exact h.2.2
theorem mr_tr (h : mr_ σ y G A N) (v : Int32) : mr_ (tr_ σ y v) y G A N := mr_si (mr_si h (j := 1) (by decide) v) (j := 2) (by decide) (-1)
theorem mr_sn (h : mr_ σ y G A N) (j c n : Nat) (hj : j ∈ MN ∧ 1600 + j = c ∧ j ≠ 47 ∧ j ≠ 58 ∧ j ≠ 71) (hn : n ≤ MX j) : mr_ (si_ σ c y (nI n)) y G A (fun q => if q = j then n else N q) := by
  have e := as_si σ y G j c (nI n) hj.2.1
  refine ⟨mo_sn h.1 j c n hj hn, ?_, ?_⟩
  · rw [e]; exact h.2.1
  · rw [e]; exact h.2.2
theorem mr_sa (h : mr_ σ y G A N) {j : Nat} (hj : j ∈ MV) (i : Nat) (v : Int32) : mr_ (sa_ σ (ga_ G j 0) i v) y G (A.1, up2_ (aV A) j i v, A.2.2) N := by
  have e := as_sa h.1 j i v (MV_MA j hj)
  refine ⟨mo_sa h.1, fun q hq => ?_, ?_⟩
  · rw [e]
    show up2_ (aV (as_ σ y G)) j i v q = up2_ (aV A) j i v q
    have h3 := h.2.1 q hq
    funext z
    rw [up2_e, up2_e, h3]
  · rw [e]; exact h.2.2
/-- scratch -/
theorem mr_sx (h : mr_ σ y G A N) {j : Nat} (hj : j ∈ MA ∧ j ∉ MV) (i : Nat) (v : Int32) : mr_ (sa_ σ (ga_ G j 0) i v) y G A N := by
  have e := as_sa h.1 j i v hj.1
  refine ⟨mo_sa h.1, fun q hq => ?_, ?_⟩
  · rw [e]
    show up2_ (aV (as_ σ y G)) j i v q = aV A q
    rw [up2_c (show q ≠ j from fun z => hj.2 (by rw [← z]; exact hq))]
    exact h.2.1 q hq
  · rw [e]; exact h.2.2
theorem mr_so (h : mr_ σ y G A N) (c a : Nat) (v : Int64) : mr_ (so_ σ c a v) y G A N := h
theorem mr_sr (h : mr_ σ y G A N) (v : Option Nat) : mr_ (sr_ σ 1629 y v) y G A N := by
  refine ⟨⟨h.1.1, ⟨h.1.2.1.1, h.1.2.1.2.1, ?_⟩, fun j hj => ?_, h.1.2.2.2⟩, h.2.1, h.2.2⟩
  · obtain ⟨h1, h2, h3, h4⟩ := h.1.2.1.2.2
    refine ⟨h1, fun k hk => ⟨(h2 k hk).1, ?_⟩, fun k hk => ⟨(h3 k hk).1, ?_⟩, fun k hk => ⟨(h4 k hk).1, ?_, ?_⟩⟩
    · rw [fr_sr, up2_c (by decide)]; exact (h2 k hk).2
    · rw [fr_sr, up2_c (by decide)]; exact (h3 k hk).2
    · rw [fr_sr, up2_c (by decide)]; exact (h4 k hk).2.1
    · rw [fr_sr, up2_c (by decide)]; exact (h4 k hk).2.2
  · have h9 : ∀ q, q ∈ MA → 1600 + q ≠ 1629 := by decide
    rw [fr_sr, up2_c (h9 j hj)]
    exact h.1.2.2.1 j hj
theorem mr_P (h : mr_ σ y G A N) {k : Nat} (hk : k < N 47) : (∀ c, c < 1500 → fi_ σ c (ga_ G 100 k) = aP A c k) ∧ ai_ σ (ga_ G 101 k) = aB A k ∧ ln_ σ (ga_ G 101 k) = aL A k ∧ kd_ σ (ga_ G 100 k) = 15 ∧ kd_ σ (ga_ G 101 k) = 21 ∧ ar_ σ (ga_ G 48 0) k = some (ga_ G 100 k) ∧ fr_ σ 1406 (ga_ G 100 k) = some (ga_ G 101 k) := by
  obtain ⟨⟨c1, c2, -⟩, h2, -⟩ := h.1.2.1.2.2
  have g1 : k < gc_ G 100 := by rw [c1]; exact hk
  have g2 : k < gc_ G 101 := by rw [c2]; exact hk
  have e := h.2.2
  have p1 : aP (as_ σ y G) = aP A := congrArg Prod.fst e
  have p2 : aB (as_ σ y G) = aB A := congrArg (fun z => z.2.1) e
  have p3 : aL (as_ σ y G) = aL A := congrArg (fun z => z.2.2.1) e
  refine ⟨fun c hc => ?_, ?_, ?_, (h.1.1.2 100 k g1).1, (h.1.1.2 101 k g2).1, h2 k hk⟩
  · rw [← p1]; exact (if_pos ⟨hc, g1⟩).symm
  · rw [← p2]; exact (if_pos g2).symm
  · rw [← p3]; exact (if_pos g2).symm
theorem mr_R (h : mr_ σ y G A N) {k : Nat} (hk : k < N 58) : ai_ σ (ga_ G 103 k) = aR A k ∧ ln_ σ (ga_ G 103 k) = aM A k ∧ kd_ σ (ga_ G 102 k) = 15 ∧ kd_ σ (ga_ G 103 k) = 21 ∧ ar_ σ (ga_ G 60 0) k = some (ga_ G 102 k) ∧ fr_ σ 1406 (ga_ G 102 k) = some (ga_ G 103 k) := by
  obtain ⟨⟨-, -, c1, c2, -⟩, -, h2, -⟩ := h.1.2.1.2.2
  have g1 : k < gc_ G 102 := by rw [c1]; exact hk
  have g2 : k < gc_ G 103 := by rw [c2]; exact hk
  have e := h.2.2
  have p2 : aR (as_ σ y G) = aR A := congrArg (fun z => z.2.2.2.1) e
  have p3 : aM (as_ σ y G) = aM A := congrArg (fun z => z.2.2.2.2.1) e
  refine ⟨?_, ?_, (h.1.1.2 102 k g1).1, (h.1.1.2 103 k g2).1, h2 k hk⟩
  · rw [← p2]; exact (if_pos g2).symm
  · rw [← p3]; exact (if_pos g2).symm
theorem mr_E (h : mr_ σ y G A N) {k : Nat} (hk : k < N 71) : (∀ c, c < 1400 → fi_ σ c (ga_ G 104 k) = aE A c k) ∧ ai_ σ (ga_ G 105 k) = aD A k ∧ ai_ σ (ga_ G 106 k) = aF A k ∧ kd_ σ (ga_ G 104 k) = 14 ∧ (kd_ σ (ga_ G 105 k) = 20 ∧ ln_ σ (ga_ G 105 k) = 10) ∧ (kd_ σ (ga_ G 106 k) = 20 ∧ ln_ σ (ga_ G 106 k) = 10) ∧ ar_ σ (ga_ G 82 0) k = some (ga_ G 104 k) ∧ fr_ σ 1309 (ga_ G 104 k) = some (ga_ G 105 k) ∧ fr_ σ 1310 (ga_ G 104 k) = some (ga_ G 106 k) := by
  obtain ⟨⟨-, -, -, -, c1, c2, c3⟩, -, -, h2⟩ := h.1.2.1.2.2
  have g1 : k < gc_ G 104 := by rw [c1]; exact hk
  have g2 : k < gc_ G 105 := by rw [c2]; exact hk
  have g3 : k < gc_ G 106 := by rw [c3]; exact hk
  have e := h.2.2
  have p1 : aE (as_ σ y G) = aE A := congrArg (fun z => z.2.2.2.2.2.1) e
  have p2 : aD (as_ σ y G) = aD A := congrArg (fun z => z.2.2.2.2.2.2.1) e
  have p3 : aF (as_ σ y G) = aF A := congrArg (fun z => z.2.2.2.2.2.2.2) e
  refine ⟨fun c hc => ?_, ?_, ?_, (h.1.1.2 104 k g1).1, ⟨(h.1.1.2 105 k g2).1, (h.1.1.2 105 k g2).2.2.1 (by decide)⟩, ⟨(h.1.1.2 106 k g3).1, (h.1.1.2 106 k g3).2.2.1 (by decide)⟩, h2 k hk⟩
  · rw [← p1]; exact (if_pos ⟨hc, g1⟩).symm
  · rw [← p2]; exact (if_pos g2).symm
  · rw [← p3]; exact (if_pos g3).symm
end MR
/-- THE SOBER TRUTHS of what the reference holds: tellings, persons, reports, paragraphs, editions, quotes, the week, writers -/
def td_ (N : Nat → Nat) : Nat := N 6 / 1440
def pvT (A : AS) (N : Nat → Nat) : Prop := ∀ t, t < N 17 → (∃ p, p < N 5 ∧ aV A 20 t = nI p) ∧ (∃ k, k < 10 ∧ aV A 21 t = nI k) ∧ ((-9999 : Int32) ≤ aV A 22 t ∧ aV A 22 t ≤ 9999) ∧ ∃ d, d ≤ td_ N ∧ aV A 23 t = nI d
def pvH (A : AS) (N : Nat → Nat) : Prop := ∀ p, p < N 5 → ((1 : Int32) ≤ aV A 9 p ∧ aV A 9 p ≤ 36500) ∧ ((1 : Int32) ≤ aV A 10 p ∧ aV A 10 p ≤ 100) ∧ (aV A 12 p = -2 ∨ ∃ d, d ≤ td_ N ∧ aV A 12 p = nI d) ∧ st_ A N p ≤ 14
def pvR (A : AS) (N : Nat → Nat) : Prop := ∀ r, r < N 59 → (aV A 61 r = -1 ∨ ∃ p, p < N 5 ∧ aV A 61 r = nI p) ∧ (∃ d, d ≤ td_ N ∧ aV A 63 r = nI d) ∧ (∃ s, s < 5 ∧ aV A 64 r = nI s) ∧ (∃ t, t ≤ N 6 ∧ aV A 65 r = nI t) ∧ (∀ q, q ≤ r → aV A 65 q ≤ aV A 65 r) ∧ (∀ j, j < 3 → aV A 66 (3 * r + j) = -1 ∨ ∃ k, k < 10 ∧ aV A 66 (3 * r + j) = nI k) ∧ (aV A 66 (3 * r) = -1 → aV A 66 (3 * r + 1) = -1) ∧ (aV A 66 (3 * r + 1) = -1 → aV A 66 (3 * r + 2) = -1)
def pvP (A : AS) (N : Nat → Nat) : Prop := ∀ k, k < N 47 → (∃ p, p < N 5 ∧ aP A 1400 k = nI p) ∧ ((0 : Int32) ≤ aP A 1402 k ∧ aP A 1402 k ≤ 999) ∧ (aP A 1403 k = -1 ∨ ∃ j, j < pl_ A k ∧ aP A 1403 k = nI j) ∧ ∃ z, z < 1024 ∧ aP A 1404 k = nI z
def pvE (A : AS) (N : Nat → Nat) : Prop := ∀ e, e < N 71 → ∃ p, (p < N 5 ∧ aE A 1300 e = nI p) ∧ ∀ k, k < 10 → aE A 1306 e &&& ((1 : Int32) <<< nI k) ≠ 0 → lt9_ A N p k ≠ none
def pvQ (A : AS) (N : Nat → Nat) : Prop := ∀ q, q < N 70 → (aV A 80 q = -1 ∧ aV A 81 q = 0) ∨ ((1 : Int32) ≤ aV A 80 q ∧ aV A 80 q ≤ 400)
def pvW (A : AS) (N : Nat → Nat) : Prop := (∀ j, j < N 86 → ∃ p, p < N 5 ∧ aV A 84 j = nI p) ∧ (∀ w, w < N 4 → (0 : Int32) ≤ aV A 7 w ∧ aV A 7 w ≤ 60)
/-- what was never written; the tape holds bytes -/
def pvD (A : AS) (N : Nat → Nat) : Prop := (∀ w, N 4 ≤ w → w < 6 → aV A 14 w = 0) ∧ (∀ p, N 5 ≤ p → p < 30 → aV A 13 p = 0 ∧ aV A 15 p = 0 ∧ aV A 16 p = 0 ∧ ∀ k, k < 10 → aV A 19 (10 * p + k) = -1) ∧ (∀ r, N 59 ≤ r → r < 120 → aV A 68 r = 0) ∧ (∀ i, N 69 ≤ i → i < 40 → aV A 77 i = 0) ∧ (∀ q, N 70 ≤ q → q < 60 → aV A 81 q = 0) ∧ ∀ j, j < 400 → (aV A 26 j).toInt8.toInt32 = aV A 26 j
def pv_ (A : AS) (N : Nat → Nat) : Prop := pvT A N ∧ pvH A N ∧ pvR A N ∧ pvP A N ∧ pvE A N ∧ pvQ A N ∧ pvW A N ∧ pvD A N
theorem pv_S : pvS_ pv_ := fun _ _ _ h => h
section INV2
variable {ka : Nat → Nat} {TX : Nat → Nat → (Nat → Int32) → Nat → (Nat → Int32) → Prop} {x y o N0 : Nat}
theorem ob_MV {A : AS} {V : Nat → Nat → Int32} {G : GH} {N : Nat → Nat} {r i : Nat} {m : CE} (h : ob_ ka TX A G N r i m) : ob_ ka TX (A.1, (fun j => if j ∈ MV then aV A j else V j), A.2.2) G N r i m := by
  match r, h with
  | 0, h => exact h
  | 1, h => exact h
  | 2, h => exact h
  | 3, h => exact h
  | 4, h => exact h
  | 5, h => exact h
  | 6, h => exact h
  | 7, h => exact h
  | 8, h => exact h
  | 9, h => exact h
  | 10, h => exact h
  | 11, h => exact h
  | 12, h => exact h
  | 13, h => exact h
  | 14, h => exact h
  | 15, h => exact h
  | 16, h => exact h
  | 17, h => exact h
  | 18, h => exact h
  | 19, h => exact h
  | 20, h => exact h
  | 21, h => exact h
  | 22, h => exact h
  | 23, h => exact h
  | 24, h => exact h
  | 25, h => exact h
  | 26, h => exact h
  | 27, h => exact h
  | 28, h => exact h
  | 29, h => exact h
  | 30, h => exact h
  | 31, h => exact h
  | 32, h => exact h
  | 33, h => exact h
  | 34, h => exact h
  | 35, h => exact h
  | 36, h => exact h
  | 37, h => exact h
  | 38, h => exact h
  | 39, h => exact h
  | 40, h => exact h
  | 41, h => exact h
  | 42, h => exact h
  | 43, h => exact h
  | 44, h => exact h
  | 45, h => exact h
  | 46, h => exact h
  | 47, h => exact h
  | 48, h => exact h
  | 49, h => exact h
  | 50, h => exact h
  | 51, h => exact h
  | 52, h => exact h
  | 53, h => exact h
  | 54, h => exact h
  | 55, h => exact h
  | 56, h => exact h
  | 57, h => exact h
  | 58, h => exact h
  | r + 59, h => exact h
theorem rc_MV {σ : TH} {A : AS} {V : Nat → Nat → Int32} {G : GH} {N : Nat → Nat} (h : rc_ ka TX σ x G A N) (hV : ∀ j, j ∈ MV → V j = aV A j) (S : Nat → Int32) (hS : ∀ j, j ∈ DS → S j = aS A j) : rc_ ka TX σ x G (S, V, A.2.2) N := by
  have e : V = fun j => if j ∈ MV then aV A j else V j := funext fun j => by
    by_cases hj : j ∈ MV
    · rw [if_pos hj]; exact hV j hj
    · rw [if_neg hj]
  have h1 : rc_ ka TX σ x G (A.1, (fun j => if j ∈ MV then aV A j else V j), A.2.2) N := ⟨h.1, h.2.1, h.2.2.1, fun r i hi => ob_MV (h.2.2.2 r i hi)⟩
  have h2 := rc_S (S := S) hS h1
  rw [e]
  exact h2
theorem pv_MV {A : AS} {V : Nat → Nat → Int32} {N : Nat → Nat} {S : Nat → Int32} (h : pv_ A N) (hV : ∀ j, j ∈ MV → V j = aV A j) : pv_ (S, V, A.2.2) N := by
  have e : V = fun j => if j ∈ MV then aV A j else V j := funext fun j => by
    by_cases hj : j ∈ MV
    · rw [if_pos hj]; exact hV j hj
    · rw [if_neg hj]
  rw [e]
  exact h
/-- A CALL IS BEHIND -/
theorem inv_fin {n : Nat} {c m c1 m1 : TH} (hI : inv_ ka TX pv_ x y o N0 n c m) {T U : Nat → Prop} (f1 : fq_ T c c1) (b1 : nx_ c1 ≤ nx_ c + 400 ∧ sl_ c1 ≤ sl_ c + 6000) (f2 : fq_ U (bm_ m c1) m1) (b2 : nx_ m1 ≤ nx_ c1 + 400 ∧ sl_ m1 ≤ sl_ c1 + 6000) {GC GM : GH} {A : AS} {N : Nat → Nat} (h1 : mr_ m1 y GM A N) (hS : ∀ j, j ∈ DS → fi_ m1 (1600 + j) y = aS A j) (h2 : rc_ ka TX c1 x GC A N) (h3 : pv_ A N) : wf_ c1 ∧ wf_ m1 ∧ inv_ ka TX pv_ x y o N0 (n + 1) (bm_ c1 m1) m1 := by
  have e : as_ m1 y GM = (aS (as_ m1 y GM), aV (as_ m1 y GM), A.2.2) := by
    rw [← h1.2.2]
    rfl
  refine inv_mk hI f1 b1 f2 b2 (GC := GC) (GM := GM) (N := N) h1.1 ?_ ?_
  · rw [e]
    exact rc_MV h2 h1.2.1 _ hS
  · rw [e]
    exact pv_MV h3 h1.2.1
end INV2
