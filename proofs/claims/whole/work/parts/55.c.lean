/-! TELLINGS, stale kinds, ages, on both sides. Written by wip/b/mk55.py. -/
theorem la_some {q : Nat → Bool} {i : Nat} : ∀ {n : Nat}, la_ q n = some i → i < n ∧ q i = true ∧ ∀ j, i < j → j < n → q j = false
  | 0, h => nomatch h
  | n + 1, h => by
    unfold la_ at h
    by_cases e : q n = true
    · rw [if_pos e] at h
      cases h
      exact ⟨Nat.lt_succ_self _, e, fun j h1 h2 => by omega⟩
    · rw [if_neg e] at h
      obtain ⟨h1, h2, h3⟩ := la_some h
      refine ⟨by omega, h2, fun j h4 h5 => ?_⟩
      by_cases e2 : j = n
      · subst e2; simpa using e
      · exact h3 j h4 (by omega)
theorem la_none {q : Nat → Bool} : ∀ {n : Nat}, la_ q n = none → ∀ j, j < n → q j = false
  | 0, _, j, hj => by omega
  | n + 1, h, j, hj => by
    unfold la_ at h
    by_cases e : q n = true
    · rw [if_pos e] at h; cases h
    · rw [if_neg e] at h
      by_cases e2 : j = n
      · subst e2; simpa using e
      · exact la_none h j (by omega)
theorem la_cong {q1 q2 : Nat → Bool} : ∀ n, (∀ i, i < n → q1 i = q2 i) → la_ q1 n = la_ q2 n
  | 0, _ => rfl
  | n + 1, h => by
    unfold la_
    rw [la_cong n (fun i hi => h i (Nat.lt_succ_of_lt hi)), h n (Nat.lt_succ_self n)]
def oi_ : Option Nat → Int32
  | none => -1
  | some t => nI t
theorem oi_s {t : Nat} (h : t < 2 ^ 31) : ¬ oi_ (some t) = -1 := fun e => by
  have h1 : nI t = -1 := e
  have h2 := nI_pos' h
  rw [h1] at h2
  exact absurd h2 (by decide)
theorem nI_n1 {t : Nat} (h : t < 2 ^ 31) : ¬ nI t = -1 := oi_s h
/-- sets of kinds -/
def bo_ (q : Nat → Bool) : Nat → Int32
  | 0 => 0
  | n + 1 => if q n = true then bo_ q n ||| ((1 : Int32) <<< (nI n &&& 31)) else bo_ q n
def bv_ (q : Nat → Bool) : Nat → Nat
  | 0 => 0
  | n + 1 => if q n = true then bv_ q n + 2 ^ n else bv_ q n
theorem bv_lt (q : Nat → Bool) : ∀ n, bv_ q n < 2 ^ n
  | 0 => Nat.one_pos
  | n + 1 => by
    have := bv_lt q n
    unfold bv_
    rw [Nat.pow_succ]
    split <;> omega
theorem or_small : ∀ k, k < 10 → ∀ v, v < 2 ^ k → nI v ||| ((1 : Int32) <<< (nI k &&& 31)) = nI (v + 2 ^ k) := by decide +kernel
theorem bo_v (q : Nat → Bool) : ∀ n, n ≤ 10 → bo_ q n = nI (bv_ q n)
  | 0, _ => rfl
  | n + 1, h => by
    unfold bo_ bv_
    rw [bo_v q n (by omega)]
    by_cases e : q n = true
    · rw [if_pos e, if_pos e]
      exact or_small n (by omega) _ (bv_lt q n)
    · rw [if_neg e, if_neg e]
theorem bo_cong {q1 q2 : Nat → Bool} : ∀ n, (∀ i, i < n → q1 i = q2 i) → bo_ q1 n = bo_ q2 n
  | 0, _ => rfl
  | n + 1, h => by
    unfold bo_
    rw [bo_cong n (fun i hi => h i (Nat.lt_succ_of_lt hi)), h n (Nat.lt_succ_self n)]
def bcf (v : Int32) : Int32 := ((f_J6_bitCount_0f7a4 (o0_ 0) v).map Prod.fst).getD 0
theorem k_bits (σ : TH) (v : Int32) : f_J6_bitCount_0f7a4 σ v = some (bcf v, σ) := rfl
def bq9_ : Nat → Int32 → Int32 → Option Int32
  | 0, _, _ => none
  | n + 1, a, v => if v = 0 then some a else bq9_ n (a + 1) (v &&& (v - 1))
theorem bq9_f (σ : TH) : ∀ (n : Nat) (a v r : Int32) (k : Nat), bq9_ n a v = some r → f_X15_bits_b4 (n + k) σ a v = some (r, σ)
  | 0, _, _, _, _, h => nomatch h
  | n + 1, a, v, r, k, h => by
    unfold bq9_ at h
    rw [show n + 1 + k = (n + k) + 1 by omega]
    unfold f_X15_bits_b4
    by_cases e : v = 0
    · rw [if_pos e] at h ⊢
      cases h
      rfl
    · rw [if_neg e] at h ⊢
      exact bq9_f σ n (a + 1) (v &&& (v - 1)) r k h
theorem bq9_all : ∀ v, v < 1024 → bq9_ 12 0 (nI v) = some (bcf (nI v)) := by decide +kernel
theorem m_bits (σ : TH) (q : Nat → Bool) : f_X15_bits σ (bo_ q 10) = some (bcf (bo_ q 10), σ) := by
  rw [bo_v q 10 (Nat.le_refl _)]
  exact bq9_f σ 12 0 (nI (bv_ q 10)) _ 39988 (bq9_all _ (bv_lt q 10))
theorem ten_ {p k : Nat} : (10 : Int32) * nI p + nI k = nI (10 * p + k) := by
  rw [show (10 : Int32) = nI 10 from rfl, pk_mul, nI_add]
theorem kin_ {k : Nat} (hk : k < 10) : ¬ (10 : Int32) ≤ nI k := nI_ge (b := 10) hk (by decide)
/-- is the k-th kind of p stale on day d -/
def sl9_ (A : AS) (p : Nat) (d : Int32) (k : Nat) : Bool := !decide (aV A 19 (10 * p + k) = -1) && !decide (d - aV A 19 (10 * p + k) ≤ aV A 18 k)
def tk9_ (A : AS) (p k : Nat) : Bool := !decide (aV A 19 (10 * p + k) = -1)
def tp9_ (A : AS) (p k d : Int32) (t : Nat) : Bool := tq_ A p k t && !decide (d < aV A 23 t)
/-- the age -/
def ag_ (A : AS) (N : Nat → Nat) (p : Nat) : Int32 := ((if 0 ≤ aV A 12 p then aV A 12 p else nI (td_ N)) + aV A 9 p) / 365
section MTELL
variable {σ : TH} {y : Nat} {G : GH} {A : AS} {N : Nat → Nat}
theorem m_tellingOn (h : mr_ σ y G A N) (p k d : Int32) : f_X15_tellingOn σ y p k d = some (oi_ (la_ (tp9_ A p k d) (N 17)), σ) := by
  have hy := mo_y h.1
  obtain ⟨e, hb⟩ := mo_n h.1 (j := 17) (cj := 1617) (m := 240) (by decide)
  obtain ⟨a20, b20, c20⟩ := mo_a h.1 (j := 20) (cj := 1620) (K := 20) (n := 240) (by decide)
  obtain ⟨a21, b21, c21⟩ := mo_a h.1 (j := 21) (cj := 1621) (K := 20) (n := 240) (by decide)
  obtain ⟨a23, b23, c23⟩ := mo_a h.1 (j := 23) (cj := 1623) (K := 20) (n := 240) (by decide)
  refine lp_ (F := fun f acc i => f_X15_tellingOn_b6 f σ y p k d acc i) (N 17) (fun i => oi_ (la_ (tp9_ A p k d) i)) (fun f i hi => ?_) (fun f => ?_) (by omega)
  · have g1 : ¬ nI i < 0 := nI_pos (by omega)
    have g2 : ¬ nI (N 17) ≤ nI i := nI_ge hi (by omega)
    have g3 : (nI i).toNatClampNeg = i := nI_clamp (by omega)
    have g4 : ¬ 240 ≤ i := by omega
    have v1 := mr_V h (j := 20) (by decide) i
    have v2 := mr_V h (j := 21) (by decide) i
    have v3 := mr_V h (j := 23) (by decide) i
    by_cases q1 : aV A 20 i = p
    · by_cases q2 : aV A 21 i = k
      · by_cases q3 : d < aV A 23 i
        · simp [f_X15_tellingOn_b6, f_X15_tellingOn_b52, gt_, lt_, nn_, oc_, bd_, hy, e, a20, b20, c20, a21, b21, c21, a23, b23, c23, g1, g2, g3, g4, v1, v2, v3, q1, q2, q3, la_, oi_, tp9_, tq_, nI_1]
        · simp [f_X15_tellingOn_b6, f_X15_tellingOn_b52, gt_, lt_, nn_, oc_, bd_, hy, e, a20, b20, c20, a21, b21, c21, a23, b23, c23, g1, g2, g3, g4, v1, v2, v3, q1, q2, q3, la_, oi_, tp9_, tq_, nI_1]
      · simp [f_X15_tellingOn_b6, f_X15_tellingOn_b52, gt_, lt_, nn_, oc_, bd_, hy, e, a20, b20, c20, a21, b21, c21, g1, g2, g3, g4, v1, v2, q1, q2, la_, oi_, tp9_, tq_, nI_1]
    · simp [f_X15_tellingOn_b6, f_X15_tellingOn_b52, gt_, lt_, nn_, oc_, bd_, hy, e, a20, b20, c20, g1, g2, g3, g4, v1, q1, la_, oi_, tp9_, tq_, nI_1]
  · have g2 : nI (N 17) ≤ nI (N 17) := nI_le (Nat.le_refl _) (by omega)
    simp [f_X15_tellingOn_b6, gt_, lt_, nn_, oc_, bd_, hy, e, g2]
theorem m_many (h : mr_ σ y G A N) (p k : Int32) : f_X15_many σ y p k = some (nI (cn_ (tq_ A p k) (N 17)), σ) := by
  have hy := mo_y h.1
  obtain ⟨e, hb⟩ := mo_n h.1 (j := 17) (cj := 1617) (m := 240) (by decide)
  obtain ⟨a20, b20, c20⟩ := mo_a h.1 (j := 20) (cj := 1620) (K := 20) (n := 240) (by decide)
  obtain ⟨a21, b21, c21⟩ := mo_a h.1 (j := 21) (cj := 1621) (K := 20) (n := 240) (by decide)
  refine lp_ (F := fun f acc i => f_X15_many_b5 f σ y p k acc i) (N 17) (fun i => nI (cn_ (tq_ A p k) i)) (fun f i hi => ?_) (fun f => ?_) (by omega)
  · have g1 : ¬ nI i < 0 := nI_pos (by omega)
    have g2 : ¬ nI (N 17) ≤ nI i := nI_ge hi (by omega)
    have g3 : (nI i).toNatClampNeg = i := nI_clamp (by omega)
    have g4 : ¬ 240 ≤ i := by omega
    have v1 := mr_V h (j := 20) (by decide) i
    have v2 := mr_V h (j := 21) (by decide) i
    by_cases q1 : aV A 20 i = p
    · by_cases q2 : aV A 21 i = k
      · simp [f_X15_many_b5, f_X15_many_b41, f_X15_many_b42, gt_, lt_, nn_, oc_, bd_, hy, e, a20, b20, c20, a21, b21, c21, g1, g2, g3, g4, v1, v2, q1, q2, cn_, tq_, nI_1]
      · simp [f_X15_many_b5, f_X15_many_b41, f_X15_many_b42, gt_, lt_, nn_, oc_, bd_, hy, e, a20, b20, c20, a21, b21, c21, g1, g2, g3, g4, v1, v2, q1, q2, cn_, tq_, nI_1]
    · simp [f_X15_many_b5, f_X15_many_b41, f_X15_many_b42, gt_, lt_, nn_, oc_, bd_, hy, e, a20, b20, c20, g1, g2, g3, g4, v1, q1, cn_, tq_, nI_1]
  · have g2 : nI (N 17) ≤ nI (N 17) := nI_le (Nat.le_refl _) (by omega)
    simp [f_X15_many_b5, gt_, lt_, nn_, oc_, bd_, hy, e, g2]
theorem m_isStale (h : mr_ σ y G A N) {p k : Nat} (hp : p < 30) (hk : k < 10) (d : Int32) : f_X15_isStale σ y (nI p) (nI k) d = some (bi_ (sl9_ A p d k = true), σ) := by
  have hy := mo_y h.1
  obtain ⟨a18, b18, c18⟩ := mo_a h.1 (j := 18) (cj := 1618) (K := 20) (n := 10) (by decide)
  obtain ⟨a19, b19, c19⟩ := mo_a h.1 (j := 19) (cj := 1619) (K := 20) (n := 300) (by decide)
  have g1 : ¬ nI k < 0 := nI_pos (by omega)
  have g3 : (nI k).toNatClampNeg = k := nI_clamp (by omega)
  have g4 : ¬ 10 ≤ k := by omega
  have g5 : ¬ nI (10 * p + k) < 0 := nI_pos (by omega)
  have g6 : (nI (10 * p + k)).toNatClampNeg = 10 * p + k := nI_clamp (by omega)
  have g7 : ¬ 300 ≤ 10 * p + k := by omega
  have v1 := mr_V h (j := 18) (by decide) k
  have v2 := mr_V h (j := 19) (by decide) (10 * p + k)
  by_cases q1 : aV A 19 (10 * p + k) = -1
  · simp [f_X15_isStale, f_X15_isStale_b41, f_X15_isStale_b42, gt_, lt_, nn_, oc_, bd_, hy, a18, b18, c18, a19, b19, c19, ten_, g1, g3, g4, g5, g6, g7, v1, v2, q1, sl9_, bi_]
  · by_cases q2 : d - aV A 19 (10 * p + k) ≤ aV A 18 k
    · simp [f_X15_isStale, f_X15_isStale_b41, f_X15_isStale_b42, gt_, lt_, nn_, oc_, bd_, hy, a18, b18, c18, a19, b19, c19, ten_, g1, g3, g4, g5, g6, g7, v1, v2, q1, q2, sl9_, bi_]
    · simp [f_X15_isStale, f_X15_isStale_b41, f_X15_isStale_b42, gt_, lt_, nn_, oc_, bd_, hy, a18, b18, c18, a19, b19, c19, ten_, g1, g3, g4, g5, g6, g7, v1, v2, q1, q2, sl9_, bi_]
theorem m_kindsOf (h : mr_ σ y G A N) {p : Nat} (hp : p < 30) : f_X15_kindsOf σ y (nI p) = some (bo_ (tk9_ A p) 10, σ) := by
  have hy := mo_y h.1
  obtain ⟨a19, b19, c19⟩ := mo_a h.1 (j := 19) (cj := 1619) (K := 20) (n := 300) (by decide)
  refine lp_ (F := fun f acc i => f_X15_kindsOf_b4 f σ y (nI p) acc i) 10 (fun i => bo_ (tk9_ A p) i) (fun f k hk => ?_) (fun f => ?_) (by omega)
  · have g1 := kin_ hk
    have g5 : ¬ nI (10 * p + k) < 0 := nI_pos (by omega)
    have g6 : (nI (10 * p + k)).toNatClampNeg = 10 * p + k := nI_clamp (by omega)
    have g7 : ¬ 300 ≤ 10 * p + k := by omega
    have v2 := mr_V h (j := 19) (by decide) (10 * p + k)
    by_cases q1 : aV A 19 (10 * p + k) = -1
    · simp [f_X15_kindsOf_b4, f_X15_kindsOf_b33, gt_, lt_, nn_, oc_, bd_, hy, a19, b19, c19, ten_, g1, g5, g6, g7, v2, q1, bo_, tk9_, nI_1]
    · simp [f_X15_kindsOf_b4, f_X15_kindsOf_b33, gt_, lt_, nn_, oc_, bd_, hy, a19, b19, c19, ten_, g1, g5, g6, g7, v2, q1, bo_, tk9_, nI_1]
  · simp [f_X15_kindsOf_b4, show (10 : Int32) ≤ nI 10 from by decide]
theorem m_staleOf (h : mr_ σ y G A N) {p : Nat} (hp : p < 30) (d : Int32) : f_X15_staleOf σ y (nI p) d = some (bo_ (sl9_ A p d) 10, σ) := by
  have hy := mo_y h.1
  refine lp_ (F := fun f acc i => f_X15_staleOf_b5 f σ y (nI p) d acc i) 10 (fun i => bo_ (sl9_ A p d) i) (fun f k hk => ?_) (fun f => ?_) (by omega)
  · have g1 := kin_ hk
    have s := m_isStale h hp hk d
    by_cases q1 : sl9_ A p d k = true
    · simp [f_X15_staleOf_b5, f_X15_staleOf_b32, gt_, lt_, nn_, oc_, bd_, hy, g1, s, q1, bi_, bo_, nI_1]
    · simp [f_X15_staleOf_b5, f_X15_staleOf_b32, gt_, lt_, nn_, oc_, bd_, hy, g1, s, q1, bi_, bo_, nI_1]
  · simp [f_X15_staleOf_b5, show (10 : Int32) ≤ nI 10 from by decide]
theorem m_dead (h : mr_ σ y G A N) (hH : pvH A N) {p : Nat} (hp : p < N 5) (h15 : aV A 15 p = bi_ (0 ≤ aV A 12 p)) : f_X15_isDeadBy σ y (nI p) (nI (td_ N)) = some (bi_ (0 ≤ aV A 12 p), σ) := by
  have hy := mo_y h.1
  have hb := (mo_n h.1 (j := 5) (cj := 1605) (m := 30) (by decide)).2
  have hb6 := (mo_n h.1 (j := 6) (cj := 1606) (m := 5257439) (by decide)).2
  obtain ⟨a15, b15, c15⟩ := mo_a h.1 (j := 15) (cj := 1615) (K := 22) (n := 30) (by decide)
  obtain ⟨a12, b12, c12⟩ := mo_a h.1 (j := 12) (cj := 1612) (K := 20) (n := 30) (by decide)
  have g1 : ¬ nI p < 0 := nI_pos (by omega)
  have g3 : (nI p).toNatClampNeg = p := nI_clamp (by omega)
  have g4 : ¬ 30 ≤ p := by omega
  have v1 := mr_V h (j := 15) (by decide) p
  have v2 := mr_V h (j := 12) (by decide) p
  rw [h15] at v1
  by_cases q : 0 ≤ aV A 12 p
  · have q2 : ¬ nI (td_ N) < aV A 12 p := by
      rcases (hH p hp).2.2.1 with z | ⟨d, hd, z⟩
      · rw [z] at q; exact absurd q (by decide)
      · rw [z]
        refine nI_nlt hd ?_
        have : td_ N ≤ N 6 := Nat.div_le_self _ _
        omega
    simp [f_X15_isDeadBy, f_X15_isDeadBy_b23, f_X15_isDeadBy_b24, gt_, lt_, nn_, oc_, bd_, hy, a15, b15, c15, a12, b12, c12, g1, g3, g4, v1, v2, q, q2, bi_]
  · simp [f_X15_isDeadBy, f_X15_isDeadBy_b23, f_X15_isDeadBy_b24, gt_, lt_, nn_, oc_, bd_, hy, a15, b15, c15, g1, g3, g4, v1, q, bi_]
theorem m_ageOn (h : mr_ σ y G A N) (hH : pvH A N) {p : Nat} (hp : p < N 5) (h15 : aV A 15 p = bi_ (0 ≤ aV A 12 p)) : f_X15_ageOn σ y (nI p) (nI (td_ N)) = some (ag_ A N p, σ) := by
  have hy := mo_y h.1
  have hb := (mo_n h.1 (j := 5) (cj := 1605) (m := 30) (by decide)).2
  obtain ⟨a9, b9, c9⟩ := mo_a h.1 (j := 9) (cj := 1609) (K := 20) (n := 30) (by decide)
  obtain ⟨a12, b12, c12⟩ := mo_a h.1 (j := 12) (cj := 1612) (K := 20) (n := 30) (by decide)
  have g1 : ¬ nI p < 0 := nI_pos (by omega)
  have g3 : (nI p).toNatClampNeg = p := nI_clamp (by omega)
  have g4 : ¬ 30 ≤ p := by omega
  have v1 := mr_V h (j := 9) (by decide) p
  have v2 := mr_V h (j := 12) (by decide) p
  have hd := m_dead h hH hp h15
  by_cases q : 0 ≤ aV A 12 p
  · simp [f_X15_ageOn, f_X15_ageOn_b19, gt_, lt_, nn_, oc_, bd_, hy, hd, a9, b9, c9, a12, b12, c12, g1, g3, g4, v1, v2, q, bi_, ag_]
  · simp [f_X15_ageOn, f_X15_ageOn_b19, gt_, lt_, nn_, oc_, bd_, hy, hd, a9, b9, c9, g1, g3, g4, v1, q, bi_, ag_]
theorem m_today2 (h : mr_ σ y G A N) : f_X15_today σ y = some (nI (td_ N), σ) := m_today h.1
theorem m_storySize (h : mr_ σ y G A N) (p : Nat) : f_X15_storySize σ y (nI p) = some (nI (st_ A N p), σ) := by
  have hy := mo_y h.1
  obtain ⟨e, hb⟩ := mo_n h.1 (j := 47) (cj := 1647) (m := 150) (by decide)
  obtain ⟨a48, b48, c48⟩ := mo_a h.1 (j := 48) (cj := 1648) (K := 27) (n := 150) (by decide)
  refine lp_ (F := fun f acc i => f_X15_storySize_b4 f σ y (nI p) acc i) (N 47) (fun i => nI (cn_ (fun k => decide (aP A 1400 k = nI p)) i)) (fun f i hi => ?_) (fun f => ?_) (by omega)
  · have g1 : ¬ nI i < 0 := nI_pos (by omega)
    have g2 : ¬ nI (N 47) ≤ nI i := nI_ge hi (by omega)
    have g3 : (nI i).toNatClampNeg = i := nI_clamp (by omega)
    have g4 : ¬ 150 ≤ i := by omega
    obtain ⟨v1, -, -, v4, -, v6, -⟩ := mr_P h hi
    have v1 := v1 1400 (by decide)
    by_cases q1 : aP A 1400 i = nI p
    · simp [f_X15_storySize_b4, f_X15_storySize_b31, gt_, lt_, nn_, oc_, bd_, hy, e, a48, b48, c48, g1, g2, g3, g4, v1, v4, v6, q1, cn_, nI_1]
    · simp [f_X15_storySize_b4, f_X15_storySize_b31, gt_, lt_, nn_, oc_, bd_, hy, e, a48, b48, c48, g1, g2, g3, g4, v1, v4, v6, q1, cn_, nI_1]
  · have g2 : nI (N 47) ≤ nI (N 47) := nI_le (Nat.le_refl _) (by omega)
    simp [f_X15_storySize_b4, gt_, lt_, nn_, oc_, bd_, hy, e, g2, st_]
end MTELL
/-- today's last telling is the last -/
theorem tp_lt9 {A : AS} {N : Nat → Nat} (hT : pvT A N) (hb : N 6 ≤ 5257439) (p k : Nat) : la_ (tp9_ A (nI p) (nI k) (nI (td_ N))) (N 17) = lt9_ A N p k := la_cong _ (fun t ht => by
  obtain ⟨-, -, -, d, hd, e⟩ := hT t ht
  have h1 : td_ N ≤ N 6 := Nat.div_le_self _ _
  have h2 : ¬ nI (td_ N) < aV A 23 t := by rw [e]; exact nI_nlt hd (by omega)
  simp [tp9_, h2])
section KTELL
variable {ka : Nat → Nat} {TX : Nat → Nat → (Nat → Int32) → Nat → (Nat → Int32) → Prop} {x y o N0 : Nat}
variable {σ : TH} {G : GH} {A : AS} {N : Nat → Nat}
theorem rc_31 (h : rc_ ka TX σ x G A N) : gc_ G 31 = N 5 := by
  have := h.2.2.1
  unfold cg_ at this
  simp only [this]
theorem rc_32 (h : rc_ ka TX σ x G A N) : gc_ G 32 = N 5 := by
  have := h.2.2.1
  unfold cg_ at this
  simp only [this]
theorem rc_36 (h : rc_ ka TX σ x G A N) : gc_ G 36 = N 17 := by
  have := h.2.2.1
  unfold cg_ at this
  simp only [this]
/-- a person's facts -/
theorem k_facts (h : rc_ ka TX σ x G A N) {p : Nat} (hp : p < N 5) : kd_ σ (ga_ G 31 p) = 4 ∧ fr_ σ 309 (ga_ G 31 p) = some (ga_ G 32 p) ∧ kd_ σ (ga_ G 32 p) = 25 ∧ ln_ σ (ga_ G 32 p) = 10 ∧ ∀ k, k < 10 → ar_ σ (ga_ G 32 p) k = (lt9_ A N p k).map (ga_ G 36) ∧ (aV A 19 (10 * p + k) = -1 ↔ lt9_ A N p k = none) := by
  have h1 := rc_31 h
  have h2 := rc_32 h
  obtain ⟨q0, q1, q2, q3, q4, q5, q6, q7, q8, q9, -⟩ := h.2.2.2 31 p (by rw [h1]; exact hp)
  have q := h.2.2.2 32 p (by rw [h2]; exact hp)
  exact ⟨(h.1.2 31 p (by rw [h1]; exact hp)).1, q9, (h.1.2 32 p (by rw [h2]; exact hp)).1, (h.1.2 32 p (by rw [h2]; exact hp)).2.2.1 (by decide), q⟩
/-- the last telling of a kind -/
theorem k_tell (h : rc_ ka TX σ x G A N) {p k t : Nat} (hp : p < N 5) (hN : N 5 ≤ 30) (hk : k < 10) (ht : lt9_ A N p k = some t) : (t < N 17 ∧ aV A 20 t = nI p ∧ aV A 21 t = nI k) ∧ kd_ σ (ga_ G 36 t) = 10 ∧ fi_ σ 900 (ga_ G 36 t) = aV A 22 t ∧ fi_ σ 901 (ga_ G 36 t) = aV A 24 t ∧ fi_ σ 902 (ga_ G 36 t) = aV A 23 t ∧ fi_ σ 903 (ga_ G 36 t) = nI (cn_ (tq_ A (nI p) (nI k)) (N 17)) ∧ fr_ σ 904 (ga_ G 36 t) = (la_ (tq_ A (nI p) (nI k)) t).map (ga_ G 36) ∧ fi_ σ 905 (ga_ G 36 t) = aV A 19 (10 * p + k) ∧ (aV A 24 t = 0 ∨ aV A 24 t = 1) := by
  obtain ⟨h1, h2, h3⟩ := la_some ht
  have h4 : aV A 20 t = nI p ∧ aV A 21 t = nI k := by simpa [tq_] using h2
  have hc : t < gc_ G 36 := by rw [rc_36 h]; exact h1
  obtain ⟨q0, q1, q2, q3, q4, q5, q6⟩ := h.2.2.2 36 t hc
  rw [h4.1, h4.2] at q3 q4 q5
  have e := q5 ht
  rw [nI_clamp (show p < 2 ^ 31 by omega), nI_clamp (show k < 2 ^ 31 by omega)] at e
  have ec : ∀ n, t + 1 ≤ n → n ≤ N 17 → cn_ (tq_ A (nI p) (nI k)) n = cn_ (tq_ A (nI p) (nI k)) (t + 1) := by
    intro n
    induction n with
    | zero => intro h5; omega
    | succ n ih =>
      intro h5 h6
      by_cases e9 : t + 1 = n + 1
      · rw [e9]
      · have := h3 n (by omega) (by omega)
        simp only [cn_, this]
        simpa [cn_] using ih (by omega) (by omega)
  refine ⟨⟨h1, h4.1, h4.2⟩, (h.1.2 36 t hc).1, q0, q1, q2, ?_, q4, e, q6⟩
  rw [ec (N 17) h1 (Nat.le_refl _)]
  exact q3
theorem k_now (h : rc_ ka TX σ x G A N) (hm : aS A 6 = nI (N 6)) (hb : N 6 ≤ 5257439) : f_X11_today σ x = some (nI (td_ N), σ) := by
  obtain ⟨-, -, -, q3, -⟩ := rc_f0 h
  exact k_today (rc_x h) (q3.trans hm) (Nat.lt_of_le_of_lt hb (by decide))
theorem k_keeps (h : rc_ ka TX σ x G A N) : fr_ σ 1207 x = some (ga_ G 9 0) ∧ kd_ σ (ga_ G 9 0) = 20 ∧ ln_ σ (ga_ G 9 0) = 10 ∧ ∀ k, k < 10 → ai_ σ (ga_ G 9 0) k = aV A 18 k :=
  ⟨(rc_r1207 h).1, (rc_r1207 h).2, (h.1.2 9 0 (rc_1 h (by decide))).2.2.1 (by decide), h.2.2.2 9 0 (rc_1 h (by decide))⟩
theorem k_isStale (h : rc_ ka TX σ x G A N) {p k t : Nat} (hp : p < N 5) (hN : N 5 ≤ 30) (hk : k < 10) (ht : lt9_ A N p k = some t) (d : Int32) : f_X11_isStale σ x (some (ga_ G 36 t)) (nI k) d = some (bi_ (sl9_ A p d k = true), σ) := by
  have hx := rc_x h
  obtain ⟨-, f1, -, -, -, -, -, f2, -⟩ := k_tell h hp hN hk ht
  obtain ⟨e1, e2, e3, e4⟩ := k_keeps h
  have e4 := e4 k hk
  have hq := ((k_facts h hp).2.2.2.2 k hk).2
  have hq1 : ¬ aV A 19 (10 * p + k) = -1 := fun z => by rw [hq.mp z] at ht; cases ht
  have g1 : ¬ nI k < 0 := nI_pos (by omega)
  have g3 : (nI k).toNatClampNeg = k := nI_clamp (by omega)
  have g4 : ¬ 10 ≤ k := by omega
  by_cases q2 : d - aV A 19 (10 * p + k) ≤ aV A 18 k
  · simp [f_X11_isStale, f_X11_isStale_b20, gt_, lt_, nn_, oc_, bd_, hx, f1, f2, e1, e2, e3, e4, g1, g3, g4, q2, hq1, sl9_, bi_]
  · simp [f_X11_isStale, f_X11_isStale_b20, gt_, lt_, nn_, oc_, bd_, hx, f1, f2, e1, e2, e3, e4, g1, g3, g4, q2, hq1, sl9_, bi_]
theorem k_staleKinds (h : rc_ ka TX σ x G A N) {p : Nat} (hp : p < N 5) (hN : N 5 ≤ 30) (d : Int32) : f_X11_staleKinds σ x (some (ga_ G 31 p)) d = some (bo_ (sl9_ A p d) 10, σ) := by
  have hx := rc_x h
  obtain ⟨f1, f2, f3, f4, f5⟩ := k_facts h hp
  refine lp_ (F := fun f acc i => f_X11_staleKinds_b5 f σ x (some (ga_ G 31 p)) d acc i) 10 (fun i => bo_ (sl9_ A p d) i) (fun f k hk => ?_) (fun f => ?_) (by omega)
  · have g0 := kin_ hk
    have g1 : ¬ nI k < 0 := nI_pos (by omega)
    have g3 : (nI k).toNatClampNeg = k := nI_clamp (by omega)
    have g4 : ¬ 10 ≤ k := by omega
    obtain ⟨q1, q2⟩ := f5 k hk
    cases ht : lt9_ A N p k with
    | none =>
      have e1 := q2.mpr ht
      rw [ht] at q1
      simp [f_X11_staleKinds_b5, f_X11_staleKinds_b45, gt_, lt_, nn_, oc_, bd_, f1, f2, f3, f4, g0, g1, g3, g4, q1, bo_, sl9_, e1, nI_1]
    | some t =>
      have s := k_isStale h hp hN hk ht d
      rw [ht] at q1
      by_cases z : sl9_ A p d k = true
      · simp [f_X11_staleKinds_b5, f_X11_staleKinds_b45, gt_, lt_, nn_, oc_, bd_, hx, f1, f2, f3, f4, g0, g1, g3, g4, q1, s, z, bi_, bo_, nI_1]
      · simp [f_X11_staleKinds_b5, f_X11_staleKinds_b45, gt_, lt_, nn_, oc_, bd_, hx, f1, f2, f3, f4, g0, g1, g3, g4, q1, s, z, bi_, bo_, nI_1]
  · simp [f_X11_staleKinds_b5, show (10 : Int32) ≤ nI 10 from by decide]
theorem k_kindsTold (h : rc_ ka TX σ x G A N) {p : Nat} (hp : p < N 5) : f_X2_kindsTold σ (ga_ G 31 p) = some (bo_ (tk9_ A p) 10, σ) := by
  obtain ⟨f1, f2, f3, f4, f5⟩ := k_facts h hp
  refine lp_ (F := fun f acc i => f_X2_kindsTold_b4 f σ (ga_ G 31 p) acc i) 10 (fun i => bo_ (tk9_ A p) i) (fun f k hk => ?_) (fun f => ?_) (by omega)
  · have g0 := kin_ hk
    have g1 : ¬ nI k < 0 := nI_pos (by omega)
    have g3 : (nI k).toNatClampNeg = k := nI_clamp (by omega)
    have g4 : ¬ 10 ≤ k := by omega
    obtain ⟨q1, q2⟩ := f5 k hk
    cases ht : lt9_ A N p k with
    | none =>
      have e1 := q2.mpr ht
      rw [ht] at q1
      simp [f_X2_kindsTold_b4, f_X2_kindsTold_b27, gt_, lt_, nn_, oc_, bd_, f1, f2, f3, f4, g0, g1, g3, g4, q1, bo_, tk9_, e1, nI_1]
    | some t =>
      have e1 : ¬ aV A 19 (10 * p + k) = -1 := fun z => by rw [q2.mp z] at ht; cases ht
      rw [ht] at q1
      simp [f_X2_kindsTold_b4, f_X2_kindsTold_b27, gt_, lt_, nn_, oc_, bd_, f1, f2, f3, f4, g0, g1, g3, g4, q1, bo_, tk9_, e1, nI_1]
  · simp [f_X2_kindsTold_b4, show (10 : Int32) ≤ nI 10 from by decide]
theorem k_ageOf (h : rc_ ka TX σ x G A N) {p : Nat} (hp : p < N 5) (hm : aS A 6 = nI (N 6)) (hb : N 6 ≤ 5257439) : f_X11_ageOf σ x (some (ga_ G 31 p)) = some (ag_ A N p, σ) := by
  have hx := rc_x h
  have hc : p < gc_ G 31 := by rw [rc_31 h]; exact hp
  have hk : kd_ σ (ga_ G 31 p) = 4 := (h.1.2 31 p hc).1
  obtain ⟨q0, q1, q2, q3, q4, q5, -⟩ := h.2.2.2 31 p hc
  have q2' : fi_ σ 302 (ga_ G 31 p) = aV A 9 p := q2
  have q5' : fi_ σ 305 (ga_ G 31 p) = aV A 12 p := q5
  have d := k_isDead hk
  rw [q5'] at d
  have n := k_now h hm hb
  by_cases z : 0 ≤ aV A 12 p
  · simp [f_X11_ageOf, f_X11_ageOf_b18, gt_, lt_, nn_, oc_, bd_, hx, hk, d, n, q2', q5', z, bi_, ag_, Int32.add_comm]
  · simp [f_X11_ageOf, f_X11_ageOf_b18, gt_, lt_, nn_, oc_, bd_, hx, hk, d, n, q2', q5', z, bi_, ag_, Int32.add_comm]
theorem k_latest (h : rc_ ka TX σ x G A N) {p k : Nat} (hp : p < N 5) (hN : N 5 ≤ 30) (hk : k < 10) : f_X11_latestTelling σ x (nI p) (nI k) = some ((lt9_ A N p k).map (ga_ G 36), σ) := by
  have hx := rc_x h
  obtain ⟨f1, f2, f3, f4, f5⟩ := k_facts h hp
  obtain ⟨p1, p2⟩ := k_person1 h hN hp
  have g1 : ¬ nI k < 0 := nI_pos (by omega)
  have g3 : (nI k).toNatClampNeg = k := nI_clamp (by omega)
  have g4 : ¬ 10 ≤ k := by omega
  have g5 : (0 : Int32) ≤ nI k ∧ nI k ≤ 9 := ⟨nI_pos' (by omega), nI_le (b := 9) (by omega) (by decide)⟩
  simp [f_X11_latestTelling, f_X11_latestTelling_b17, f_X11_latestTelling_b27, gt_, lt_, nn_, oc_, bd_, hx, p1, k_isKind, bi_, g5, f1, f2, f3, f4, g1, g3, g4, (f5 k hk).1]
end KTELL
