/-! HOW THE RELATION IS KEPT where one thing changes on both sides; lists; calls that are refused. Written by wip/b/mk46.py. -/
section KEEP
variable {ka : Nat → Nat} {TX : Nat → Nat → (Nat → Int32) → Nat → (Nat → Int32) → Prop} {PV : AS → (Nat → Nat) → Prop} {x y o N0 : Nat}
theorem rc_gen {σ τ : TH} {G : GH} {A A1 : AS} {N : Nat → Nat} {T : Nat → Prop} (h : rc_ ka TX σ x G A N) (hf : fq_ T σ τ) (D : Nat → Nat → Prop) (hT : ∀ r i, i < gc_ G r → ¬ D r i → ¬ T (ga_ G r i)) (hob : ∀ r i m, i < gc_ G r → ¬ D r i → ob_ ka TX A G N r i m → ob_ ka TX A1 G N r i m) (hD : ∀ r i, i < gc_ G r → D r i → ob_ ka TX A1 G N r i (ce_ τ (ga_ G r i))) : rc_ ka TX τ x G A1 N := by
  have hlt := h.2.1.2.2
  refine ⟨sh_fq h.1 hf, ⟨h.2.1.1, fq_k0 hf h.1.1 hlt h.2.1.2.1, Nat.lt_of_lt_of_le hlt hf.1.1⟩, h.2.2.1, fun r i hi => ?_⟩
  by_cases hd : D r i
  · exact hD r i hi hd
  · rw [rc_ce h hf hi (hT r i hi hd)]
    exact hob r i _ hi hd (h.2.2.2 r i hi)
/-- the whole numbers behind a call: thrown 0, trouble v, where forgotten -/
def s3_ (S : Nat → Int32) (v : Int32) : Nat → Int32 := fun q => if q = 2 then -1 else if q = 1 then v else if q = 0 then 0 else S q
theorem as_tr (m : TH) (y : Nat) (G : GH) (v : Int32) : as_ (tr_ (si_ m 1600 y 0) y v) y G = (s3_ (aS (as_ m y G)) v, (as_ m y G).2) := by
  unfold tr_
  rw [as_si _ y G 2 1602 (-1) rfl, as_si _ y G 1 1601 v rfl, as_si _ y G 0 1600 0 rfl]
  rfl
theorem s3_o {S : Nat → Int32} {v : Int32} {j : Nat} (h0 : j ≠ 0) (h1 : j ≠ 1) (h2 : j ≠ 2) : s3_ S v j = S j := by
  unfold s3_
  rw [if_neg h2, if_neg h1, if_neg h0]
theorem s3_l {S : Nat → Int32} {v : Int32} : ∀ j, j ∈ ([17, 47, 6, 42, 56, 57, 87, 30, 3] : List Nat) → s3_ S v j = S j := fun j hj => by
  have h : ∀ j, j ∈ ([17, 47, 6, 42, 56, 57, 87, 30, 3] : List Nat) → j ≠ 0 ∧ j ≠ 1 ∧ j ≠ 2 := by decide
  obtain ⟨h0, h1, h2⟩ := h j hj
  exact s3_o h0 h1 h2
/-- the desk's own content when nothing but trouble moves, and its reader's -/
theorem ob_0 {σ : TH} {G : GH} {A : AS} {N : Nat → Nat} (h : rc_ ka TX σ x G A N) (v : Int32) (B : (Nat → Nat → Int32) × (Nat → Nat → Int32) × (Nat → Nat → Int32) × (Nat → Nat) × (Nat → Nat → Int32) × (Nat → Nat) × (Nat → Nat → Int32) × (Nat → Nat → Int32) × (Nat → Nat → Int32)) (m : CE) (hr : xr_ m = xr_ (ce_ σ x)) (hi : ∀ c, c ≠ 1214 → xi_ m c = fi_ σ c x) (h4 : xi_ m 1214 = v) : ob_ ka TX (s3_ (aS A) v, B) G N 0 0 m := by
  obtain ⟨q0, q1, q2, q3, q4, q5, q6, q7, q8⟩ := rc_f0 h
  refine ⟨by rw [hr]; exact q0, ?_, ?_, ?_, ?_, ?_, ?_, ?_, ?_⟩
  · rw [hi _ (by decide)]; exact q1
  · rw [hi _ (by decide)]; exact q2
  · rw [hi _ (by decide)]; exact q3
  · rw [h4]; rfl
  · rw [hi _ (by decide)]; exact q5
  · rw [hi _ (by decide)]; exact q6
  · rw [hi _ (by decide)]; exact q7
  · rw [hi _ (by decide)]; exact q8
theorem ob_10 {σ : TH} {G : GH} {A : AS} {N : Nat → Nat} (h : rc_ ka TX σ x G A N) (v : Int32) (hv : v ≠ 4) (B : (Nat → Nat → Int32) × (Nat → Nat → Int32) × (Nat → Nat → Int32) × (Nat → Nat) × (Nat → Nat → Int32) × (Nat → Nat) × (Nat → Nat → Int32) × (Nat → Nat → Int32) × (Nat → Nat → Int32)) : ob_ ka TX (s3_ (aS A) v, B) G N 10 0 (ce_ σ (ga_ G 10 0)) := by
  obtain ⟨q1, q2, q3, q4, q5, q6, q7⟩ := h.2.2.2 10 0 (rc_1 h (by decide))
  exact ⟨q1, q2, q3, q4, q5, fun z => absurd z hv, fun _ => rfl⟩
theorem g0_ {σ : TH} {G : GH} {A : AS} {N : Nat → Nat} (h : rc_ ka TX σ x G A N) {r i : Nat} (hr : r ∈ ([0, 1, 2, 3, 4, 5, 6, 7, 8, 9, 10, 11, 12, 13, 14, 15, 16, 17, 18, 19, 20, 21, 22] : List Nat)) (hi : i < gc_ G r) : i = 0 := by
  rw [h.2.2.1.1 r hr] at hi
  omega
/-- REFUSED on both sides -/
theorem no_ (hPV : pvS_ PV) {n : Nat} {c m : TH} (hI : inv_ ka TX PV x y o N0 n c m) (v : Int32) (hv : v ≠ 4) : wf_ (si_ c 1214 x v) ∧ wf_ (tr_ (si_ (bm_ m (si_ c 1214 x v)) 1600 y 0) y v) ∧ inv_ ka TX PV x y o N0 (n + 1) (bm_ (si_ c 1214 x v) (tr_ (si_ (bm_ m (si_ c 1214 x v)) 1600 y 0) y v)) (tr_ (si_ (bm_ m (si_ c 1214 x v)) 1600 y 0) y v) := by
  obtain ⟨GC, GM, N, k1, k2, k3, k4, k5, k6, k7, k8⟩ := id hI
  have hb : mo_ (bm_ m (si_ c 1214 x v)) y GM N := mo_bm k1 (z := si_ c 1214 x v) (Nat.le_of_eq k5.1)
  have e := as_tr (bm_ m (si_ c 1214 x v)) y GM v
  rw [as_bm] at e
  have w := hb.1.1
  refine inv_mk (T := fun q => q = x) (U := fun q => q = y) hI (fq_si k2.1.1 rfl) ⟨Nat.le_add_right _ _, Nat.le_add_right _ _⟩ (fq_tr (fq_tr (fq_si w rfl) (fq_si w rfl)) (fq_si w rfl)) ⟨Nat.le_add_right _ _, Nat.le_add_right _ _⟩ (GC := GC) (GM := GM) (N := N) (mo_tr (mo_si hb (by decide))) ?_ ?_
  · rw [e]
    exact rc_tr k2 _ v hv rfl rfl s3_l
  · rw [e]
    exact hPV _ _ _ k3
theorem rc_l1 {σ : TH} {G : GH} {A : AS} {N : Nat → Nat} (h : rc_ ka TX σ x G A N) (hN : N 4 ≤ 1000) : ls_ ka σ (ga_ G 1 0) (if gc_ G 51 = 0 then ka 200 else ga_ G 51 0) (N 4) (ga_ G 30) := by
  have h1 := h.2.2.2 1 0 (rc_1 h (by decide))
  obtain ⟨q1, q2, q3⟩ := h1
  have hc : gc_ G 30 = N 4 := by
    have := h.2.2.1
    unfold cg_ at this
    simp only [this]
  refine ⟨(h.1.2 1 0 (rc_1 h (by decide))).1, q1, q2, hN, ?_, fun j hj => ?_⟩
  · by_cases z : gc_ G 51 = 0
    · rw [if_pos z]
      exact Or.inr ⟨rfl, h.2.1.2.1, q3 z⟩
    · rw [if_neg z]
      obtain ⟨p1, p2, p3, -⟩ := h.2.2.2 51 0 (Nat.pos_of_ne_zero z)
      exact Or.inl ⟨(h.1.2 51 0 (Nat.pos_of_ne_zero z)).1, p1, p2, p3⟩
  · by_cases z : gc_ G 51 = 0
    · have := q3 z
      omega
    · rw [if_neg z]
      obtain ⟨-, -, -, p4⟩ := h.2.2.2 51 0 (Nat.pos_of_ne_zero z)
      have hk := (h.1.2 30 j (by rw [hc]; exact hj)).1
      rw [hk]
      exact ⟨p4 j hj, by decide, by decide⟩
theorem rc_l2 {σ : TH} {G : GH} {A : AS} {N : Nat → Nat} (h : rc_ ka TX σ x G A N) (hN : N 5 ≤ 1000) : ls_ ka σ (ga_ G 2 0) (if gc_ G 52 = 0 then ka 200 else ga_ G 52 0) (N 5) (ga_ G 31) := by
  have h1 := h.2.2.2 2 0 (rc_1 h (by decide))
  obtain ⟨q1, q2, q3⟩ := h1
  have hc : gc_ G 31 = N 5 := by
    have := h.2.2.1
    unfold cg_ at this
    simp only [this]
  refine ⟨(h.1.2 2 0 (rc_1 h (by decide))).1, q1, q2, hN, ?_, fun j hj => ?_⟩
  · by_cases z : gc_ G 52 = 0
    · rw [if_pos z]
      exact Or.inr ⟨rfl, h.2.1.2.1, q3 z⟩
    · rw [if_neg z]
      obtain ⟨p1, p2, p3, -⟩ := h.2.2.2 52 0 (Nat.pos_of_ne_zero z)
      exact Or.inl ⟨(h.1.2 52 0 (Nat.pos_of_ne_zero z)).1, p1, p2, p3⟩
  · by_cases z : gc_ G 52 = 0
    · have := q3 z
      omega
    · rw [if_neg z]
      obtain ⟨-, -, -, p4⟩ := h.2.2.2 52 0 (Nat.pos_of_ne_zero z)
      have hk := (h.1.2 31 j (by rw [hc]; exact hj)).1
      rw [hk]
      exact ⟨p4 j hj, by decide, by decide⟩
theorem rc_l3 {σ : TH} {G : GH} {A : AS} {N : Nat → Nat} (h : rc_ ka TX σ x G A N) (hN : N 58 ≤ 1000) : ls_ ka σ (ga_ G 3 0) (if gc_ G 53 = 0 then ka 200 else ga_ G 53 0) (N 58) (ga_ G 39) := by
  have h1 := h.2.2.2 3 0 (rc_1 h (by decide))
  obtain ⟨q1, q2, q3⟩ := h1
  have hc : gc_ G 39 = N 58 := by
    have := h.2.2.1
    unfold cg_ at this
    simp only [this]
  refine ⟨(h.1.2 3 0 (rc_1 h (by decide))).1, q1, q2, hN, ?_, fun j hj => ?_⟩
  · by_cases z : gc_ G 53 = 0
    · rw [if_pos z]
      exact Or.inr ⟨rfl, h.2.1.2.1, q3 z⟩
    · rw [if_neg z]
      obtain ⟨p1, p2, p3, -⟩ := h.2.2.2 53 0 (Nat.pos_of_ne_zero z)
      exact Or.inl ⟨(h.1.2 53 0 (Nat.pos_of_ne_zero z)).1, p1, p2, p3⟩
  · by_cases z : gc_ G 53 = 0
    · have := q3 z
      omega
    · rw [if_neg z]
      obtain ⟨-, -, -, p4⟩ := h.2.2.2 53 0 (Nat.pos_of_ne_zero z)
      have hk := (h.1.2 39 j (by rw [hc]; exact hj)).1
      rw [hk]
      exact ⟨p4 j hj, by decide, by decide⟩
theorem rc_l4 {σ : TH} {G : GH} {A : AS} {N : Nat → Nat} (h : rc_ ka TX σ x G A N) (hN : N 59 ≤ 1000) : ls_ ka σ (ga_ G 4 0) (if gc_ G 54 = 0 then ka 200 else ga_ G 54 0) (N 59) (ga_ G 41) := by
  have h1 := h.2.2.2 4 0 (rc_1 h (by decide))
  obtain ⟨q1, q2, q3⟩ := h1
  have hc : gc_ G 41 = N 59 := by
    have := h.2.2.1
    unfold cg_ at this
    simp only [this]
  refine ⟨(h.1.2 4 0 (rc_1 h (by decide))).1, q1, q2, hN, ?_, fun j hj => ?_⟩
  · by_cases z : gc_ G 54 = 0
    · rw [if_pos z]
      exact Or.inr ⟨rfl, h.2.1.2.1, q3 z⟩
    · rw [if_neg z]
      obtain ⟨p1, p2, p3, -⟩ := h.2.2.2 54 0 (Nat.pos_of_ne_zero z)
      exact Or.inl ⟨(h.1.2 54 0 (Nat.pos_of_ne_zero z)).1, p1, p2, p3⟩
  · by_cases z : gc_ G 54 = 0
    · have := q3 z
      omega
    · rw [if_neg z]
      obtain ⟨-, -, -, p4⟩ := h.2.2.2 54 0 (Nat.pos_of_ne_zero z)
      have hk := (h.1.2 41 j (by rw [hc]; exact hj)).1
      rw [hk]
      exact ⟨p4 j hj, by decide, by decide⟩
theorem rc_l5 {σ : TH} {G : GH} {A : AS} {N : Nat → Nat} (h : rc_ ka TX σ x G A N) (hN : N 69 ≤ 1000) : ls_ ka σ (ga_ G 5 0) (if gc_ G 55 = 0 then ka 200 else ga_ G 55 0) (N 69) (ga_ G 44) := by
  have h1 := h.2.2.2 5 0 (rc_1 h (by decide))
  obtain ⟨q1, q2, q3⟩ := h1
  have hc : gc_ G 44 = N 69 := by
    have := h.2.2.1
    unfold cg_ at this
    simp only [this]
  refine ⟨(h.1.2 5 0 (rc_1 h (by decide))).1, q1, q2, hN, ?_, fun j hj => ?_⟩
  · by_cases z : gc_ G 55 = 0
    · rw [if_pos z]
      exact Or.inr ⟨rfl, h.2.1.2.1, q3 z⟩
    · rw [if_neg z]
      obtain ⟨p1, p2, p3, -⟩ := h.2.2.2 55 0 (Nat.pos_of_ne_zero z)
      exact Or.inl ⟨(h.1.2 55 0 (Nat.pos_of_ne_zero z)).1, p1, p2, p3⟩
  · by_cases z : gc_ G 55 = 0
    · have := q3 z
      omega
    · rw [if_neg z]
      obtain ⟨-, -, -, p4⟩ := h.2.2.2 55 0 (Nat.pos_of_ne_zero z)
      have hk := (h.1.2 44 j (by rw [hc]; exact hj)).1
      rw [hk]
      exact ⟨p4 j hj, by decide, by decide⟩
theorem rc_l6 {σ : TH} {G : GH} {A : AS} {N : Nat → Nat} (h : rc_ ka TX σ x G A N) (hN : N 70 ≤ 1000) : ls_ ka σ (ga_ G 6 0) (if gc_ G 56 = 0 then ka 200 else ga_ G 56 0) (N 70) (ga_ G 45) := by
  have h1 := h.2.2.2 6 0 (rc_1 h (by decide))
  obtain ⟨q1, q2, q3⟩ := h1
  have hc : gc_ G 45 = N 70 := by
    have := h.2.2.1
    unfold cg_ at this
    simp only [this]
  refine ⟨(h.1.2 6 0 (rc_1 h (by decide))).1, q1, q2, hN, ?_, fun j hj => ?_⟩
  · by_cases z : gc_ G 56 = 0
    · rw [if_pos z]
      exact Or.inr ⟨rfl, h.2.1.2.1, q3 z⟩
    · rw [if_neg z]
      obtain ⟨p1, p2, p3, -⟩ := h.2.2.2 56 0 (Nat.pos_of_ne_zero z)
      exact Or.inl ⟨(h.1.2 56 0 (Nat.pos_of_ne_zero z)).1, p1, p2, p3⟩
  · by_cases z : gc_ G 56 = 0
    · have := q3 z
      omega
    · rw [if_neg z]
      obtain ⟨-, -, -, p4⟩ := h.2.2.2 56 0 (Nat.pos_of_ne_zero z)
      have hk := (h.1.2 45 j (by rw [hc]; exact hj)).1
      rw [hk]
      exact ⟨p4 j hj, by decide, by decide⟩
theorem rc_l7 {σ : TH} {G : GH} {A : AS} {N : Nat → Nat} (h : rc_ ka TX σ x G A N) (hN : N 71 ≤ 1000) : ls_ ka σ (ga_ G 7 0) (if gc_ G 57 = 0 then ka 200 else ga_ G 57 0) (N 71) (ga_ G 46) := by
  have h1 := h.2.2.2 7 0 (rc_1 h (by decide))
  obtain ⟨q1, q2, q3⟩ := h1
  have hc : gc_ G 46 = N 71 := by
    have := h.2.2.1
    unfold cg_ at this
    simp only [this]
  refine ⟨(h.1.2 7 0 (rc_1 h (by decide))).1, q1, q2, hN, ?_, fun j hj => ?_⟩
  · by_cases z : gc_ G 57 = 0
    · rw [if_pos z]
      exact Or.inr ⟨rfl, h.2.1.2.1, q3 z⟩
    · rw [if_neg z]
      obtain ⟨p1, p2, p3, -⟩ := h.2.2.2 57 0 (Nat.pos_of_ne_zero z)
      exact Or.inl ⟨(h.1.2 57 0 (Nat.pos_of_ne_zero z)).1, p1, p2, p3⟩
  · by_cases z : gc_ G 57 = 0
    · have := q3 z
      omega
    · rw [if_neg z]
      obtain ⟨-, -, -, p4⟩ := h.2.2.2 57 0 (Nat.pos_of_ne_zero z)
      have hk := (h.1.2 46 j (by rw [hc]; exact hj)).1
      rw [hk]
      exact ⟨p4 j hj, by decide, by decide⟩
theorem ob_V18 {A : AS} {G : GH} {N : Nat → Nat} {r i : Nat} {m : CE} (S : Nat → Int32) (i0 : Nat) (v0 : Int32) (h0 : r ≠ 0) (h9 : r ≠ 9) (h10 : r ≠ 10) (h : ob_ ka TX A G N r i m) : ob_ ka TX (S, up2_ (aV A) 18 i0 v0, A.2.2) G N r i m := by
  match r, h with
  | 0, h => exact absurd rfl h0
  | 1, h => exact h
  | 2, h => exact h
  | 3, h => exact h
  | 4, h => exact h
  | 5, h => exact h
  | 6, h => exact h
  | 7, h => exact h
  | 8, h => exact h
  | 9, h => exact absurd rfl h9
  | 10, h => exact absurd rfl h10
  | 11, h => exact h
  | 12, h => exact h
  | 13, h => exact h
  | 14, h => exact h
  | 15, h => exact h
  | 16, h => exact h
  | 17, h => exact h
  | 18, h => exact h
  | 19, h => exact h
  | 20, h => exact h
  | 21, h => exact h
  | 22, h => exact h
  | 23, h => exact h
  | 24, h => exact h
  | 25, h => exact h
  | 26, h => exact h
  | 27, h => exact h
  | 28, h => exact h
  | 29, h => exact h
  | 30, h => exact h
  | 31, h => exact h
  | 32, h => exact h
  | 33, h => exact h
  | 34, h => exact h
  | 35, h => exact h
  | 36, h => exact h
  | 37, h => exact h
  | 38, h => exact h
  | 39, h => exact h
  | 40, h => exact h
  | 41, h => exact h
  | 42, h => exact h
  | 43, h => exact h
  | 44, h => exact h
  | 45, h => exact h
  | 46, h => exact h
  | 47, h => exact h
  | 48, h => exact h
  | 49, h => exact h
  | 50, h => exact h
  | 51, h => exact h
  | 52, h => exact h
  | 53, h => exact h
  | 54, h => exact h
  | 55, h => exact h
  | 56, h => exact h
  | 57, h => exact h
  | 58, h => exact h
  | r + 59, h => exact h
theorem ob_V7 {A : AS} {G : GH} {N : Nat → Nat} {r i : Nat} {m : CE} (S : Nat → Int32) (i0 : Nat) (v0 : Int32) (h0 : r ≠ 0) (h10 : r ≠ 10) (h30 : r ≠ 30) (h : ob_ ka TX A G N r i m) : ob_ ka TX (S, up2_ (aV A) 7 i0 v0, A.2.2) G N r i m := by
  match r, h with
  | 0, h => exact absurd rfl h0
  | 1, h => exact h
  | 2, h => exact h
  | 3, h => exact h
  | 4, h => exact h
  | 5, h => exact h
  | 6, h => exact h
  | 7, h => exact h
  | 8, h => exact h
  | 9, h => exact h
  | 10, h => exact absurd rfl h10
  | 11, h => exact h
  | 12, h => exact h
  | 13, h => exact h
  | 14, h => exact h
  | 15, h => exact h
  | 16, h => exact h
  | 17, h => exact h
  | 18, h => exact h
  | 19, h => exact h
  | 20, h => exact h
  | 21, h => exact h
  | 22, h => exact h
  | 23, h => exact h
  | 24, h => exact h
  | 25, h => exact h
  | 26, h => exact h
  | 27, h => exact h
  | 28, h => exact h
  | 29, h => exact h
  | 30, h => exact absurd rfl h30
  | 31, h => exact h
  | 32, h => exact h
  | 33, h => exact h
  | 34, h => exact h
  | 35, h => exact h
  | 36, h => exact h
  | 37, h => exact h
  | 38, h => exact h
  | 39, h => exact h
  | 40, h => exact h
  | 41, h => exact h
  | 42, h => exact h
  | 43, h => exact h
  | 44, h => exact h
  | 45, h => exact h
  | 46, h => exact h
  | 47, h => exact h
  | 48, h => exact h
  | 49, h => exact h
  | 50, h => exact h
  | 51, h => exact h
  | 52, h => exact h
  | 53, h => exact h
  | 54, h => exact h
  | 55, h => exact h
  | 56, h => exact h
  | 57, h => exact h
  | 58, h => exact h
  | r + 59, h => exact h
theorem ob_V16 {A : AS} {G : GH} {N : Nat → Nat} {r i : Nat} {m : CE} (S : Nat → Int32) (i0 : Nat) (v0 : Int32) (h0 : r ≠ 0) (h10 : r ≠ 10) (h31 : r ≠ 31) (h : ob_ ka TX A G N r i m) : ob_ ka TX (S, up2_ (aV A) 16 i0 v0, A.2.2) G N r i m := by
  match r, h with
  | 0, h => exact absurd rfl h0
  | 1, h => exact h
  | 2, h => exact h
  | 3, h => exact h
  | 4, h => exact h
  | 5, h => exact h
  | 6, h => exact h
  | 7, h => exact h
  | 8, h => exact h
  | 9, h => exact h
  | 10, h => exact absurd rfl h10
  | 11, h => exact h
  | 12, h => exact h
  | 13, h => exact h
  | 14, h => exact h
  | 15, h => exact h
  | 16, h => exact h
  | 17, h => exact h
  | 18, h => exact h
  | 19, h => exact h
  | 20, h => exact h
  | 21, h => exact h
  | 22, h => exact h
  | 23, h => exact h
  | 24, h => exact h
  | 25, h => exact h
  | 26, h => exact h
  | 27, h => exact h
  | 28, h => exact h
  | 29, h => exact h
  | 30, h => exact h
  | 31, h => exact absurd rfl h31
  | 32, h => exact h
  | 33, h => exact h
  | 34, h => exact h
  | 35, h => exact h
  | 36, h => exact h
  | 37, h => exact h
  | 38, h => exact h
  | 39, h => exact h
  | 40, h => exact h
  | 41, h => exact h
  | 42, h => exact h
  | 43, h => exact h
  | 44, h => exact h
  | 45, h => exact h
  | 46, h => exact h
  | 47, h => exact h
  | 48, h => exact h
  | 49, h => exact h
  | 50, h => exact h
  | 51, h => exact h
  | 52, h => exact h
  | 53, h => exact h
  | 54, h => exact h
  | 55, h => exact h
  | 56, h => exact h
  | 57, h => exact h
  | 58, h => exact h
  | r + 59, h => exact h
theorem ob_V13 {A : AS} {G : GH} {N : Nat → Nat} {r i : Nat} {m : CE} (S : Nat → Int32) (i0 : Nat) (v0 : Int32) (h0 : r ≠ 0) (h10 : r ≠ 10) (h31 : r ≠ 31) (h : ob_ ka TX A G N r i m) : ob_ ka TX (S, up2_ (aV A) 13 i0 v0, A.2.2) G N r i m := by
  match r, h with
  | 0, h => exact absurd rfl h0
  | 1, h => exact h
  | 2, h => exact h
  | 3, h => exact h
  | 4, h => exact h
  | 5, h => exact h
  | 6, h => exact h
  | 7, h => exact h
  | 8, h => exact h
  | 9, h => exact h
  | 10, h => exact absurd rfl h10
  | 11, h => exact h
  | 12, h => exact h
  | 13, h => exact h
  | 14, h => exact h
  | 15, h => exact h
  | 16, h => exact h
  | 17, h => exact h
  | 18, h => exact h
  | 19, h => exact h
  | 20, h => exact h
  | 21, h => exact h
  | 22, h => exact h
  | 23, h => exact h
  | 24, h => exact h
  | 25, h => exact h
  | 26, h => exact h
  | 27, h => exact h
  | 28, h => exact h
  | 29, h => exact h
  | 30, h => exact h
  | 31, h => exact absurd rfl h31
  | 32, h => exact h
  | 33, h => exact h
  | 34, h => exact h
  | 35, h => exact h
  | 36, h => exact h
  | 37, h => exact h
  | 38, h => exact h
  | 39, h => exact h
  | 40, h => exact h
  | 41, h => exact h
  | 42, h => exact h
  | 43, h => exact h
  | 44, h => exact h
  | 45, h => exact h
  | 46, h => exact h
  | 47, h => exact h
  | 48, h => exact h
  | 49, h => exact h
  | 50, h => exact h
  | 51, h => exact h
  | 52, h => exact h
  | 53, h => exact h
  | 54, h => exact h
  | 55, h => exact h
  | 56, h => exact h
  | 57, h => exact h
  | 58, h => exact h
  | r + 59, h => exact h
end KEEP
