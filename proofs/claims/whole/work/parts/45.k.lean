/-! THE CLASS'S SMALL METHODS; trouble told on both sides. Written by wip/b/mk45.py. -/
theorem fq_k0 {T : Nat → Prop} {σ τ : TH} (h : fq_ T σ τ) (hw : wf_ σ) {q : Nat} (hq : q < nx_ σ) (h0 : kd_ σ q = 0) : kd_ τ q = 0 := by
  by_cases e : kd_ τ q = 0
  · exact e
  · rcases h.1.2.2.2.1 q (h.2.1.1 q e) with h1 | h1
    · exact absurd h0 (hw.2 q h1).2
    · omega
theorem k_within (σ : TH) (a b c : Int32) : f_X11_within σ a b c = some (bi_ (b ≤ a ∧ a ≤ c), σ) := by
  unfold f_X11_within f_X11_within_b14 f_X11_within_b15
  by_cases h1 : a < b
  · rw [if_pos h1, gt_t (Or.inl rfl), bi_f]
    intro h
    exact absurd h1 (Int32.not_lt.mpr h.1)
  · rw [if_neg h1]
    by_cases h2 : c < a
    · rw [if_pos h2, gt_t (Or.inl rfl), bi_f]
      intro h
      exact absurd h2 (Int32.not_lt.mpr h.2)
    · rw [if_neg h2, gt_t (Or.inr rfl), bi_t ⟨Int32.not_lt.mp h1, Int32.not_lt.mp h2⟩]
theorem k_refused {σ : TH} {x : Nat} (hx : kd_ σ x = 13) (v : Int32) : f_X11_refused σ x v = some (-1, si_ σ 1214 x v) := by
  unfold f_X11_refused
  rw [gt_t hx]
  rfl
theorem k_granted {σ : TH} {x : Nat} (hx : kd_ σ x = 13) (v : Int32) : f_X11_granted σ x v = some (v, si_ σ 1214 x 0) := by
  unfold f_X11_granted
  rw [gt_t hx]
  rfl
theorem k_denied {σ : TH} {x : Nat} (hx : kd_ σ x = 13) (v : Int32) : f_X11_denied σ x v = some (0, si_ σ 1214 x v) := by
  unfold f_X11_denied
  rw [gt_t hx]
  rfl
theorem k_allowed {σ : TH} {x : Nat} (hx : kd_ σ x = 13) : f_X11_allowed σ x = some (1, si_ σ 1214 x 0) := by
  unfold f_X11_allowed
  rw [gt_t hx]
  rfl
theorem k_today {σ : TH} {x n : Nat} (hx : kd_ σ x = 13) (hn : fi_ σ 1213 x = nI n) (hb : n < 2 ^ 31) : f_X11_today σ x = some (nI (n / 1440), σ) := by
  unfold f_X11_today
  rw [gt_t hx, lt_e, hn, gt_t (by decide), show (1440 : Int32) = nI 1440 from rfl, pk_div hb (by decide) (by decide)]
section TRB
variable {ka : Nat → Nat} {TX : Nat → Nat → (Nat → Int32) → Nat → (Nat → Int32) → Prop}
/-- only the desk itself and its reader speak of the reference's whole numbers -/
theorem ob_S2 {A : AS} {G : GH} {N : Nat → Nat} {r i : Nat} {m : CE} (S : Nat → Int32) (h0 : r ≠ 0) (h10 : r ≠ 10) (h : ob_ ka TX A G N r i m) : ob_ ka TX (S, A.2) G N r i m := by
  match r, h with
  | 0, h => exact absurd rfl h0
  | 1, h => exact h
  | 2, h => exact h
  | 3, h => exact h
  | 4, h => exact h
  | 5, h => exact h
  | 6, h => exact h
  | 7, h => exact h
  | 8, h => exact h
  | 9, h => exact h
  | 10, h => exact absurd rfl h10
  | 11, h => exact h
  | 12, h => exact h
  | 13, h => exact h
  | 14, h => exact h
  | 15, h => exact h
  | 16, h => exact h
  | 17, h => exact h
  | 18, h => exact h
  | 19, h => exact h
  | 20, h => exact h
  | 21, h => exact h
  | 22, h => exact h
  | 23, h => exact h
  | 24, h => exact h
  | 25, h => exact h
  | 26, h => exact h
  | 27, h => exact h
  | 28, h => exact h
  | 29, h => exact h
  | 30, h => exact h
  | 31, h => exact h
  | 32, h => exact h
  | 33, h => exact h
  | 34, h => exact h
  | 35, h => exact h
  | 36, h => exact h
  | 37, h => exact h
  | 38, h => exact h
  | 39, h => exact h
  | 40, h => exact h
  | 41, h => exact h
  | 42, h => exact h
  | 43, h => exact h
  | 44, h => exact h
  | 45, h => exact h
  | 46, h => exact h
  | 47, h => exact h
  | 48, h => exact h
  | 49, h => exact h
  | 50, h => exact h
  | 51, h => exact h
  | 52, h => exact h
  | 53, h => exact h
  | 54, h => exact h
  | 55, h => exact h
  | 56, h => exact h
  | 57, h => exact h
  | 58, h => exact h
  | r + 59, h => exact h
theorem rc_up {σ τ : TH} {x : Nat} {G : GH} {A : AS} {N : Nat → Nat} (h : rc_ ka TX σ x G A N) (hf : fq_ (fun q => q = x) σ τ) (S : Nat → Int32) (h0 : ob_ ka TX (S, A.2) G N 0 0 (ce_ τ x)) (h10 : ob_ ka TX (S, A.2) G N 10 0 (ce_ σ (ga_ G 10 0))) : rc_ ka TX τ x G (S, A.2) N := by
  have hlt := h.2.1.2.2
  refine ⟨sh_fq h.1 hf, ⟨h.2.1.1, fq_k0 hf h.1.1 hlt h.2.1.2.1, Nat.lt_of_lt_of_le hlt hf.1.1⟩, h.2.2.1, fun r i hi => ?_⟩
  by_cases e0 : r = 0
  · subst e0
    have hg := h.2.2.1.1 0 (by decide)
    have : i = 0 := by omega
    subst this
    rw [h.2.1.1]
    exact h0
  · have hne : ga_ G r i ≠ x := by
      rw [← h.2.1.1]
      exact sh_ne h.1 hi (rc_1 h (by decide)) (Or.inl e0)
    rw [rc_ce h hf hi hne]
    by_cases e10 : r = 10
    · subst e10
      have hg := h.2.2.1.1 10 (by decide)
      have : i = 0 := by omega
      subst this
      exact h10
    · exact ob_S2 S e0 e10 (h.2.2.2 r i hi)
/-- trouble is told (not that of a text) -/
theorem rc_tr {σ : TH} {x : Nat} {G : GH} {A : AS} {N : Nat → Nat} (h : rc_ ka TX σ x G A N) (S : Nat → Int32) (v : Int32) (hv : v ≠ 4) (h1 : S 1 = v) (h2 : S 2 = -1) (hS : ∀ j, j ∈ ([17, 47, 6, 42, 56, 57, 87, 30, 3] : List Nat) → S j = aS A j) : rc_ ka TX (si_ σ 1214 x v) x G (S, A.2) N := by
  have hx := rc_x h
  refine rc_up h (fq_si h.1.1 rfl) S ?_ ?_
  · obtain ⟨q0, q1, q2, q3, q4, q5, q6, q7, q8⟩ := rc_f0 h
    refine ⟨q0, ?_, ?_, ?_, ?_, ?_, ?_, ?_, ?_⟩
    · exact q1.trans (hS 17 (by decide)).symm
    · exact q2.trans (hS 47 (by decide)).symm
    · exact q3.trans (hS 6 (by decide)).symm
    · show up2_ (fi_ σ) 1214 x v 1214 x = S 1
      rw [up2_s, h1]
    · exact q5.trans (hS 42 (by decide)).symm
    · exact q6.trans (hS 56 (by decide)).symm
    · exact q7.trans (hS 57 (by decide)).symm
    · exact q8.trans (hS 87 (by decide)).symm
  · obtain ⟨q1, q2, q3, q4, q5, q6, q7⟩ := h.2.2.2 10 0 (rc_1 h (by decide))
    exact ⟨q1, q2, q3, q4.trans (hS 30 (by decide)).symm, q5.trans (hS 3 (by decide)).symm, fun z => absurd (h1.symm.trans z) hv, fun _ => h2⟩
end TRB
