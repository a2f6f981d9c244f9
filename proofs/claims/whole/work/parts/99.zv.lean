/-! CALLS: the reference cuts. Written by wip/b/mk99zv.py. -/
section MCV
variable {σ : TH} {y : Nat} {G : GH} {A : AS} {N : Nat → Nat}
theorem m_lenB (h : mr_ σ y G A N) {p : Nat} (hv : pv_ A N) (hp : p < N 5) (h15 : aV A 15 p = bi_ (0 ≤ aV A 12 p)) (hX : ∀ k, k < N 47 → ∃ len arr, TXp_ 0 (aL A k) (aB A k) len arr) : ∀ k, k < N 47 → aP A 1400 k = nI p → (ot9_ A N p k).length ≤ 880 := fun k hk e => by
  obtain ⟨len, arr, hx⟩ := hX k hk
  obtain ⟨τ1, -, -, -, -, -, q6, -⟩ := m_lengthOf h.1.1.1 h hv.1 hv.2.1 hv.2.2.1 hp hk e h15 hx
  exact q6
theorem m_cuts (h : mr_ σ y G A N) {p : Nat} {v : Int32} {lim : Int} (hv : pv_ A N) (hPl : ∀ k, k < N 47 → aP A 1401 k = nI (pl_ A k)) (hp : p < N 5) (hN : N 5 ≤ 30) (h15 : aV A 15 p = bi_ (0 ≤ aV A 12 p)) (hX : ∀ k, k < N 47 → ∃ len arr, TXp_ 0 (aL A k) (aB A k) len arr) (hlim : 0 ≤ lim ∧ lim ≤ 10000000) : ∃ τ, f_X15_cuts σ y (nI p) (zI lim) v = some ((), cbm8_ τ y (pk_ (cga8_ A N p) (cco8_ A N p) (cle8_ A N p) (cop8_ A N p v) 1 lim (st_ A N p) 0 (0, 0, 0) (0, -1, lim + 1))) ∧ mr_ τ y G A N ∧ fq_ (mU9_ y G) σ τ ∧ (nx_ τ = nx_ σ ∧ sl_ τ = sl_ σ) ∧ ∀ j, j ∈ DS → fi_ τ (1600 + j) y = fi_ σ (1600 + j) y := by
  have hst := (hv.2.1 p hp).2.2.2
  have hL := m_lenB h hv hp h15 hX
  obtain ⟨bd1, bd2, bd3⟩ := cob8_ hPl hst hv.2.2.2.1 hL
  have key : ∃ r, f_X15_cuts_b10 fu_ σ y (nI p) (zI lim) v (nI (st_ A N p)) (nI 0) = some r ∧ ∃ τ, r = ((), cbm8_ τ y (pk_ (cga8_ A N p) (cco8_ A N p) (cle8_ A N p) (cop8_ A N p v) 1 lim (st_ A N p) 0 (0, 0, 0) (0, -1, lim + 1))) ∧ lo8_ A N p v σ y G (st_ A N p) τ := by
    refine lpe_ (F := fun f (a : TH) k => f_X15_cuts_b10 f a y (nI p) (zI lim) v (nI (st_ A N p)) k) (st_ A N p) (fun i τ => lo8_ A N p v σ y G i τ) (fun r => ∃ τ, r = ((), cbm8_ τ y (pk_ (cga8_ A N p) (cco8_ A N p) (cle8_ A N p) (cop8_ A N p v) 1 lim (st_ A N p) 0 (0, 0, 0) (0, -1, lim + 1))) ∧ lo8_ A N p v σ y G (st_ A N p) τ) (fun f i τ hi hI => m_layOne hv hPl hst hp hN h15 hX hi hI f) (fun f τ hI => ?_) (by omega) σ ⟨h, fun j hj => absurd hj (Nat.not_lt_zero j), fq_rf h.1.1.1, ⟨rfl, rfl⟩, fun _ _ => rfl⟩
    have hl : mlo8_ τ G (cga8_ A N p) (cco8_ A N p) (cle8_ A N p) (cop8_ A N p v) lim (st_ A N p) := ⟨hst, hI.2.1, bd1, bd2, bd3, hlim⟩
    have sc := m_scan hI.1 hl
    rw [scan_same (fun j => (bd1 j).1) (fun j => (bd2 j).1) (by decide) hlim.1 bd3] at sc
    refine ⟨_, ?_, τ, rfl, hI⟩
    show f_X15_cuts_b10 (f + 1) τ y (nI p) (zI lim) v (nI (st_ A N p)) (nI (st_ A N p)) = _
    rw [f_X15_cuts_b10, if_pos (nI_le (Nat.le_refl _) (by omega)), gt_t (mo_y hI.1.1), lt_e, lt_e, lt_e]
    exact sc
  obtain ⟨r, e, τ, rfl, hI⟩ := key
  refine ⟨τ, ?_, hI.1, hI.2.2⟩
  unfold f_X15_cuts
  rw [gt_t (mo_y h.1), m_storySize h, bd_s]
  exact e
end MCV
