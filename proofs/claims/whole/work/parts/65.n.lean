/-! A NEW OBJECT and its arrays, step by step (heaps stay variables). Written by wip/b/mk65n.py. -/
/-- from c to s: one new object at nx_ c, of kind K, fields F, references R; n cells and w slots used; the j-th cell behind it is an empty array Q j -/
def np_ (c s : TH) (K : Nat) (F : Nat → Int32) (R : Nat → Option Nat) (n w : Nat) (Q : Nat → Option (Nat × Nat)) : Prop := fq_ (fun _ => False) c s ∧ (kd_ s (nx_ c) = K ∧ K ≠ 0 ∧ 0 < n) ∧ (∀ q, fi_ s q (nx_ c) = F q) ∧ (∀ q, fr_ s q (nx_ c) = R q) ∧ (nx_ s = nx_ c + n ∧ sl_ s = sl_ c + w) ∧ ∀ j k l, Q j = some (k, l) → (0 < j ∧ j < n) ∧ kd_ s (nx_ c + j) = k ∧ ln_ s (nx_ c + j) = l ∧ (∀ i, ai_ s (nx_ c + j) i = 0) ∧ ∀ i, ar_ s (nx_ c + j) i = none
theorem np_0 {c : TH} (hw : wf_ c) (K w : Nat) (hK : K ≠ 0) : np_ c (nw_ c K 0 w) K (fun _ => 0) (fun _ => none) 1 w (fun _ => none) := ⟨fq_nw hw hK, ⟨kd_nw c K 0 w, hK, by decide⟩, fun _ => fi_nw0, fun _ => fr_nw0, ⟨rfl, rfl⟩, fun _ _ _ h => nomatch h⟩
section NP
variable {c s : TH} {K n w : Nat} {F : Nat → Int32} {R : Nat → Option Nat} {Q : Nat → Option (Nat × Nat)}
theorem np_kd (h : np_ c s K F R n w Q) : kd_ s (nx_ c) = K := h.2.1.1
theorem np_si (h : np_ c s K F R n w Q) (f : Nat) (v : Int32) : np_ c (si_ s f (nx_ c) v) K (fun q => if q = f then v else F q) R n w Q := by
  obtain ⟨h1, h2, h3, h4, h5, h6⟩ := h
  refine ⟨fq_sin h1 (Nat.le_refl _), h2, fun q => ?_, h4, h5, h6⟩
  rw [fi_si]
  dsimp only
  by_cases e : q = f
  · subst e; rw [if_pos rfl, up2_s]
  · rw [if_neg e, up2_c e]; exact h3 q
theorem np_sr (h : np_ c s K F R n w Q) (f : Nat) (v : Option Nat) : np_ c (sr_ s f (nx_ c) v) K F (fun q => if q = f then v else R q) n w Q := by
  obtain ⟨h1, h2, h3, h4, h5, h6⟩ := h
  refine ⟨fq_srn h1 (Nat.le_refl _), h2, h3, fun q => ?_, h5, h6⟩
  rw [fr_sr]
  dsimp only
  by_cases e : q = f
  · subst e; rw [if_pos rfl, up2_s]
  · rw [if_neg e, up2_c e]; exact h4 q
theorem np_nx (h : np_ c s K F R n w Q) : nx_ s = nx_ c + n := h.2.2.2.2.1.1
theorem np_z (h : np_ c s K F R n w Q) : kd_ s (nx_ s) = 0 := wf_0 h.1.2.1 (Nat.le_refl _)
theorem np_nw (h : np_ c s K F R n w Q) (k l : Nat) (hk : k ≠ 0) : np_ c (nw_ s k l l) K F R (n + 1) (w + l) (fun j => if j = n then some (k, l) else Q j) := by
  obtain ⟨h1, ⟨h2, h2b, h2c⟩, h3, h4, ⟨h5, h5b⟩, h6⟩ := h
  have hne : nx_ c ≠ nx_ s := by omega
  refine ⟨fq_nwn h1 hk, ⟨by rw [kd_nwn hne]; exact h2, h2b, by omega⟩, fun q => by rw [fi_nwn hne]; exact h3 q, fun q => by rw [fr_nwn hne]; exact h4 q, ⟨?_, ?_⟩, fun j k2 l2 hq => ?_⟩
  · show nx_ s + 1 = _
    omega
  · show sl_ s + l = _
    omega
  · by_cases e : j = n
    · subst e
      have hq : some (k, l) = some (k2, l2) := by simpa using hq
      cases hq
      have ee : nx_ c + j = nx_ s := h5.symm
      rw [ee]
      exact ⟨⟨h2c, by omega⟩, kd_nw s k l l, ln_nw s k l l, fun _ => ai_nw0, fun _ => ar_nw0⟩
    · have hq : Q j = some (k2, l2) := by simpa [e] using hq
      obtain ⟨q0, q1, q2, q3, q4⟩ := h6 j k2 l2 hq
      have ne2 : nx_ c + j ≠ nx_ s := by omega
      rw [kd_nwn ne2, ln_nwn ne2, ai_nwn ne2, ar_nwn ne2]
      exact ⟨⟨q0.1, by omega⟩, q1, q2, q3, q4⟩
/-- a place of one of its arrays -/
theorem np_sa (h : np_ c s K F R n w Q) {j : Nat} (i : Nat) (v : Int32) : np_ c (sa_ s (nx_ c + j) i v) K F R n w (fun q => if q = j then none else Q q) := by
  obtain ⟨h1, h2, h3, h4, h5, h6⟩ := h
  refine ⟨fq_san h1 (Nat.le_add_right _ _), h2, h3, h4, h5, fun q k l hq => ?_⟩
  dsimp only at hq
  by_cases e : q = j
  · rw [if_pos e] at hq; cases hq
  · rw [if_neg e] at hq
    obtain ⟨q0, q1, q2, q3, q4⟩ := h6 q k l hq
    refine ⟨q0, q1, q2, fun z => ?_, q4⟩
    rw [ai_sa, up2_row (show nx_ c + q ≠ nx_ c + j by omega)]
    exact q3 z
end NP
