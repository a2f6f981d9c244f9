/-! CALLS: report, rumour. Written by wip/b/mk68.py. -/
/-- the reference's arrays alone move -/
def md_ (σ τ : TH) (y : Nat) (G : GH) (A : AS) (V : Nat → Nat → Int32) (N : Nat → Nat) : Prop := mr_ τ y G (A.1, V, A.2.2) N ∧ fq_ (fun q => q = y ∨ ∃ j, j ∈ MA ∧ q = ga_ G j 0) σ τ ∧ fi_ τ = fi_ σ ∧ nx_ τ = nx_ σ ∧ sl_ τ = sl_ σ
theorem md_0 {σ : TH} {y : Nat} {G : GH} {A : AS} {N : Nat → Nat} (h : mr_ σ y G A N) : md_ σ σ y G A (aV A) N := ⟨h, fq_rf h.1.1.1, rfl, rfl, rfl⟩
theorem md_sa {σ τ : TH} {y : Nat} {G : GH} {A : AS} {V : Nat → Nat → Int32} {N : Nat → Nat} (h : md_ σ τ y G A V N) {j : Nat} (hj : j ∈ MV) (i : Nat) (v : Int32) : md_ σ (sa_ τ (ga_ G j 0) i v) y G A (up2_ V j i v) N := ⟨mr_sa h.1 hj i v, fqa h.2.1 (Or.inr ⟨j, MV_MA j hj, rfl⟩), h.2.2.1, h.2.2.2.1, h.2.2.2.2⟩
/-- a report being made: at nx_ c the object, behind it its two arrays -/
def hr9_ (c s : TH) (p nm d so tm : Int32) (F : Nat) (cm : Int32) (K W : Nat → Int32) : Prop := fq_ (fun _ => False) c s ∧ kd_ s (nx_ c) = 9 ∧ (fi_ s 800 (nx_ c) = p ∧ fi_ s 801 (nx_ c) = nm ∧ fi_ s 802 (nx_ c) = d ∧ fi_ s 803 (nx_ c) = so ∧ fi_ s 804 (nx_ c) = tm ∧ fi_ s 807 (nx_ c) = nI F ∧ fi_ s 808 (nx_ c) = cm ∧ fi_ s 809 (nx_ c) = 0) ∧ (fr_ s 805 (nx_ c) = some (nx_ c + 1) ∧ fr_ s 806 (nx_ c) = some (nx_ c + 2)) ∧ (kd_ s (nx_ c + 1) = 20 ∧ ln_ s (nx_ c + 1) = 3 ∧ ∀ j, j < F → ai_ s (nx_ c + 1) j = K j) ∧ (kd_ s (nx_ c + 2) = 20 ∧ ln_ s (nx_ c + 2) = 3 ∧ ∀ j, j < F → ai_ s (nx_ c + 2) j = W j) ∧ nx_ s = nx_ c + 3 ∧ sl_ s = sl_ c + 16
theorem mk_report {c : TH} (hw : wf_ c) (p nm d so tm : Int32) : ∃ s, f_X7_init (nw_ c 9 0 10) (nx_ c) p nm d so tm = some ((), s) ∧ hr9_ c s p nm d so tm 0 0 (fun _ => 0) (fun _ => 0) := by
  have h := np_0 hw 9 10 (by decide)
  unfold f_X7_init
  generalize nw_ c 9 0 10 = s at h ⊢
  rw [gt_t ⟨by decide, by decide, np_z h⟩, lt_e, lt_e]
  (try rw [show (3 : Int32).toNatClampNeg = 3 from by decide])
  have e1 := np_nx h
  rw [e1]
  replace h := np_nw h 20 3 (by decide)
  generalize nw_ s 20 3 3 = s at h ⊢
  clear e1
  rw [gt_t (np_kd h)]
  rw [lt_e]
  replace h := np_sr h 805 (some (nx_ c + 1))
  generalize sr_ s 805 (nx_ c) (some (nx_ c + 1)) = s at h ⊢
  rw [gt_t ⟨by decide, by decide, np_z h⟩, lt_e, lt_e]
  (try rw [show (3 : Int32).toNatClampNeg = 3 from by decide])
  have e2 := np_nx h
  rw [e2]
  replace h := np_nw h 20 3 (by decide)
  generalize nw_ s 20 3 3 = s at h ⊢
  clear e2
  rw [lt_e]
  replace h := np_sr h 806 (some (nx_ c + 2))
  generalize sr_ s 806 (nx_ c) (some (nx_ c + 2)) = s at h ⊢
  rw [lt_e]
  replace h := np_si h 807 0
  generalize si_ s 807 (nx_ c) 0 = s at h ⊢
  rw [lt_e]
  replace h := np_si h 808 0
  generalize si_ s 808 (nx_ c) 0 = s at h ⊢
  rw [lt_e]
  replace h := np_si h 809 0
  generalize si_ s 809 (nx_ c) 0 = s at h ⊢
  rw [lt_e]
  replace h := np_si h 800 p
  generalize si_ s 800 (nx_ c) p = s at h ⊢
  rw [lt_e]
  replace h := np_si h 801 nm
  generalize si_ s 801 (nx_ c) nm = s at h ⊢
  rw [lt_e]
  replace h := np_si h 802 d
  generalize si_ s 802 (nx_ c) d = s at h ⊢
  rw [lt_e]
  replace h := np_si h 803 so
  generalize si_ s 803 (nx_ c) so = s at h ⊢
  rw [lt_e]
  replace h := np_si h 804 tm
  generalize si_ s 804 (nx_ c) tm = s at h ⊢
  obtain ⟨-, q1, q2, q3, -⟩ := h.2.2.2.2.2 1 20 3 rfl
  obtain ⟨-, r1, r2, r3, -⟩ := h.2.2.2.2.2 2 20 3 rfl
  have fF := h.2.2.1
  have fR := h.2.2.2.1
  exact ⟨s, rfl, h.1, np_kd h, ⟨fF 800, fF 801, fF 802, fF 803, fF 804, fF 807, fF 808, fF 809⟩, ⟨fR 805, fR 806⟩, ⟨q1, q2, fun j _ => q3 j⟩, ⟨r1, r2, fun j _ => r3 j⟩, h.2.2.2.2.1⟩
section HR
variable {c s : TH} {p nm d so tm cm : Int32} {F : Nat} {K W : Nat → Int32}
theorem hr_cm (h : hr9_ c s p nm d so tm F cm K W) (v : Int32) : hr9_ c (si_ s 808 (nx_ c) v) p nm d so tm F v K W := by
  obtain ⟨h1, h2, ⟨a1, a2, a3, a4, a5, a6, a7, a8⟩, h4, h5, h6, h7⟩ := h
  exact ⟨fq_sin h1 (Nat.le_refl _), h2, ⟨a1, a2, a3, a4, a5, a6, up2_s, a8⟩, h4, h5, h6, h7⟩
/-- one more fact is told, or none -/
theorem hr_tell0 (h : hr9_ c s p nm d so tm F cm K W) (hcm : cm = 0 ∨ cm = 1) {k v : Int32} (hk : ¬ cm = 0 ∨ k = -1) : ∃ s1, f_X7_tellFact s (nx_ c) k v = some (1, s1) ∧ hr9_ c s1 p nm d so tm F 1 K W := by
  have h1 := hr_cm h 1
  obtain ⟨-, h2, ⟨-, -, -, -, -, -, a7, -⟩, -⟩ := h
  refine ⟨_, ?_, h1⟩
  obtain ⟨-, g2, ⟨-, -, -, -, -, -, g7, -⟩, -⟩ := h1
  by_cases z : cm = 0
  · have hk := hk.resolve_left (not_not_intro z)
    simp [f_X7_tellFact, f_X7_tellFact_b13, f_X7_tellFact_b18, gt_, lt_, nn_, oc_, bd_, h2, a7, z, hk, g2, g7]
  · simp [f_X7_tellFact, f_X7_tellFact_b13, f_X7_tellFact_b18, gt_, lt_, nn_, oc_, bd_, h2, a7, z, g2, g7]
theorem hr_tellB (h : hr9_ c s p nm d so tm F 0 K W) {k v : Int32} (hk : ¬ k = -1) (hv : ¬ ((0 ≤ k ∧ k ≤ 9) ∧ (-9999 ≤ v ∧ v ≤ 9999))) : ∃ s1, f_X7_tellFact s (nx_ c) k v = some (0, s1) ∧ hr9_ c s1 p nm d so tm F 0 K W := by
  have h1 := hr_cm h 0
  obtain ⟨-, h2, ⟨-, -, -, -, -, -, a7, -⟩, -⟩ := h
  refine ⟨_, ?_, h1⟩
  obtain ⟨-, g2, ⟨-, -, -, -, -, -, g7, -⟩, -⟩ := h1
  have iv : ∀ τ, f_X11_isValue τ v = some (bi_ (-9999 ≤ v ∧ v ≤ 9999), τ) := fun τ => by
    unfold f_X11_isValue
    rw [k_within, bd_s]
    simp [gt_, bi_01]
  by_cases z : 0 ≤ k ∧ k ≤ 9
  · have z2 : ¬ (-9999 ≤ v ∧ v ≤ 9999) := fun q => hv ⟨z, q⟩
    simp [f_X7_tellFact, f_X7_tellFact_b18, f_X7_tellFact_b52, gt_, lt_, nn_, oc_, bd_, h2, a7, hk, g2, g7, k_isKind, iv, bi_, z, z2]
  · simp [f_X7_tellFact, f_X7_tellFact_b18, f_X7_tellFact_b52, gt_, lt_, nn_, oc_, bd_, h2, a7, hk, g2, g7, k_isKind, bi_, z]
theorem hr_tell1 (h : hr9_ c s p nm d so tm F 0 K W) (hF : F < 3) {k v : Int32} (hk : ¬ k = -1) (hv : (0 ≤ k ∧ k ≤ 9) ∧ (-9999 ≤ v ∧ v ≤ 9999)) : ∃ s1, f_X7_tellFact s (nx_ c) k v = some (1, s1) ∧ hr9_ c s1 p nm d so tm (F + 1) 0 (fun j => if j = F then k else K j) (fun j => if j = F then v else W j) := by
  have h1 := hr_cm h 0
  obtain ⟨-, h2, ⟨-, -, -, -, -, -, a7, -⟩, -⟩ := h
  have iv : ∀ τ, f_X11_isValue τ v = some (bi_ (-9999 ≤ v ∧ v ≤ 9999), τ) := fun τ => by
    unfold f_X11_isValue
    rw [k_within, bd_s]
    simp [gt_, bi_01]
  have e0 : f_X7_tellFact s (nx_ c) k v = f_X7_tellFact_b18 s (nx_ c) k v 0 (some (nx_ c)) := by simp [f_X7_tellFact, gt_, lt_, nn_, oc_, bd_, h2, a7, hk]
  rw [e0]
  unfold f_X7_tellFact_b18
  rw [nn_s, gt_t h2, gt_t (Or.inl rfl), lt_e]
  generalize si_ s 808 (nx_ c) 0 = s at h1 ⊢
  obtain ⟨g1, g2, ⟨b1, b2, b3, b4, b5, b6, b7, b8⟩, ⟨g4, g5⟩, ⟨g6, g7, g8⟩, ⟨g9, g10, g11⟩, g12⟩ := h1
  have i1 : ¬ nI F < 0 := nI_pos (by omega)
  have i3 : (nI F).toNatClampNeg = F := nI_clamp (by omega)
  have i4 : ¬ 3 ≤ F := by omega
  have i5 : nI F < 3 := nI_c (k := 3) rfl hF (by decide)
  refine ⟨si_ (sa_ (sa_ s (nx_ c + 1) F k) (nx_ c + 2) F v) 807 (nx_ c) (nI (F + 1)), ?_, fq_sin (fq_san (fq_san g1 (by omega)) (by omega)) (Nat.le_refl _), g2, ⟨b1, b2, b3, b4, b5, up2_s, b7, b8⟩, ⟨g4, g5⟩, ⟨g6, g7, fun j hj => ?_⟩, ⟨g9, g10, fun j hj => ?_⟩, g12⟩
  · simp [gt_, lt_, nn_, oc_, bd_, kd_si, ln_si, fi_si, fr_si, fl_si, ai_si, ar_si, al_si, ow_si, nx_si, sl_si, kd_sr, ln_sr, fi_sr, fr_sr, fl_sr, ai_sr, ar_sr, al_sr, ow_sr, nx_sr, sl_sr, kd_so, ln_so, fi_so, fr_so, fl_so, ai_so, ar_so, al_so, ow_so, nx_so, sl_so, kd_sa, ln_sa, fi_sa, fr_sa, fl_sa, ai_sa, ar_sa, al_sa, ow_sa, nx_sa, sl_sa, kd_sq, ln_sq, fi_sq, fr_sq, fl_sq, ai_sq, ar_sq, al_sq, ow_sq, nx_sq, sl_sq, kd_sj, ln_sj, fi_sj, fr_sj, fl_sj, ai_sj, ar_sj, al_sj, ow_sj, nx_sj, sl_sj, g2, b6, b7, k_isKind, iv, bi_, hv, g4, g5, g6, g7, g9, g10, i1, i3, i4, i5, nI_1]
  · rw [ai_si, ai_sa, up2_row (by omega), ai_sa]
    dsimp only
    by_cases z : j = F
    · subst z; rw [up2_s, if_pos rfl]
    · rw [up2_n z, if_neg z]; exact g8 j (by omega)
  · rw [ai_si, ai_sa]
    dsimp only
    by_cases z : j = F
    · subst z; rw [up2_s, if_pos rfl]
    · rw [up2_n z, if_neg z, ai_sa, up2_row (by omega)]; exact g11 j (by omega)
end HR
section MR68
variable {σ : TH} {y : Nat} {G : GH} {A : AS} {N : Nat → Nat}
theorem m_reported (h : mr_ σ y G A N) (hc : N 59 < 120) (p nm d so : Int32) : ∃ τ, f_X15_reported σ y p nm d so = some (nI (N 59), si_ τ 1659 y (nI (N 59 + 1))) ∧ md_ σ τ y G A (up2_ (up2_ (up2_ (up2_ (up2_ (up2_ (up2_ (up2_ (aV A) 61 (N 59) p) 62 (N 59) nm) 63 (N 59) d) 64 (N 59) so) 65 (N 59) (nI (N 6))) 66 (3 * N 59 + 0) (-1)) 66 (3 * N 59 + 1) (-1)) 66 (3 * N 59 + 2) (-1)) N := by
  have h := md_0 h
  obtain ⟨e59, -⟩ := mo_n h.1.1 (j := 59) (cj := 1659) (m := 120) (by decide)
  obtain ⟨e6, -⟩ := mo_n h.1.1 (j := 6) (cj := 1606) (m := 5257439) (by decide)
  have g1 : ¬ nI (N 59) < 0 := nI_pos (by omega)
  have g3 : (nI (N 59)).toNatClampNeg = (N 59) := nI_clamp (by omega)
  have g4 : ¬ 120 ≤ (N 59) := by omega
  obtain ⟨τ, hτ⟩ : ∃ τ, τ = σ := ⟨σ, rfl⟩
  rw [show f_X15_reported σ y p nm d so = f_X15_reported τ y p nm d so by rw [hτ]]
  rw [show md_ σ σ y G A (aV A) N = md_ σ τ y G A (aV A) N by rw [hτ]] at h
  clear hτ
  unfold f_X15_reported
  rw [gt_t (mo_y h.1.1)]
  have c59 : fi_ τ 1659 y = nI (N 59) := by rw [h.2.2.1]; exact e59
  obtain ⟨aj, bj, cj⟩ := mo_a h.1.1 (j := 61) (cj := 1661) (K := 20) (n := 120) (by decide)
  rw [lt_e, aj, lt_e, c59, nn_s, gt_t bj, g3, gt_t (by rw [cj]; exact fun z => z.elim g1 g4), lt_e]
  clear c59 aj bj cj
  replace h := md_sa h (j := 61) (by decide) (N 59) p
  generalize sa_ τ (ga_ G 61 0) (N 59) p = τ at h ⊢
  have c59 : fi_ τ 1659 y = nI (N 59) := by rw [h.2.2.1]; exact e59
  obtain ⟨aj, bj, cj⟩ := mo_a h.1.1 (j := 62) (cj := 1662) (K := 20) (n := 120) (by decide)
  rw [lt_e, aj, lt_e, c59, nn_s, gt_t bj, g3, gt_t (by rw [cj]; exact fun z => z.elim g1 g4), lt_e]
  clear c59 aj bj cj
  replace h := md_sa h (j := 62) (by decide) (N 59) nm
  generalize sa_ τ (ga_ G 62 0) (N 59) nm = τ at h ⊢
  have c59 : fi_ τ 1659 y = nI (N 59) := by rw [h.2.2.1]; exact e59
  obtain ⟨aj, bj, cj⟩ := mo_a h.1.1 (j := 63) (cj := 1663) (K := 20) (n := 120) (by decide)
  rw [lt_e, aj, lt_e, c59, nn_s, gt_t bj, g3, gt_t (by rw [cj]; exact fun z => z.elim g1 g4), lt_e]
  clear c59 aj bj cj
  replace h := md_sa h (j := 63) (by decide) (N 59) d
  generalize sa_ τ (ga_ G 63 0) (N 59) d = τ at h ⊢
  have c59 : fi_ τ 1659 y = nI (N 59) := by rw [h.2.2.1]; exact e59
  obtain ⟨aj, bj, cj⟩ := mo_a h.1.1 (j := 64) (cj := 1664) (K := 20) (n := 120) (by decide)
  rw [lt_e, aj, lt_e, c59, nn_s, gt_t bj, g3, gt_t (by rw [cj]; exact fun z => z.elim g1 g4), lt_e]
  clear c59 aj bj cj
  replace h := md_sa h (j := 64) (by decide) (N 59) so
  generalize sa_ τ (ga_ G 64 0) (N 59) so = τ at h ⊢
  have c59 : fi_ τ 1659 y = nI (N 59) := by rw [h.2.2.1]; exact e59
  have c6 : fi_ τ 1606 y = nI (N 6) := by rw [h.2.2.1]; exact e6
  obtain ⟨aj, bj, cj⟩ := mo_a h.1.1 (j := 65) (cj := 1665) (K := 20) (n := 120) (by decide)
  rw [lt_e, aj, lt_e, c59, lt_e, c6, nn_s, gt_t bj, g3, gt_t (by rw [cj]; exact fun z => z.elim g1 g4), lt_e]
  clear c59 aj bj cj c6
  replace h := md_sa h (j := 65) (by decide) (N 59) (nI (N 6))
  generalize sa_ τ (ga_ G 65 0) (N 59) (nI (N 6)) = τ at h ⊢
  rw [show fu_ = 39996 + 1 + 1 + 1 + 1 from rfl]
  have c59 : fi_ τ 1659 y = nI (N 59) := by rw [h.2.2.1]; exact e59
  obtain ⟨aj, bj, cj⟩ := mo_a h.1.1 (j := 66) (cj := 1666) (K := 20) (n := 360) (by decide)
  have z0 : ¬ (3 : Int32) ≤ 0 := by decide
  have ix1 : ¬ nI (3 * N 59 + 0) < 0 := nI_pos (by omega)
  have ix3 : (nI (3 * N 59 + 0)).toNatClampNeg = 3 * N 59 + 0 := nI_clamp (by omega)
  have ix4 : ¬ 360 ≤ 3 * N 59 + 0 := by omega
  rw [f_X15_reported_b57, if_neg z0, gt_t (mo_y h.1.1), lt_e, aj, lt_e, c59, nn_s, gt_t bj, show (0 : Int32) = nI 0 from rfl, three_, ix3, gt_t (by rw [cj]; exact fun z => z.elim ix1 ix4), lt_e, lt_e, nI_1]
  clear c59 aj bj cj ix1 ix3 ix4 z0
  replace h := md_sa h (j := 66) (by decide) (3 * N 59 + 0) (-1)
  generalize sa_ τ (ga_ G 66 0) (3 * N 59 + 0) (-1) = τ at h ⊢
  have c59 : fi_ τ 1659 y = nI (N 59) := by rw [h.2.2.1]; exact e59
  obtain ⟨aj, bj, cj⟩ := mo_a h.1.1 (j := 66) (cj := 1666) (K := 20) (n := 360) (by decide)
  have z1 : ¬ (3 : Int32) ≤ nI (0 + 1) := by decide
  have ix1 : ¬ nI (3 * N 59 + 1) < 0 := nI_pos (by omega)
  have ix3 : (nI (3 * N 59 + 1)).toNatClampNeg = 3 * N 59 + 1 := nI_clamp (by omega)
  have ix4 : ¬ 360 ≤ 3 * N 59 + 1 := by omega
  rw [f_X15_reported_b57, if_neg z1, gt_t (mo_y h.1.1), lt_e, aj, lt_e, c59, nn_s, gt_t bj, show (nI (0 + 1) : Int32) = nI 1 from rfl, three_, ix3, gt_t (by rw [cj]; exact fun z => z.elim ix1 ix4), lt_e, lt_e, nI_1]
  clear c59 aj bj cj ix1 ix3 ix4 z1
  replace h := md_sa h (j := 66) (by decide) (3 * N 59 + 1) (-1)
  generalize sa_ τ (ga_ G 66 0) (3 * N 59 + 1) (-1) = τ at h ⊢
  have c59 : fi_ τ 1659 y = nI (N 59) := by rw [h.2.2.1]; exact e59
  obtain ⟨aj, bj, cj⟩ := mo_a h.1.1 (j := 66) (cj := 1666) (K := 20) (n := 360) (by decide)
  have z2 : ¬ (3 : Int32) ≤ nI (1 + 1) := by decide
  have ix1 : ¬ nI (3 * N 59 + 2) < 0 := nI_pos (by omega)
  have ix3 : (nI (3 * N 59 + 2)).toNatClampNeg = 3 * N 59 + 2 := nI_clamp (by omega)
  have ix4 : ¬ 360 ≤ 3 * N 59 + 2 := by omega
  rw [f_X15_reported_b57, if_neg z2, gt_t (mo_y h.1.1), lt_e, aj, lt_e, c59, nn_s, gt_t bj, show (nI (1 + 1) : Int32) = nI 2 from rfl, three_, ix3, gt_t (by rw [cj]; exact fun z => z.elim ix1 ix4), lt_e, lt_e, nI_1]
  clear c59 aj bj cj ix1 ix3 ix4 z2
  replace h := md_sa h (j := 66) (by decide) (3 * N 59 + 2) (-1)
  generalize sa_ τ (ga_ G 66 0) (3 * N 59 + 2) (-1) = τ at h ⊢
  have c59 : fi_ τ 1659 y = nI (N 59) := by rw [h.2.2.1]; exact e59
  refine ⟨τ, ?_, h⟩
  rw [f_X15_reported_b57, if_pos (show (3 : Int32) ≤ nI (2 + 1) by decide), gt_t (mo_y h.1.1), lt_e, c59, nI_1, lt_e, lt_e, fi_si, up2_s, nI_pred]
end MR68
section C68
variable {ka : Nat → Nat} {TX : Nat → Nat → (Nat → Int32) → Nat → (Nat → Int32) → Prop} {x y o N0 : Nat}
/-- refused, though something was made and thrown away -/
theorem no9_ {n : Nat} {c m s : TH} (hI : inv_ ka TX pv_ x y o N0 n c m) (hs : fq_ (fun _ => False) c s) (hb : nx_ s ≤ nx_ c + 100 ∧ sl_ s ≤ sl_ c + 2000) (v : Int32) (hv : v ≠ 4) : wf_ (si_ s 1214 x v) ∧ wf_ (tr_ (si_ (bm_ m (si_ s 1214 x v)) 1600 y 0) y v) ∧ inv_ ka TX pv_ x y o N0 (n + 1) (bm_ (si_ s 1214 x v) (tr_ (si_ (bm_ m (si_ s 1214 x v)) 1600 y 0) y v)) (tr_ (si_ (bm_ m (si_ s 1214 x v)) 1600 y 0) y v) := by
  obtain ⟨GC, GM, N, k1, k2, k3, k4, k5, k6, k7, k8⟩ := id hI
  have r0 : rc_ ka TX s x GC (as_ m y GM) N := rc_gen k2 hs (fun _ _ => False) (fun r i hi _ z => z) (fun r i mm hi _ h9 => h9) (fun r i hi z => z.elim)
  have r1 := rc_tr r0 (s3_ (aS (as_ m y GM)) v) v hv rfl rfl s3_l
  have f1 : fq_ (fun q => q = x) c (si_ s 1214 x v) := fqi (fq_w hs (fun _ z => z.elim)) rfl
  have h0 := mr_bm (z := si_ s 1214 x v) (mr_of k1) (by rw [k5.1]; exact f1.1.1)
  refine inv_fin hI f1 ⟨?_, ?_⟩ (U := fun q => q = y) (fqt (fqi (fq_rf h0.1.1.1) rfl) rfl) ⟨Nat.le_add_right _ _, Nat.le_add_right _ _⟩ (mr_S (mr_tr (mr_si h0 (j := 0) (c := 1600) (by decide) 0) v) (s3_ (aS (as_ m y GM)) v)) (fun j _ => s3_fi (bm_ m (si_ s 1214 x v)) y v j) r1 k3
  · show nx_ s ≤ _
    omega
  · show sl_ s ≤ _
    omega
theorem w4_eq {A : AS} {V : Nat → Nat → Int32} (h : ∀ j, ¬ j ∈ ([61, 62, 63, 64, 65, 66, 67] : List Nat) → V j = aV A j) : (fun j => if j ∈ ([61, 62, 63, 64, 65, 66, 67] : List Nat) then V j else aV A j) = V := funext fun j => by
  by_cases z : j ∈ ([61, 62, 63, 64, 65, 66, 67] : List Nat)
  · rw [if_pos z]
  · rw [if_neg z, h j z]
theorem k_heard {σ : TH} {G : GH} {A : AS} {N : Nat → Nat} (h : rc_ ka TX σ x G A N) (hm : aS A 6 = nI (N 6)) (hb : N 6 ≤ 5257439) (d s : Int32) : f_X11_isHeard σ x d s = some (bi_ ((0 ≤ d ∧ d ≤ nI (td_ N)) ∧ (0 ≤ s ∧ s ≤ 4)), σ) := by
  have hx := rc_x h
  have n6 := k_now h hm hb
  by_cases z1 : 0 ≤ d ∧ d ≤ nI (td_ N)
  · by_cases z2 : 0 ≤ s ∧ s ≤ 4
    · simp [f_X11_isHeard, f_X11_isHeard_b25, f_X11_isHeard_b26, gt_, lt_, nn_, oc_, bd_, hx, n6, k_within, bi_, z1, z2]
    · simp [f_X11_isHeard, f_X11_isHeard_b25, f_X11_isHeard_b26, gt_, lt_, nn_, oc_, bd_, hx, n6, k_within, bi_, z1, z2]
  · simp [f_X11_isHeard, f_X11_isHeard_b25, f_X11_isHeard_b26, gt_, lt_, nn_, oc_, bd_, hx, n6, k_within, bi_, z1]
theorem keep_no {c s : TH} {G : GH} {A : AS} {N : Nat → Nat} (k2 : rc_ ka TX c x G A N) (hs : fq_ (fun _ => False) c s) (hf : N 59 = 120) (b : Option Nat) : f_X11_keepReport ka s x b = some (-1, si_ s 1214 x 3) := by
  have hx := fq_kd hs (rc_x k2) (by decide)
  have hxl : x < nx_ c := kd_ltn k2.1.1 (rc_x k2) (by decide)
  obtain ⟨r1, r2⟩ := rc_r1203 k2
  have hl := ls_fq (rc_l4 k2 (by omega)) k2.1.1 hs (fun z => z) (fun z => z) k2.2.1.2.2
  have l1 := l_size hl
  have r1 : fr_ s 1203 x = some (ga_ G 4 0) := by rw [fq_fr hs hxl (fun z => z)]; exact r1
  have z : ¬ nI (N 59) < 120 := by rw [hf]; decide
  simp [f_X11_keepReport, gt_, lt_, nn_, oc_, bd_, hx, r1, hl.1, l1, z, k_refused hx]
theorem keep_ok {n : Nat} {c m s : TH} (hI : inv_ ka TX pv_ x y o N0 n c m) {GC GM : GH} {N : Nat → Nat} (k1 : mo_ m y GM N) (k2 : rc_ ka TX c x GC (as_ m y GM) N) (k3 : pv_ (as_ m y GM) N) {p nm d so cm : Int32} {F : Nat} {K W : Nat → Int32} (hr : hr9_ c s p nm d so (nI (N 6)) F cm K W) (hlt : N 59 < 120) : ∃ τ, f_X11_keepReport ka s x (some (nx_ c)) = some (nI (N 59), si_ τ 1214 x 0) ∧ nx_ c ≤ nx_ τ ∧ ∀ (m1 : TH) (U : Nat → Prop) (V : Nat → Nat → Int32), mr_ m1 y GM (s3_ (aS (as_ m y GM)) 0, V, (as_ m y GM).2.2) (fun q => if q = 59 then N 59 + 1 else N q) → fq_ U (bm_ m (si_ τ 1214 x 0)) m1 → (∀ j, j ∈ DS → fi_ m1 (1600 + j) y = s3_ (aS (as_ m y GM)) 0 j) → nx_ m1 = nx_ τ → sl_ m1 = sl_ τ → (∀ j, ¬ j ∈ ([61, 62, 63, 64, 65, 66, 67] : List Nat) → V j = aV (as_ m y GM) j) → ((∀ j, j ∈ ([61, 62, 63, 64, 65] : List Nat) → ∀ i, i ≠ N 59 → V j i = aV (as_ m y GM) j i) ∧ (∀ i, i < 3 * N 59 → V 66 i = aV (as_ m y GM) 66 i ∧ V 67 i = aV (as_ m y GM) 67 i)) → (V 61 (N 59) = p ∧ V 62 (N 59) = nm ∧ V 63 (N 59) = d ∧ V 64 (N 59) = so ∧ V 65 (N 59) = nI (N 6)) → fn9_ (aS (as_ m y GM), V, (as_ m y GM).2.2) (N 59) = F → ((∀ j, j < F → K j = V 66 (3 * N 59 + j)) ∧ ∀ j, j < F → W j = V 67 (3 * N 59 + j)) → pv_ (s3_ (aS (as_ m y GM)) 0, V, (as_ m y GM).2.2) (fun q => if q = 59 then N 59 + 1 else N q) → wf_ (si_ τ 1214 x 0) ∧ wf_ m1 ∧ inv_ ka TX pv_ x y o N0 (n + 1) (bm_ (si_ τ 1214 x 0) m1) m1 := by
  obtain ⟨hs, hkb, ⟨b1, b2, b3, b4, b5, b6, b7, b8⟩, ⟨g4, g5⟩, ⟨g6, g7, g8⟩, ⟨g9, g10, g11⟩, g12, g13⟩ := hr
  have hx := fq_kd hs (rc_x k2) (by decide)
  have hxl : x < nx_ c := kd_ltn k2.1.1 (rc_x k2) (by decide)
  obtain ⟨r1, r2⟩ := rc_r1203 k2
  have hl := ls_fq (rc_l4 k2 (by omega)) k2.1.1 hs (fun z => z) (fun z => z) k2.2.1.2.2
  have l1 := l_size hl
  have r1s : fr_ s 1203 x = some (ga_ GC 4 0) := by rw [fq_fr hs hxl (fun z => z)]; exact r1
  obtain ⟨e1, τ, ad, fq2, bnd, ke1, hee, hl2⟩ := ad_4 k2 (by omega) hs ⟨Nat.le_refl _, hkb⟩
  obtain ⟨x1, x2, x3⟩ := ax_4 k2 hs fq2
  refine ⟨τ, ?_, Nat.le_trans hs.1.1 fq2.1.1, fun m1 U V hmr hfq hS hn1 hn2 hV0 hV hv hF hKW hpv => ?_⟩
  · unfold f_X11_keepReport
    rw [gt_t hx, lt_e, r1s, nn_s, gt_t hl.1, l1, bd_s, if_pos (show nI (N 59) < 120 from nI_c (k := 120) rfl hlt (by decide)), lt_e, r1s, nn_s, gt_t hl.1, ad, bd_s, lt_e, x2, r1, nn_s, gt_t hl2.1, l_size hl2, bd_s, nI_pred, k_granted x1, bd_s]
  · obtain ⟨v1, v2, v3, v4, v5⟩ := hv
    obtain ⟨w1, w2⟩ := rc_c4 (a1 := nx_ c + 1) (a2 := nx_ c + 2) (V := V) k2 k3 hlt hV (F := F) hF hs ⟨by omega, g6, g7⟩ ⟨by omega, g9, g10⟩ ⟨Nat.le_refl _, hkb⟩ (by omega) ⟨b1.trans v1.symm, b2.trans v2.symm, b3.trans v3.symm, b4.trans v4.symm, b5.trans v5.symm, b6, b8, g4, g5, fun j hj => (g8 j hj).trans (hKW.1 j hj), fun j hj => (g11 j hj).trans (hKW.2 j hj)⟩ fq2 ke1 hee hl2
    rw [w4_eq hV0] at w1
    refine inv_fin hI w2 ⟨?_, ?_⟩ hfq ⟨?_, ?_⟩ hmr hS w1 hpv
    · show nx_ τ ≤ nx_ c + 400
      omega
    · show sl_ τ ≤ sl_ c + 6000
      omega
    · rw [hn1]; exact Nat.le_add_right _ _
    · rw [hn2]; exact Nat.le_add_right _ _
theorem ok_report : St_report ka x y (inv_ ka TX pv_ x y o N0) := fun n c m a0 a1 a2 hn hI => by
  obtain ⟨GC, GM, N, k1, k2, k3, k4, k5, k6, k7, k8⟩ := id hI
  have hN := (mo_n k1 (j := 5) (cj := 1605) (m := 30) (by decide)).2
  obtain ⟨e6, hN6⟩ := mo_n k1 (j := 6) (cj := 1606) (m := 5257439) (by decide)
  have hb : mr_ (bm_ m c) y GM (as_ m y GM) N := mr_bm (mr_of k1) (Nat.le_of_eq k5.1)
  have hx := rc_x k2
  obtain ⟨e59, hN59⟩ := mo_n k1 (j := 59) (cj := 1659) (m := 120) (by decide)
  have n0 : kd_ c (nx_ c) = 0 := wf_0 k2.1.1 (Nat.le_refl _)
  have q13 : fi_ c 1213 x = nI (N 6) := (rc_f0 k2).2.2.2.1.trans e6
  have hxn : x ≠ nx_ c := Nat.ne_of_lt (kd_ltn k2.1.1 hx (by decide))
  have q13n : fi_ (nw_ c 9 0 10) 1213 x = nI (N 6) := by rw [fi_nwn hxn]; exact q13
  have kh := k_heard k2 e6 hN6 a1 a2
  rcases rg_ a0 (n := N 5) (by omega) with ⟨p, hp, rfl⟩ | hout
  · obtain ⟨p1, p2⟩ := k_person1 k2 hN hp
    by_cases z : (0 ≤ a1 ∧ a1 ≤ nI (td_ N)) ∧ (0 ≤ a2 ∧ a2 ≤ 4)
    · rw [bi_t z] at kh
      obtain ⟨z1, z2⟩ := z
      obtain ⟨s, hin, hr⟩ := mk_report k2.1.1 (nI p) (-1) a1 a2 (nI (N 6))
      have hc : ∀ r, f_X11_keepReport ka s x (some (nx_ c)) = some r → f_X11_report ka c x (nI p) a1 a2 = some r := fun r h9 => by
        unfold f_X11_report
        rw [gt_t hx, p1, bd_s, oc_s, kh, bd_s, if_neg (by decide), gt_t n0, lt_e, lt_e, lt_e, q13n, hin, bd_s, h9]
        obtain ⟨r1, r2⟩ := r
        rfl
      by_cases hf : N 59 = 120
      · refine ⟨-1, si_ s 1214 x 3, tr_ (si_ (bm_ m (si_ s 1214 x 3)) 1600 y 0) y 3, hc _ (keep_no k2 hr.1 hf _), ?_, no9_ hI hr.1 (by have := hr.2.2.2.2.2.2; omega) 3 (by decide)⟩
        have h1 := mr_si (mr_bm (z := si_ s 1214 x 3) (mr_of k1) (by rw [k5.1]; exact hr.1.1.1)) (j := 0) (c := 1600) (by decide) 0
        unfold f_X15_report
        rw [gt_t (mo_yb k1), lt_e]
        generalize si_ (bm_ m (si_ s 1214 x 3)) 1600 y 0 = σ at h1 ⊢
        have ec := (mo_n h1.1 (j := 59) (cj := 1659) (m := 120) (by decide)).1
        rw [hf] at ec
        simp [gt_, lt_, nn_, oc_, bd_, m_isPerson1 h1.1 hp, m_today2 h1, m_in, bi_, z1, z2, ec, show nI 120 = 120 from rfl, m_refused (mo_y h1.1)]
      · have hlt : N 59 < 120 := by omega
        obtain ⟨τ, kk, hnx, hfin⟩ := keep_ok hI k1 k2 k3 hr hlt
        have h0 := mr_bm (z := si_ τ 1214 x 0) (mr_of k1) (by rw [k5.1]; exact hnx)
        have h1 := mr_si h0 (j := 0) (c := 1600) (by decide) 0
        obtain ⟨ρ, hrep, hmd⟩ := m_reported h1 hlt (nI p) (-1) a1 a2
        obtain ⟨m1, hm1⟩ : ∃ m1, m1 = tr_ (si_ ρ 1659 y (nI (N 59 + 1))) y 0 := ⟨_, rfl⟩
        have g1 : f_X15_report (bm_ m (si_ τ 1214 x 0)) y (nI p) a1 a2 = some (nI (N 59), m1) := by
          rw [hm1]
          unfold f_X15_report
          rw [gt_t (mo_yb k1), lt_e]
          have hy2 := mo_y hmd.1.1
          generalize si_ (bm_ m (si_ τ 1214 x 0)) 1600 y 0 = σ at h1 hrep ⊢
          have ec := (mo_n h1.1 (j := 59) (cj := 1659) (m := 120) (by decide)).1
          have g6 : ¬ nI (N 59) = 120 := nI_cn (k := 120) rfl (by omega) (by omega) (by decide)
          simp [gt_, lt_, nn_, oc_, bd_, m_isPerson1 h1.1 hp, m_today2 h1, m_in, bi_, z1, z2, ec, g6, hrep, mo_y h1.1, m_done (σ := si_ ρ 1659 y (nI (N 59 + 1))) hy2]
        have hj4 : ∀ j, j ∈ DS → j ≠ 59 := by decide
        refine ⟨nI (N 59), si_ τ 1214 x 0, m1, hc _ kk, g1, hfin m1 (fun q => q = y ∨ ∃ j, j ∈ MA ∧ q = ga_ GM j 0) (up2_ (up2_ (up2_ (up2_ (up2_ (up2_ (up2_ (up2_ (aV (as_ m y GM)) 61 (N 59) (nI p)) 62 (N 59) (-1)) 63 (N 59) a1) 64 (N 59) a2) 65 (N 59) (nI (N 6))) 66 (3 * N 59 + 0) (-1)) 66 (3 * N 59 + 1) (-1)) 66 (3 * N 59 + 2) (-1)) ?_ ?_ (fun j hj => ?_) ?_ ?_ ?_ ?_ ?_ ?_ ?_ ?_⟩
        · rw [hm1]
          exact mr_S (mr_tr (mr_sn hmd.1 59 1659 (N 59 + 1) (by decide) (by show N 59 + 1 ≤ 120; omega)) 0) _
        · rw [hm1]
          exact fqt (fqi (fq_tr (fqi (fq_rf h0.1.1.1) (Or.inl rfl)) hmd.2.1) (Or.inl rfl)) (Or.inl rfl)
        · rw [hm1]
          exact s3_fi2 (σ := bm_ m (si_ τ 1214 x 0)) hmd.2.2.1 rfl (hj4 j hj)
        · rw [hm1]; exact hmd.2.2.2.1
        · rw [hm1]; exact hmd.2.2.2.2
        · exact (fun j hj => by
            simp only [List.mem_cons, List.not_mem_nil, or_false, not_or] at hj
            obtain ⟨j1, j2, j3, j4, j5, j6, j7⟩ := hj
            funext i
            simp [up2_e, j1, j2, j3, j4, j5, j6, j7])
        · exact ⟨fun j hj i hi => by
            simp only [List.mem_cons, List.not_mem_nil, or_false] at hj
            rcases hj with rfl | rfl | rfl | rfl | rfl <;> simp [up2_e, hi], fun i hi => by
            have n0 : ¬ i = 3 * N 59 := by omega
            have n1 : ¬ i = 3 * N 59 + 1 := by omega
            have n2 : ¬ i = 3 * N 59 + 2 := by omega
            simp [up2_e, n0, n1, n2]⟩
        · simp [up2_e]
        · simp [fn9_, up2_e, aV]
        · exact ⟨fun j hj => by omega, fun j hj => by omega⟩
        · have hpv := pv_c4 (S := s3_ (aS (as_ m y GM)) 0) (V := up2_ (up2_ (up2_ (up2_ (up2_ (up2_ (up2_ (up2_ (aV (as_ m y GM)) 61 (N 59) (nI p)) 62 (N 59) (-1)) 63 (N 59) a1) 64 (N 59) a2) 65 (N 59) (nI (N 6))) 66 (3 * N 59 + 0) (-1)) 66 (3 * N 59 + 1) (-1)) 66 (3 * N 59 + 2) (-1)) k3 hN6 ⟨fun j hj i hi => by
              simp only [List.mem_cons, List.not_mem_nil, or_false] at hj
              rcases hj with rfl | rfl | rfl | rfl | rfl <;> simp [up2_e, hi], fun i hi => by
              have n0 : ¬ i = 3 * N 59 := by omega
              have n1 : ¬ i = 3 * N 59 + 1 := by omega
              have n2 : ¬ i = 3 * N 59 + 2 := by omega
              simp [up2_e, n0, n1, n2]⟩ (Or.inr ⟨p, hp, by simp [up2_e]⟩) (by
            obtain ⟨j, hj, rfl⟩ := nI_of (Int32.not_lt.mpr z1.1)
            have htd : td_ N < 2 ^ 31 := Nat.lt_of_le_of_lt (Nat.div_le_self _ _) (by omega)
            exact ⟨j, (nI_leI hj htd).mp z1.2, by simp [up2_e]⟩) (by
            obtain ⟨j, hj, e⟩ := nI_of2 (M := 4) (n := 4) (by decide) (Int32.not_lt.mpr z2.1) z2.2
            exact ⟨j, by omega, by rw [← e]; simp [up2_e]⟩) (by simp [up2_e]) (fun j hj => by rcases lt3_ hj with rfl | rfl | rfl <;> simp [up2_e]) (by simp [up2_e]) (by simp [up2_e])
          rw [w4_eq (fun j hj => by
              simp only [List.mem_cons, List.not_mem_nil, or_false, not_or] at hj
              obtain ⟨j1, j2, j3, j4, j5, j6, j7⟩ := hj
              funext i
              simp [up2_e, j1, j2, j3, j4, j5, j6, j7])] at hpv
          exact hpv
    · have kz := bi_f z
      rw [kz] at kh
      refine ⟨-1, si_ c 1214 x 2, tr_ (si_ (bm_ m (si_ c 1214 x 2)) 1600 y 0) y 2, ?_, ?_, no_ pv_S hI 2 (by decide)⟩
      · simp [f_X11_report, gt_, lt_, nn_, oc_, bd_, hx, p1, kh, k_refused hx]
      · have h1 := mr_si (mr_bm (z := si_ c 1214 x 2) (mr_of k1) (Nat.le_of_eq k5.1)) (j := 0) (c := 1600) (by decide) 0
        unfold f_X15_report
        rw [gt_t (show kd_ (bm_ m (si_ c 1214 x 2)) y = 17 from mo_yb k1), lt_e]
        generalize si_ (bm_ m (si_ c 1214 x 2)) 1600 y 0 = σ at h1 ⊢
        have hy := mo_y h1.1
        have hr := m_refused hy 2
        rw [m_isPerson1 h1.1 hp, bd_s, if_neg (by decide), m_today2 h1, bd_s, m_in, bd_s]
        by_cases z1 : 0 ≤ a1 ∧ a1 ≤ nI (td_ N)
        · have z2 : ¬ (0 ≤ a2 ∧ a2 ≤ 4) := fun q => z ⟨z1, q⟩
          simp [f_X15_report_b40, gt_, lt_, nn_, oc_, bd_, m_in, bi_, z1, z2, hy, hr]
        · simp [f_X15_report_b40, gt_, lt_, nn_, oc_, bd_, bi_, z1, hy, hr]
  · skip
    refine ⟨-1, si_ c 1214 x 1, tr_ (si_ (bm_ m (si_ c 1214 x 1)) 1600 y 0) y 1, ?_, ?_, no_ pv_S hI 1 (by decide)⟩
    · simp [f_X11_report, gt_, lt_, nn_, oc_, bd_, hx, k_person0 k2 hN hout, k_refused hx]
    · have h1 := mr_si (mr_bm (z := si_ c 1214 x 1) (mr_of k1) (Nat.le_of_eq k5.1)) (j := 0) (c := 1600) (by decide) 0
      unfold f_X15_report
      rw [gt_t (show kd_ (bm_ m (si_ c 1214 x 1)) y = 17 from mo_yb k1), lt_e]
      generalize si_ (bm_ m (si_ c 1214 x 1)) 1600 y 0 = σ at h1 ⊢
      simp [gt_, lt_, nn_, oc_, bd_, m_isPerson0 h1.1 hout, m_refused (mo_y h1.1)]
end C68
