/-! THE INVARIANT of the law's loop; how a call keeps it; the plain questions. Written by wip/b/mk44.py. -/
/-- the sober truths PV speak of no single whole number -/
def pvS_ (PV : AS → (Nat → Nat) → Prop) : Prop := ∀ (A : AS) (N : Nat → Nat) (S : Nat → Int32), PV A N → PV (S, A.2) N
section INV
variable (ka : Nat → Nat) (TX : Nat → Nat → (Nat → Int32) → Nat → (Nat → Int32) → Prop) (PV : AS → (Nat → Nat) → Prop) (x y o N0 : Nat)
def inv_ (n : Nat) (c m : TH) : Prop := ∃ (GC GM : GH) (N : Nat → Nat), mo_ m y GM N ∧ rc_ ka TX c x GC (as_ m y GM) N ∧ PV (as_ m y GM) N ∧ sp_ c m ∧ (nx_ m = nx_ c ∧ sl_ m = sl_ c) ∧ (kd_ c o = 23 ∧ ln_ c o = 1) ∧ nx_ c ≤ N0 + 1000 * (n + 1) ∧ sl_ c ≤ 0 + 14000 * (n + 1)
variable {ka TX PV x y o N0}
theorem inv_iv : iv_ x y o N0 0 (inv_ ka TX PV x y o N0) := fun n c m h => by
  obtain ⟨GC, GM, N, h1, h2, h3, h4, h5, h6, h7, h8⟩ := h
  exact ⟨h2.1.1, h1.1.1, h4, h5.1, h5.2, rc_x h2, mo_y h1, h6.1, h6.2, h7, h8⟩
theorem inv_mono : ∀ n c m, inv_ ka TX PV x y o N0 n c m → inv_ ka TX PV x y o N0 (n + 1) c m := fun n c m h => by
  obtain ⟨GC, GM, N, h1, h2, h3, h4, h5, h6, h7, h8⟩ := h
  exact ⟨GC, GM, N, h1, h2, h3, h4, h5, h6, Nat.le_trans h7 (Nat.add_le_add_left (Nat.mul_le_mul_left 1000 (Nat.le_succ _)) _), Nat.le_trans h8 (Nat.add_le_add_left (Nat.mul_le_mul_left 14000 (Nat.le_succ _)) _)⟩
theorem mo_bm {m z : TH} {y : Nat} {G : GH} {N : Nat → Nat} (h : mo_ m y G N) (hn : nx_ m ≤ nx_ z) : mo_ (bm_ m z) y G N := ⟨sh_bm h.1 hn, h.2.1, h.2.2.1, h.2.2.2⟩
/-- a call is behind: the class's side changed cells of T, the reference's cells of U -/
theorem inv_mk {n : Nat} {c m c1 m1 : TH} (hI : inv_ ka TX PV x y o N0 n c m) {T U : Nat → Prop} (f1 : fq_ T c c1) (b1 : nx_ c1 ≤ nx_ c + 400 ∧ sl_ c1 ≤ sl_ c + 6000) (f2 : fq_ U (bm_ m c1) m1) (b2 : nx_ m1 ≤ nx_ c1 + 400 ∧ sl_ m1 ≤ sl_ c1 + 6000) {GC GM : GH} {N : Nat → Nat} (h1 : mo_ m1 y GM N) (h2 : rc_ ka TX c1 x GC (as_ m1 y GM) N) (h3 : PV (as_ m1 y GM) N) : wf_ c1 ∧ wf_ m1 ∧ inv_ ka TX PV x y o N0 (n + 1) (bm_ c1 m1) m1 := by
  obtain ⟨GC0, GM0, N1, k1, k2, k3, k4, k5, k6, k7, k8⟩ := hI
  have w1 := k2.1.1
  have w2 := k1.1.1
  have s1 := sp_z w1 w2 k4 k5.1 f1.2.1 f1.1
  have w3 : wf_ (bm_ m c1) := wf_bm w2 (by rw [k5.1]; exact f1.1.1)
  have s2 := sp_zm f1.2.1 w3 s1 rfl f2.2.1 f2.1
  have n2 : nx_ c1 ≤ nx_ m1 := f2.1.1
  have ho := f1.1.2.2.2.2 o (by rw [k6.1]; decide)
  refine ⟨f1.2.1, f2.2.1, GC, GM, N, h1, rc_bm h2 n2, h3, s2, ⟨rfl, rfl⟩, ⟨ho.1.trans k6.1, ho.2.trans k6.2⟩, ?_, ?_⟩
  · show nx_ m1 ≤ N0 + 1000 * (n + 1 + 1)
    have e : 1000 * (n + 1 + 1) = 1000 * (n + 1) + 1000 := Nat.mul_succ _ _
    rw [e]
    omega
  · show sl_ m1 ≤ 0 + 14000 * (n + 1 + 1)
    have e : 14000 * (n + 1 + 1) = 14000 * (n + 1) + 14000 := Nat.mul_succ _ _
    rw [e]
    omega
theorem rc_f0 {σ : TH} {x : Nat} {G : GH} {A : AS} {N : Nat → Nat} (h : rc_ ka TX σ x G A N) : ob_ ka TX A G N 0 0 (ce_ σ x) := by
  have := h.2.2.2 0 0 (rc_1 h (by decide))
  rw [h.2.1.1] at this
  exact this
/-- a question whose answer both hold as a whole number: cj the class's field, j the reference's -/
theorem ask_ {n : Nat} {c m : TH} (hI : inv_ ka TX PV x y o N0 n c m) (hPV : pvS_ PV) : wf_ c ∧ wf_ (si_ (bm_ m c) 1600 y 0) ∧ inv_ ka TX PV x y o N0 (n + 1) (bm_ c (si_ (bm_ m c) 1600 y 0)) (si_ (bm_ m c) 1600 y 0) := by
  obtain ⟨GC, GM, N, k1, k2, k3, k4, k5, k6, k7, k8⟩ := id hI
  have hb := mo_bm k1 (z := c) (Nat.le_of_eq k5.1)
  have e := as_si (bm_ m c) y GM 0 1600 0 rfl
  rw [as_bm] at e
  refine inv_mk (T := fun _ => False) (U := fun q => q = y) hI (fq_rf k2.1.1) ⟨Nat.le_add_right _ _, Nat.le_add_right _ _⟩ (fq_si hb.1.1 rfl) ⟨Nat.le_add_right _ _, Nat.le_add_right _ _⟩ (GC := GC) (GM := GM) (N := N) (mo_si hb (by decide)) ?_ ?_
  · rw [e]
    exact rc_S (by intro j hj; have : j ≠ 0 := fun z => by subst z; revert hj; decide
                   exact if_neg this) k2
  · rw [e]
    exact hPV _ _ _ k3
theorem ok_trouble (hPV : pvS_ PV) : St_trouble ka x y (inv_ ka TX PV x y o N0) := fun n c m hn hI => by
  obtain ⟨GC, GM, N, k1, k2, k3, k4, k5, k6, k7, k8⟩ := id hI
  have hx := rc_x k2
  have hy := mo_y k1
  obtain ⟨-, -, -, -, q, -⟩ := rc_f0 k2
  refine ⟨fi_ c 1214 x, c, si_ (bm_ m c) 1600 y 0, ?_, ?_, ask_ hI hPV⟩
  · simp [f_X11_trouble, gt_, lt_, nn_, oc_, bd_, hx]
  · have q' : fi_ c 1214 x = fi_ m 1601 y := q
    simp [f_X15_trouble, gt_t (show kd_ (bm_ m c) y = 17 from hy), lt_, kd_si, ln_si, fi_si, fr_si, fl_si, ai_si, ar_si, al_si, ow_si, nx_si, sl_si, kd_sr, ln_sr, fi_sr, fr_sr, fl_sr, ai_sr, ar_sr, al_sr, ow_sr, nx_sr, sl_sr, kd_so, ln_so, fi_so, fr_so, fl_so, ai_so, ar_so, al_so, ow_so, nx_so, sl_so, kd_sa, ln_sa, fi_sa, fr_sa, fl_sa, ai_sa, ar_sa, al_sa, ow_sa, nx_sa, sl_sa, kd_sq, ln_sq, fi_sq, fr_sq, fl_sq, ai_sq, ar_sq, al_sq, ow_sq, nx_sq, sl_sq, kd_sj, ln_sj, fi_sj, fr_sj, fl_sj, ai_sj, ar_sj, al_sj, ow_sj, nx_sj, sl_sj, up2_e, q']
    rfl
theorem ok_takes (hPV : pvS_ PV) : St_takes ka x y (inv_ ka TX PV x y o N0) := fun n c m hn hI => by
  obtain ⟨GC, GM, N, k1, k2, k3, k4, k5, k6, k7, k8⟩ := id hI
  have hx := rc_x k2
  have hy := mo_y k1
  obtain ⟨-, -, -, -, -, -, -, -, q⟩ := rc_f0 k2
  refine ⟨fi_ c 1219 x, c, si_ (bm_ m c) 1600 y 0, ?_, ?_, ask_ hI hPV⟩
  · simp [f_X11_takes, gt_, lt_, nn_, oc_, bd_, hx]
  · have q' : fi_ c 1219 x = fi_ m 1687 y := q
    simp [f_X15_takes, gt_t (show kd_ (bm_ m c) y = 17 from hy), lt_, kd_si, ln_si, fi_si, fr_si, fl_si, ai_si, ar_si, al_si, ow_si, nx_si, sl_si, kd_sr, ln_sr, fi_sr, fr_sr, fl_sr, ai_sr, ar_sr, al_sr, ow_sr, nx_sr, sl_sr, kd_so, ln_so, fi_so, fr_so, fl_so, ai_so, ar_so, al_so, ow_so, nx_so, sl_so, kd_sa, ln_sa, fi_sa, fr_sa, fl_sa, ai_sa, ar_sa, al_sa, ow_sa, nx_sa, sl_sa, kd_sq, ln_sq, fi_sq, fr_sq, fl_sq, ai_sq, ar_sq, al_sq, ow_sq, nx_sq, sl_sq, kd_sj, ln_sj, fi_sj, fr_sj, fl_sj, ai_sj, ar_sj, al_sj, ow_sj, nx_sj, sl_sj, up2_e, q']
    rfl
theorem ok_cutOf (hPV : pvS_ PV) : St_cutOf ka x y (inv_ ka TX PV x y o N0) := fun n c m hn hI => by
  obtain ⟨GC, GM, N, k1, k2, k3, k4, k5, k6, k7, k8⟩ := id hI
  have hx := rc_x k2
  have hy := mo_y k1
  obtain ⟨-, -, -, -, -, -, q, -⟩ := rc_f0 k2
  refine ⟨fi_ c 1216 x, c, si_ (bm_ m c) 1600 y 0, ?_, ?_, ask_ hI hPV⟩
  · simp [f_X11_cutOf, gt_, lt_, nn_, oc_, bd_, hx]
  · have q' : fi_ c 1216 x = fi_ m 1656 y := q
    simp [f_X15_cutOf, gt_t (show kd_ (bm_ m c) y = 17 from hy), lt_, kd_si, ln_si, fi_si, fr_si, fl_si, ai_si, ar_si, al_si, ow_si, nx_si, sl_si, kd_sr, ln_sr, fi_sr, fr_sr, fl_sr, ai_sr, ar_sr, al_sr, ow_sr, nx_sr, sl_sr, kd_so, ln_so, fi_so, fr_so, fl_so, ai_so, ar_so, al_so, ow_so, nx_so, sl_so, kd_sa, ln_sa, fi_sa, fr_sa, fl_sa, ai_sa, ar_sa, al_sa, ow_sa, nx_sa, sl_sa, kd_sq, ln_sq, fi_sq, fr_sq, fl_sq, ai_sq, ar_sq, al_sq, ow_sq, nx_sq, sl_sq, kd_sj, ln_sj, fi_sj, fr_sj, fl_sj, ai_sj, ar_sj, al_sj, ow_sj, nx_sj, sl_sj, up2_e, q']
    rfl
theorem ok_cutLong (hPV : pvS_ PV) : St_cutLong ka x y (inv_ ka TX PV x y o N0) := fun n c m hn hI => by
  obtain ⟨GC, GM, N, k1, k2, k3, k4, k5, k6, k7, k8⟩ := id hI
  have hx := rc_x k2
  have hy := mo_y k1
  obtain ⟨-, -, -, -, -, -, -, q, -⟩ := rc_f0 k2
  refine ⟨fi_ c 1217 x, c, si_ (bm_ m c) 1600 y 0, ?_, ?_, ask_ hI hPV⟩
  · simp [f_X11_cutLong, gt_, lt_, nn_, oc_, bd_, hx]
  · have q' : fi_ c 1217 x = fi_ m 1657 y := q
    simp [f_X15_cutLong, gt_t (show kd_ (bm_ m c) y = 17 from hy), lt_, kd_si, ln_si, fi_si, fr_si, fl_si, ai_si, ar_si, al_si, ow_si, nx_si, sl_si, kd_sr, ln_sr, fi_sr, fr_sr, fl_sr, ai_sr, ar_sr, al_sr, ow_sr, nx_sr, sl_sr, kd_so, ln_so, fi_so, fr_so, fl_so, ai_so, ar_so, al_so, ow_so, nx_so, sl_so, kd_sa, ln_sa, fi_sa, fr_sa, fl_sa, ai_sa, ar_sa, al_sa, ow_sa, nx_sa, sl_sa, kd_sq, ln_sq, fi_sq, fr_sq, fl_sq, ai_sq, ar_sq, al_sq, ow_sq, nx_sq, sl_sq, kd_sj, ln_sj, fi_sj, fr_sj, fl_sj, ai_sj, ar_sj, al_sj, ow_sj, nx_sj, sl_sj, up2_e, q']
    rfl
end INV
