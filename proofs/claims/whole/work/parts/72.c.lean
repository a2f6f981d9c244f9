/-! CALLS: out, feed. Written by wip/b/mk72.py. -/
theorem KC_23 : ∀ r, KC r ≠ 23 := fun r => by
  by_cases h : r < 59
  · have : ∀ r, r < 59 → KC r ≠ 23 := by decide
    exact this r h
  · have : KC r = 0 := by
      unfold KC
      rw [List.getD_eq_getElem?_getD, List.getElem?_eq_none (by simp; omega)]
      rfl
    rw [this]; decide
theorem fq_nq {σ : TH} (h : wf_ σ) {T : Nat → Prop} : fq_ T σ (nq_ σ) := ⟨tl_nq σ, ⟨h.1, fun a ha => ⟨Nat.lt_succ_of_lt (h.2 a ha).1, (h.2 a ha).2⟩⟩, fun _ _ _ => rfl⟩
section C72
variable {ka : Nat → Nat} {TX : Nat → Nat → (Nat → Int32) → Nat → (Nat → Int32) → Prop} {x y o N0 : Nat}
theorem k_bytes {σ : TH} {G : GH} {A : AS} {N : Nat → Nat} (h : rc_ ka TX σ x G A N) : fr_ σ 1209 x = some (ga_ G 14 0) ∧ kd_ σ (ga_ G 14 0) = 6 ∧ fr_ σ 501 (ga_ G 14 0) = some (ga_ G 16 0) ∧ kd_ σ (ga_ G 16 0) = 21 ∧ ln_ σ (ga_ G 16 0) = 1024 ∧ N 42 ≤ 1024 ∧ ∀ j, j < N 42 → ai_ σ (ga_ G 16 0) j = aV A 28 j := by
  obtain ⟨e1, e2⟩ := rc_r1209 h
  obtain ⟨-, q⟩ := h.2.2.2 14 0 (rc_1 h (by decide))
  obtain ⟨k1, -, k3, -⟩ := h.1.2 16 0 (rc_1 h (by decide))
  exact ⟨e1, e2, q, k1, k3 (by decide), h.2.2.2 16 0 (rc_1 h (by decide))⟩
theorem ok_out : St_out ka x y o (inv_ ka TX pv_ x y o N0) := fun n c m a0 hn hI => by
  obtain ⟨GC, GM, N, k1, k2, k3, k4, k5, k6, k7, k8⟩ := id hI
  have hx := rc_x k2
  obtain ⟨e42, hN42⟩ := mo_n k1 (j := 42) (cj := 1642) (m := 1200) (by decide)
  obtain ⟨b1, b2, b3, b4, b5, b6, b7⟩ := k_bytes k2
  have q15 : fi_ c 1215 x = nI (N 42) := (rc_f0 k2).2.2.2.2.2.1.trans e42
  have hj0 : ∀ j, j ∈ DS → j ≠ 0 := by decide
  rcases rg_ a0 (n := N 42) (by omega) with ⟨i, hi, rfl⟩ | hout
  · have g1 : ¬ nI i < 0 := nI_pos (by omega)
    have g2 : ¬ nI (N 42) ≤ nI i := nI_ge hi (by omega)
    have g3 : (nI i).toNatClampNeg = i := nI_clamp (by omega)
    have g4 : ¬ 1024 ≤ i := by omega
    have g5 : nI i < 1024 := nI_c (k := 1024) rfl (by omega) (by decide)
    have b7 := b7 i hi
    have z0 : (0 : Int32).toNatClampNeg = 0 := by decide
    have fo : fq_ (fun q => q = o) c (sj_ c o 0 (Int32.toInt64 (aV (as_ m y GM) 28 i))) := fq_sj k2.1.1 rfl
    have r1 : rc_ ka TX (sj_ c o 0 (Int32.toInt64 (aV (as_ m y GM) 28 i))) x GC (as_ m y GM) N := rc_gen k2 fo (fun _ _ => False) (fun r j hj _ z => by
      have := (k2.1.2 r j hj).1
      rw [z, k6.1] at this
      exact KC_23 r this.symm) (fun r j mm hj _ h9 => h9) (fun r j hj z => z.elim)
    have h0 := mr_bm (z := sj_ c o 0 (Int32.toInt64 (aV (as_ m y GM) 28 i))) (mr_of k1) (Nat.le_of_eq k5.1)
    have h1 := mr_si h0 (j := 0) (c := 1600) (by decide) 0
    refine ⟨0, aV (as_ m y GM) 28 i, _, si_ (bm_ m (sj_ c o 0 (Int32.toInt64 (aV (as_ m y GM) 28 i)))) 1600 y 0, si_ (bm_ m (sj_ c o 0 (Int32.toInt64 (aV (as_ m y GM) 28 i)))) 1600 y 0, ?_, ?_, ?_, fo.2.1, h1.1.1.1, h1.1.1.1, fun _ => ?_, (inv_fin hI fo ⟨Nat.le_add_right _ _, Nat.le_add_right _ _⟩ (U := fun q => q = y) (fqi (fq_rf h0.1.1.1) rfl) ⟨Nat.le_add_right _ _, Nat.le_add_right _ _⟩ h1 (fun j hj => ?_) r1 k3).2.2⟩
    · simp [f_L_out, f_X11_out, gt_, lt_, nn_, oc_, bd_, bc_, hx, g1, q15, g2, b1, b2, b3, b4, b5, g5, g3, g4, b7, k6.1, k6.2, z0]
    · have f42 : fi_ (bm_ m (sj_ c o 0 (Int32.toInt64 (aV (as_ m y GM) 28 i)))) 1642 y = nI (N 42) := e42
      have gl : nI i < nI (N 42) := nI_lt hi (by omega)
      obtain ⟨a28, b28, c28⟩ := mo_a h1.1 (j := 28) (cj := 1628) (K := 21) (n := 1200) (by decide)
      have v28 := mr_V h1 (j := 28) (by decide) i
      have hy1 := mo_y h1.1
      have f0 : fi_ (si_ (bm_ m (sj_ c o 0 (Int32.toInt64 (aV (as_ m y GM) 28 i)))) 1600 y 0) 1600 y = 0 := by rw [fi_si, up2_s]
      have hy0 : kd_ (bm_ m (sj_ c o 0 (Int32.toInt64 (aV (as_ m y GM) 28 i)))) y = 17 := mo_yb k1
      unfold f_X15_out
      rw [if_neg g1, gt_t hy0, lt_e, f42, if_pos gl]
      unfold f_X15_out_b18
      rw [nn_s, gt_t hy0, lt_e]
      generalize si_ (bm_ m (sj_ c o 0 (Int32.toInt64 (aV (as_ m y GM) 28 i)))) 1600 y 0 = σ at a28 b28 c28 v28 hy1 f0 ⊢
      have g9 : ¬ 1200 ≤ i := by omega
      simp [f_X15_out_b38, gt_, lt_, nn_, oc_, bd_, hy1, f0, a28, b28, c28, g1, g3, g9, v28]
    · simp [f_X15_thrown, gt_t (show kd_ (si_ (bm_ m (sj_ c o 0 (Int32.toInt64 (aV (as_ m y GM) 28 i)))) 1600 y 0) y = 17 from mo_y h1.1), lt_, fi_si, up2_s]
    · show up2_ (al_ c) o 0 (Int32.toInt64 (aV (as_ m y GM) 28 i)) o 0 = _
      exact up2_s
    · rw [fi_si, up2_c (show 1600 + j ≠ 1600 by have := hj0 j hj; omega)]
      rfl
  · have fo : fq_ (fun _ => False) c (nq_ c) := fq_nq k2.1.1
    have r1 : rc_ ka TX (nq_ c) x GC (as_ m y GM) N := rc_gen k2 fo (fun _ _ => False) (fun r j hj _ z => z) (fun r j mm hj _ h9 => h9) (fun r j hj z => z.elim)
    have h0 := mr_bm (z := nq_ c) (mr_of k1) (by rw [k5.1]; exact fo.1.1)
    have h1 := mr_si h0 (j := 0) (c := 1600) (by decide) 1
    have n0 : kd_ c (nx_ c) = 0 := wf_0 k2.1.1 (Nat.le_refl _)
    have hk16 : ¬ kd_ (nq_ c) (nx_ c) = 16 := by
      show ¬ kd_ c (nx_ c) = 16
      rw [n0]; decide
    refine ⟨1, 0, nq_ c, si_ (bm_ m (nq_ c)) 1600 y 1, si_ (bm_ m (nq_ c)) 1600 y 1, ?_, ?_, ?_, fo.2.1, h1.1.1.1, h1.1.1.1, fun z => absurd z (by decide), (inv_fin hI fo ⟨by show nx_ c + 1 ≤ _; omega, by show sl_ c + 6 ≤ _; omega⟩ (U := fun q => q = y) (fqi (fq_rf h0.1.1.1) rfl) ⟨Nat.le_add_right _ _, Nat.le_add_right _ _⟩ h1 (fun j hj => ?_) r1 k3).2.2⟩
    · by_cases g1 : a0 < 0
      · simp [f_L_out, f_X11_out, f_X11_out_b24, gt_, lt_, nn_, oc_, bd_, bc_, hx, g1, hk16]
      · have g2 := hout.resolve_left g1
        simp [f_L_out, f_X11_out, f_X11_out_b24, gt_, lt_, nn_, oc_, bd_, bc_, hx, g1, q15, g2, hk16]
    · have hy0 : kd_ (bm_ m (nq_ c)) y = 17 := mo_yb k1
      have f42 : fi_ (bm_ m (nq_ c)) 1642 y = nI (N 42) := e42
      have hb13 : f_X15_out_b13 (bm_ m (nq_ c)) y a0 (some y) = some (0, si_ (bm_ m (nq_ c)) 1600 y 1) := by
        have f0 : fi_ (si_ (bm_ m (nq_ c)) 1600 y 1) 1600 y = 1 := by rw [fi_si, up2_s]
        have hy1 : kd_ (si_ (bm_ m (nq_ c)) 1600 y 1) y = 17 := hy0
        unfold f_X15_out_b13 f_X15_out_b18
        rw [nn_s, gt_t hy0, lt_e, gt_t hy1, lt_e, f0, if_neg (by decide)]
        rfl
      unfold f_X15_out
      by_cases g1 : a0 < 0
      · rw [if_pos g1, hb13]
      · have g2 : ¬ a0 < nI (N 42) := fun z => absurd z (Int32.not_lt.mpr (hout.resolve_left g1))
        rw [if_neg g1, gt_t hy0, lt_e, f42, if_neg g2, hb13]
    · simp [f_X15_thrown, gt_t (show kd_ (si_ (bm_ m (nq_ c)) 1600 y 1) y = 17 from mo_y h1.1), lt_, fi_si, up2_s]
    · rw [fi_si, up2_c (show 1600 + j ≠ 1600 by have := hj0 j hj; omega)]
      rfl
end C72
