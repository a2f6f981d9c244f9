/-! CALLS: cut. Written by wip/b/mk99zx.py. -/
section CU9
variable {ka : Nat → Nat} {x y o N0 : Nat}
theorem lim9_ {a : Int32} (h : (0 : Int32) ≤ a ∧ a ≤ 4000) : 0 ≤ a.toInt ∧ a.toInt ≤ 10000000 := by
  have h1 := Int32.le_iff_toInt_le.mp h.1
  have h2 := Int32.le_iff_toInt_le.mp h.2
  have e1 : (0 : Int32).toInt = 0 := by decide
  have e2 : (4000 : Int32).toInt = 4000 := by decide
  rw [e1] at h1
  rw [e2] at h2
  omega
theorem kT8_x {G : GH} {A : AS} {N : Nat → Nat} {c : TH} (h : rc_ ka TXp_ c x G A N) : ¬ kT8_ G x := fun q => by
  have hx0 : ∀ r i, i < gc_ G r → r ≠ 0 → ¬ x = ga_ G r i := fun r i hi hr e => rc_nx h hi hr e.symm
  have f : ∀ {r}, r ∈ ([0, 1, 2, 3, 4, 5, 6, 7, 8, 9, 10, 11, 12, 13, 14, 15, 16, 17, 18, 19, 20, 21, 22] : List Nat) → r ≠ 0 → ¬ x = ga_ G r 0 := fun hr hn => hx0 _ 0 (rc_1 h hr) hn
  rcases q with q | q | q | q
  · unfold cq5_ at q
    rcases q with q | q | q | q | q | q
    all_goals exact f (by decide) (by decide) q
  all_goals exact f (by decide) (by decide) q
theorem ok_cut : St_cut ka x y (inv_ ka TXp_ pv_ x y o N0) := fun n c m a0 a1 a2 hn hI => by
  obtain ⟨GC, GM, N, k1, k2, k3, k4, k5, k6, k7, k8⟩ := id hI
  have hN := (mo_n k1 (j := 5) (cj := 1605) (m := 30) (by decide)).2
  obtain ⟨e6, hN6⟩ := mo_n k1 (j := 6) (cj := 1606) (m := 5257439) (by decide)
  have hx := rc_x k2
  rcases rg_ a0 (n := N 5) (by omega) with ⟨p, hp, rfl⟩ | hout
  · obtain ⟨p1, p2⟩ := k_person1 k2 hN hp
    by_cases g : (0 : Int32) ≤ a1 ∧ a1 ≤ 4000
    · obtain ⟨A, hA⟩ : ∃ A, A = as_ m y GM := ⟨_, rfl⟩
      obtain ⟨v, hv⟩ : ∃ v, v = zo_ a2 := ⟨_, rfl⟩
      rw [← hv]
      rw [← hA] at k2 k3
      have hH := k3.2.1
      have h15 := (k_per k2 hp).2.2.2.2
      have hPl : ∀ k, k < N 47 → aP A 1401 k = nI (pl_ A k) := fun k hk => (k_text k2 hk).2.1
      have hX : ∀ k, k < N 47 → ∃ len arr, TXp_ 0 (aL A k) (aB A k) len arr := fun k hk => ⟨_, _, (k_text k2 hk).2.2.2.2.2.2⟩
      have hst := (hH p hp).2.2.2
      have hkf : kf_ c x GC A N p := ⟨hp, hN, k3.1, hH, hN6, by rw [hA]; exact e6, h15⟩
      have mrA : mr_ m y GM A N := by rw [hA]; exact mr_of k1
      have hL := m_lenB mrA k3 hp h15 hX
      have hlim := lim9_ g
      obtain ⟨τ, w1, w2, w3, w4, w5, w6, w7⟩ := k_choosePar (v := v) (lim := a1.toInt) k2 hPl hst k3.2.2.2.1 hkf hL hlim
      rw [zI_to] at w1
      have wx := rc_x w2
      have hb0 : mr_ (bm_ m (si_ (si_ (si_ τ 1216 x (nI (pk_ (cga8_ A N p) (cco8_ A N p) (cle8_ A N p) (cop8_ A N p v) 1 a1.toInt (st_ A N p) 0 (0, 0, 0) (0, -1, a1.toInt + 1)).1)) 1217 x (zI (pk_ (cga8_ A N p) (cco8_ A N p) (cle8_ A N p) (cop8_ A N p v) 1 a1.toInt (st_ A N p) 0 (0, 0, 0) (0, -1, a1.toInt + 1)).2.2)) 1214 x 0)) y GM A N := mr_bm mrA (Nat.le_trans (Nat.le_of_eq k5.1) (Nat.le_of_eq w4.1.symm))
      have hb1 := mr_si hb0 (j := 0) (c := 1600) (by decide) 0
      obtain ⟨m2, g1, g2, g3, g4, g5⟩ := m_cuts (v := v) (lim := a1.toInt) hb1 k3 hPl hp hN h15 hX hlim
      rw [zI_to] at g1
      have e0 : ∀ j, j ∈ DS → fi_ (si_ (bm_ m (si_ (si_ (si_ τ 1216 x (nI (pk_ (cga8_ A N p) (cco8_ A N p) (cle8_ A N p) (cop8_ A N p v) 1 a1.toInt (st_ A N p) 0 (0, 0, 0) (0, -1, a1.toInt + 1)).1)) 1217 x (zI (pk_ (cga8_ A N p) (cco8_ A N p) (cle8_ A N p) (cop8_ A N p v) 1 a1.toInt (st_ A N p) 0 (0, 0, 0) (0, -1, a1.toInt + 1)).2.2)) 1214 x 0)) 1600 y 0) (1600 + j) y = aS A j := fun j hj => by
        have hj0 : ∀ j, j ∈ DS → j ≠ 0 := by decide
        have h0 := hj0 j hj
        rw [fi_si, up2_c (by omega), hA]
        rfl
      generalize hPK : (pk_ (cga8_ A N p) (cco8_ A N p) (cle8_ A N p) (cop8_ A N p v) 1 a1.toInt (st_ A N p) 0 (0, 0, 0) (0, -1, a1.toInt + 1)) = PK at *
      have q17 : ¬ ga_ GC 17 0 = x := rc_nx w2 (rc_1 w2 (by decide)) (by decide)
      have f8 : fi_ (si_ τ 1216 x (nI PK.1)) 110 (ga_ GC 17 0) = zI PK.2.2 := by rw [fi_si, up2_c (by decide)]; exact w7
      have f9 : fi_ (si_ (si_ τ 1216 x (nI PK.1)) 1217 x (zI PK.2.2)) 109 (ga_ GC 17 0) = zI PK.2.1 := by rw [fi_si, up2_c (by decide), fi_si, up2_c (by decide)]; exact w6
      have rc3 : rc_ ka TXp_ (si_ (si_ (si_ τ 1216 x (nI PK.1)) 1217 x (zI PK.2.2)) 1214 x 0) x GC (s3_ (fun q => if q = 56 then nI PK.1 else if q = 57 then zI PK.2.2 else aS A q) 0, A.2) N := by
        refine rc_up w2 (fqi (fqi (fq_si w2.1.1 rfl) rfl) rfl) _ ?_ ?_
        · obtain ⟨q0, q1, q2, q3, q4, q5, q6, q7, q8⟩ := rc_f0 w2
          have fy : ∀ d, d ≠ 1214 → d ≠ 1216 → d ≠ 1217 → fi_ (si_ (si_ (si_ τ 1216 x (nI PK.1)) 1217 x (zI PK.2.2)) 1214 x 0) d x = fi_ τ d x := fun d d1 d2 d3 => by
            rw [fi_si, up2_c d1, fi_si, up2_c d3, fi_si, up2_c d2]
          have f16 : fi_ (si_ (si_ (si_ τ 1216 x (nI PK.1)) 1217 x (zI PK.2.2)) 1214 x 0) 1216 x = nI PK.1 := by rw [fi_si, up2_c (by decide), fi_si, up2_c (by decide), fi_si, up2_s]
          have f17 : fi_ (si_ (si_ (si_ τ 1216 x (nI PK.1)) 1217 x (zI PK.2.2)) 1214 x 0) 1217 x = zI PK.2.2 := by rw [fi_si, up2_c (by decide), fi_si, up2_s]
          exact ⟨q0, (fy 1211 (by decide) (by decide) (by decide)).trans q1, (fy 1212 (by decide) (by decide) (by decide)).trans q2, (fy 1213 (by decide) (by decide) (by decide)).trans q3, up2_s, (fy 1215 (by decide) (by decide) (by decide)).trans q5, f16, f17, (fy 1219 (by decide) (by decide) (by decide)).trans q8⟩
        · obtain ⟨q1, q2, q3, q4, q5, q6, q7⟩ := w2.2.2.2 10 0 (rc_1 w2 (by decide))
          exact ⟨q1, q2, q3, q4, q5, fun z => absurd z (show ¬ (0 : Int32) = 4 by decide), fun _ => rfl⟩
      have fc : fq_ (fun q => kT8_ GC q ∨ q = x) c (si_ (si_ (si_ τ 1216 x (nI PK.1)) 1217 x (zI PK.2.2)) 1214 x 0) := fqi (fqi (fqi (fq_w w3 (fun _ q => Or.inl q)) (Or.inr rfl)) (Or.inr rfl)) (Or.inr rfl)
      have hm1 : mr_ (cbm8_ m2 y PK) y GM A N := mr_si (mr_si (mr_si g2 (j := 53) (by decide) _) (j := 54) (by decide) _) (j := 55) (by decide) _
      have hm2 := mr_tr (mr_si (mr_si hm1 (j := 56) (c := 1656) (by decide) (nI PK.1)) (j := 57) (c := 1657) (by decide) (zI PK.2.2)) 0
      refine ⟨zI PK.2.1, _, _, ?_, ?_, inv_fin hI fc ⟨by show nx_ τ ≤ _; omega, by show sl_ τ ≤ _; omega⟩ (U := mU9_ y GM) ?_ ⟨by show nx_ m2 ≤ nx_ τ + 400; rw [g4.1]; exact Nat.le_add_right _ _, by show sl_ m2 ≤ sl_ τ + 6000; rw [g4.2]; exact Nat.le_add_right _ _⟩ (mr_S hm2 _) (fun j hj => ?_) rc3 ?_⟩
      · unfold f_X11_cut
        rw [gt_t hx, p1, bd_s, oc_s, k_within, bd_s, bi_t g, if_neg (by decide), w1, bd_s, lt_e, (rc_r1210 w2).1, nn_s, gt_t (rc_r1210 w2).2, lt_e, w5, lt_e, lt_e, show fr_ (si_ τ 1216 x (nI PK.1)) 1210 x = _ from (rc_r1210 w2).1, nn_s, gt_t (show kd_ (si_ τ 1216 x (nI PK.1)) (ga_ GC 17 0) = 2 from (rc_r1210 w2).2), lt_e, f8, lt_e, lt_e, show fr_ (si_ (si_ τ 1216 x (nI PK.1)) 1217 x (zI PK.2.2)) 1210 x = _ from (rc_r1210 w2).1, nn_s, gt_t (show kd_ (si_ (si_ τ 1216 x (nI PK.1)) 1217 x (zI PK.2.2)) (ga_ GC 17 0) = 2 from (rc_r1210 w2).2), lt_e, f9, k_granted (show kd_ (si_ (si_ τ 1216 x (nI PK.1)) 1217 x (zI PK.2.2)) x = 13 from wx), bd_s]
      · unfold f_X15_cut
        have hy2 : kd_ (si_ (si_ (cbm8_ m2 y PK) 1656 y (nI PK.1)) 1657 y (zI PK.2.2)) y = 17 := show kd_ m2 y = 17 from mo_y g2.1
        rw [gt_t (mo_y hb0.1), lt_e, m_isPerson1 hb1.1 hp, bd_s, if_neg (by decide), m_in, bd_s, bi_t g, if_neg (by decide), g1, bd_s, lt_e, cbm8_3, lt_e, lt_e, fi_si, up2_c (by decide), cbm8_5, lt_e, lt_e, fi_si, up2_c (by decide), fi_si, up2_c (by decide), cbm8_4, m_done hy2, bd_s]
      · have fa : fq_ (mU9_ y GM) (bm_ m (si_ (si_ (si_ τ 1216 x (nI PK.1)) 1217 x (zI PK.2.2)) 1214 x 0)) m2 := fq_tr (fq_si hb0.1.1.1 (Or.inl (Or.inl rfl))) g3
        exact fqi (fqi (fqi (fqi (fqi (fqi (fqi fa (Or.inl (Or.inl rfl))) (Or.inl (Or.inl rfl))) (Or.inl (Or.inl rfl))) (Or.inl (Or.inl rfl))) (Or.inl (Or.inl rfl))) (Or.inl (Or.inl rfl))) (Or.inl (Or.inl rfl))
      · have hj0 : ∀ j, j ∈ DS → j ≠ 0 ∧ j ≠ 53 ∧ j ≠ 54 ∧ j ≠ 55 := by decide
        obtain ⟨h0, h53, h54, h55⟩ := hj0 j hj
        show _ = s3_ (fun q => if q = 56 then nI PK.1 else if q = 57 then zI PK.2.2 else aS A q) 0 j
        unfold s3_ tr_
        rw [fi_si]
        by_cases z2 : j = 2
        · subst z2; exact up2_s
        · rw [if_neg z2, up2_c (by omega), fi_si]
          by_cases z1 : j = 1
          · subst z1; exact up2_s
          · rw [if_neg z1, if_neg h0, up2_c (by omega), fi_si]
            by_cases z57 : j = 57
            · subst z57; exact up2_s
            · rw [up2_c (by omega), fi_si]
              by_cases z56 : j = 56
              · subst z56; exact up2_s
              · dsimp only
                rw [if_neg z56, if_neg z57, up2_c (by omega), cbm8_f ⟨by omega, by omega, by omega⟩, g5 j hj]
                exact e0 j hj
      · exact k3
    · refine ⟨-1, si_ c 1214 x 2, tr_ (si_ (bm_ m (si_ c 1214 x 2)) 1600 y 0) y 2, ?_, ?_, no_ pv_S hI 2 (by decide)⟩
      · unfold f_X11_cut
        rw [gt_t hx, p1, bd_s, oc_s, k_within, bd_s, bi_f g, if_pos rfl, k_refused hx, bd_s]
      · have h1 := mr_si (mr_bm (z := si_ c 1214 x 2) (mr_of k1) (Nat.le_of_eq k5.1)) (j := 0) (c := 1600) (by decide) 0
        unfold f_X15_cut
        rw [gt_t (show kd_ (bm_ m (si_ c 1214 x 2)) y = 17 from mo_yb k1), lt_e, m_isPerson1 h1.1 hp, bd_s, if_neg (by decide), m_in, bd_s, bi_f g, if_pos rfl, m_refused (mo_y h1.1), bd_s]
  · have p0 := k_person0 k2 hN hout
    refine ⟨-1, si_ c 1214 x 1, tr_ (si_ (bm_ m (si_ c 1214 x 1)) 1600 y 0) y 1, ?_, ?_, no_ pv_S hI 1 (by decide)⟩
    · unfold f_X11_cut
      rw [gt_t hx, p0, bd_s, oc_n, k_refused hx, bd_s]
    · have h1 := mr_si (mr_bm (z := si_ c 1214 x 1) (mr_of k1) (Nat.le_of_eq k5.1)) (j := 0) (c := 1600) (by decide) 0
      unfold f_X15_cut
      rw [gt_t (show kd_ (bm_ m (si_ c 1214 x 1)) y = 17 from mo_yb k1), lt_e, m_isPerson0 h1.1 hout, bd_s, if_pos rfl, m_refused (mo_y h1.1), bd_s]
end CU9
