/-! CALLS: edition. Written by wip/b/mk99zze.py. -/
section CED
variable {ka : Nat → Nat} {x y o N0 : Nat}
theorem edA_pv {A : AS} {N : Nat → Nat} {p L : Nat} (hv : pv_ A N) : pv_ (edA_ A (edP_ A N p L)) N := by
  cases e : edP_ A N p L with
  | none => exact hv
  | some j =>
    have hj : j < N 69 := by
      unfold edP_ at e
      by_cases z : L < 200
      · rw [if_pos z] at e; cases e
      · rw [if_neg z] at e; exact edB_lt e
    exact pv_77 _ hj hv
theorem ok_edition : St_edition ka x y (inv_ ka TXp_ pv_ x y o N0) := fun n c m a0 a1 a2 hn hI => by
  obtain ⟨GC, GM, N, k1, k2, k3, k4, k5, k6, k7, k8⟩ := id hI
  have hN := (mo_n k1 (j := 5) (cj := 1605) (m := 30) (by decide)).2
  obtain ⟨e6, hN6⟩ := mo_n k1 (j := 6) (cj := 1606) (m := 5257439) (by decide)
  have hN69 := (mo_n k1 (j := 69) (cj := 1669) (m := 40) (by decide)).2
  have hN70 := (mo_n k1 (j := 70) (cj := 1670) (m := 60) (by decide)).2
  have hN71 := (mo_n k1 (j := 71) (cj := 1671) (m := 80) (by decide)).2
  have hx := rc_x k2
  rcases rg_ a0 (n := N 5) (by omega) with ⟨p, hp, rfl⟩ | hout
  · obtain ⟨p1, p2⟩ := k_person1 k2 hN hp
    by_cases g : (1 : Int32) ≤ a1 ∧ a1 ≤ 4000
    · obtain ⟨-, -, -, f305, h15⟩ := k_per k2 hp
      have f1213 : fi_ c 1213 x = nI (N 6) := (rc_f0 k2).2.2.2.1.trans e6
      have f307 : fi_ c 307 (ga_ GC 31 p) = aV (as_ m y GM) 13 p := (k2.2.2.2 31 p (by rw [rc_31 k2]; exact hp)).2.2.2.2.2.2.2.1
      have ixp := ix9_ (k := p) (M := 30) (by omega) (by omega)
      have clp : (nI p).toNatClampNeg = p := nI_clamp (by omega)
      by_cases dd : 0 ≤ aV (as_ m y GM) 12 p ∧ aV (as_ m y GM) 13 p ≤ nI (N 6)
      · obtain ⟨dd, em⟩ := dd
        have r6 := rc_r1206 k2
        have hl := rc_l7 k2 (by omega)
        -- the reference, up to the place where it may be full
        have rf0 : ∀ z : TH, nx_ m ≤ nx_ z → f_X15_edition (bm_ m z) y (nI p) a1 (zo_ a2) = if nI (N 71) = (80 : Int32) then (bd_ (f_X15_refused (si_ (bm_ m z) 1600 y 0) y (3 : Int32)) fun x20 s21 => some (x20, s21)) else (gt_ (kd_ (si_ (bm_ m z) 1600 y 0) (nx_ (si_ (bm_ m z) 1600 y 0)) = 0) <| lt_ (nx_ (si_ (bm_ m z) 1600 y 0)) fun a22 => lt_ (nw_ (si_ (bm_ m z) 1600 y 0) 14 0 11) fun s23 => bd_ (f_X12_init s23 a22) fun x24 s25 => lt_ (si_ s25 1300 a22 (nI p)) fun s26 => bd_ (f_X15_today s26 y) fun x27 s28 => lt_ (si_ s28 1301 a22 x27) fun s29 => if a1 < (200 : Int32) then (f_X15_edition_b126 s29 y (nI p) a1 (zo_ a2) (some a22) a1 (-2 : Int32) (some a22)) else (bd_ (f_X15_bestPicture s29 y (nI p)) fun x97 s98 => f_X15_edition_b126 s98 y (nI p) a1 (zo_ a2) (some a22) a1 x97 (some a22))) := fun z hz => by
          have hb0 := mr_bm (z := z) (mr_of k1) hz
          have hb1 := mr_si hb0 (j := 0) (c := 1600) (by decide) 0
          obtain ⟨a15, b15, c15⟩ := mo_a hb1.1 (j := 15) (cj := 1615) (K := 22) (n := 30) (by decide)
          obtain ⟨a13, b13, c13⟩ := mo_a hb1.1 (j := 13) (cj := 1613) (K := 20) (n := 30) (by decide)
          have v15 := mr_V hb1 (j := 15) (by decide) p
          have v13 := mr_V hb1 (j := 13) (by decide) p
          have e6' := (mo_n hb1.1 (j := 6) (cj := 1606) (m := 5257439) (by decide)).1
          have e71' := (mo_n hb1.1 (j := 71) (cj := 1671) (m := 80) (by decide)).1
          unfold f_X15_edition
          rw [gt_t (mo_y hb0.1), lt_e, m_isPerson1 hb1.1 hp, bd_s, if_neg (by decide), m_in, bd_s, bi_t g, if_neg (by decide), lt_e, a15, nn_s, gt_t b15, clp, c15, gt_t ixp, lt_e, v15, h15, bi_t dd, if_neg (by decide), lt_e, e6', lt_e, a13, nn_s, gt_t b13, c13, gt_t ixp, lt_e, v13, if_pos em, lt_e, e71']
        have cl0 : f_X11_edition ka c x (nI p) a1 (zo_ a2) = if nI (N 71) < (80 : Int32) then (gt_ (kd_ c (nx_ c) = 0) <| lt_ (nx_ c) fun a20 => lt_ (nw_ c 3 0 10) fun s21 => bd_ (f_X11_today s21 x) fun x22 s23 => bd_ (f_X1_init s23 a20 (nI p) x22) fun x24 s25 => bd_ (f_X11_layPicture s25 x (some a20) a1) fun x26 s27 => bd_ (f_X11_layQuotes s27 x (some a20) a1) fun x28 s29 => lt_ (fi_ s29 202 a20) fun x30 => bd_ (f_X11_chooseParagraphs s29 x (some (ga_ GC 31 p)) (a1 - x30) (zo_ a2)) fun x31 s32 => lt_ (fr_ s32 1210 x) fun r33 => nn_ r33 fun a34 => gt_ (kd_ s32 a34 = 2) <| lt_ (fi_ s32 108 a34) fun x35 => lt_ (si_ s32 203 a20 x35) fun s36 => lt_ (fi_ s36 202 a20) fun x37 => lt_ (fr_ s36 1210 x) fun r38 => nn_ r38 fun a39 => gt_ (kd_ s36 a39 = 2) <| lt_ (fi_ s36 110 a39) fun x40 => lt_ (si_ s36 202 a20 (x37 + x40)) fun s41 => bd_ (f_X11_layFacts s41 (some a20) (some (ga_ GC 31 p))) fun x42 s43 => lt_ (fr_ s43 1206 x) fun r44 => nn_ r44 fun a45 => gt_ (kd_ s43 a45 = 1) <| bd_ (f_Jx4a65c_add_9ea2d ka s43 a45 (some a20)) fun x46 s47 => lt_ (fr_ s47 1206 x) fun r48 => nn_ r48 fun a49 => gt_ (kd_ s47 a49 = 1) <| bd_ (f_Jx4a65c_size_8abf5 s47 a49) fun x50 s51 => bd_ (f_X11_granted s51 x (x50 - (1 : Int32))) fun x52 s53 => some (x52, s53)) else (bd_ (f_X11_refused c x (3 : Int32)) fun x54 s55 => some (x54, s55)) := by
          unfold f_X11_edition
          rw [gt_t hx, p1, bd_s, oc_s, k_within, bd_s, bi_t g, if_neg (by decide), gt_t p2, k_isDead p2, bd_s, f305, bi_t dd, if_neg (by decide), lt_e, f1213, lt_e, f307, if_pos em, lt_e, r6.1, nn_s, gt_t r6.2, l_size hl, bd_s]
        by_cases full : N 71 = 80
        · refine ⟨-1, si_ c 1214 x 3, tr_ (si_ (bm_ m (si_ c 1214 x 3)) 1600 y 0) y 3, ?_, ?_, no_ pv_S hI 3 (by decide)⟩
          · rw [cl0, full, if_neg (by decide), k_refused hx, bd_s]
          · have hy1 : kd_ (si_ (bm_ m (si_ c 1214 x 3)) 1600 y 0) y = 17 := mo_y (mr_si (mr_bm (z := si_ c 1214 x 3) (mr_of k1) (Nat.le_of_eq k5.1)) (j := 0) (c := 1600) (by decide) 0).1
            rw [rf0 (si_ c 1214 x 3) (Nat.le_of_eq k5.1), full, if_pos (by decide), m_refused hy1, bd_s]
        · have n80 : N 71 < 80 := by omega
          obtain ⟨L, hL, rfl⟩ : ∃ L, L ≤ 4000 ∧ a1 = nI L := by
            rcases rg_ a1 (n := 4001) (by omega) with ⟨t, ht, e⟩ | q | q
            · exact ⟨t, by omega, e⟩
            · exact absurd (Int32.le_trans (show (0 : Int32) ≤ 1 by decide) g.1) (Int32.not_le.mpr q)
            · exact absurd (Int32.le_trans q g.2) (by decide)
          obtain ⟨A, hA⟩ : ∃ A, A = as_ m y GM := ⟨_, rfl⟩
          rw [← hA] at k2 k3 h15 f307 dd em
          have mrA : mr_ m y GM A N := by rw [hA]; exact mr_of k1
          have e6' : aS A 6 = nI (N 6) := by rw [hA]; exact e6
          have hd : dR_ A N p = true := by
            unfold dR_
            rw [h15, bi_t dd]
            rcases (k3.2.1 p hp).2.2.1 with q | ⟨d, q1, q2⟩
            · rw [q] at dd; exact absurd dd (by decide)
            · have tdb : td_ N < 2 ^ 31 := by unfold td_; omega
              rw [q2, decide_eq_false (nI_nlt q1 tdb)]
              rfl
          obtain ⟨A2, hA2⟩ : ∃ A2, A2 = edA_ A (edP_ A N p L) := ⟨_, rfl⟩
          obtain ⟨⟨r, nq⟩, hq⟩ : ∃ q : Nat × Nat, edQ_ A2 p (N 70) 0 (L - eb0_ (edP_ A N p L)) = q := ⟨_, rfl⟩
          have hrL : r ≤ L := by
            have := (edQ_le (A := A2) (p := p) (N 70) 0 (L - eb0_ (edP_ A N p L))).1
            rw [hq] at this
            dsimp only at this
            omega
          have hpv2 : pv_ A2 N := by rw [hA2]; exact edA_pv k3
          have eq2 : A2.2.2 = A.2.2 := by
            rw [hA2]
            cases edP_ A N p L <;> rfl
          have h15' : aV A2 15 p = bi_ (0 ≤ aV A2 12 p) := by rw [hA2, edA_v (by decide), edA_v (by decide)]; exact h15
          have eP : aP A2 = aP A := congrArg (fun z => z.1) eq2
          have eL : aL A2 = aL A := congrArg (fun z => z.2.2.1) eq2
          have eB : aB A2 = aB A := congrArg (fun z => z.2.1) eq2
          have hX : ∀ k, k < N 47 → ∃ len arr, TXp_ 0 (aL A2 k) (aB A2 k) len arr := fun k hk => by
            rw [eL, eB]
            exact ⟨_, _, (k_text k2 hk).2.2.2.2.2.2⟩
          have hPl : ∀ k, k < N 47 → aP A2 1401 k = nI (pl_ A2 k) := fun k hk => by
            unfold pl_
            rw [eP]
            exact (k_text k2 hk).2.1
          have mr2 : ∃ σ, mr_ σ y GM A2 N := by
            rw [hA2]
            cases edP_ A N p L with
            | none => exact ⟨m, mrA⟩
            | some j => exact ⟨_, mr_sa mrA (j := 77) (by decide) j (aV A 77 j + 1)⟩
          obtain ⟨σ2, mr2⟩ := mr2
          have hLen : ∀ k, k < N 47 → aP A2 1400 k = nI p → (ot9_ A2 N p k).length ≤ 880 := m_lenB mr2 hpv2 hp h15' hX
          obtain ⟨s, hin, np⟩ := mk_editionC k2.1.1 (nI p) (nI (td_ N))
          obtain ⟨s1, s2, s3, s4, c1, c2, c3, c4, c5, c6, ⟨c7, c8, c9⟩, c10, c11, c12, ⟨c13, c14⟩, ⟨⟨c15, c16⟩, ⟨c17, c18, c19⟩, ⟨c20, c21, c22⟩⟩, ⟨c23, c24⟩, ⟨d0, d1, d2, d3, d4, d5, d6, d7⟩, dV⟩ := k_edition1 (v := zo_ a2) k2 k3 hp hN hN6 e6' hN69 hN70 hL (fun B hB => by rw [hB, ← hA2]; exact hLen) np A2 hA2 r nq hq
          obtain ⟨e1, T, ad, fq2, bnd, ke1, hee, hl2⟩ := ad7x c11 (by omega) c16
          obtain ⟨x1, x2, x3⟩ := ax_7 c11 (fq_rf c11.1.1) fq2
          have nT : nx_ c ≤ nx_ T := by
            have := fq2.1.1
            omega
          have hb0 := mr_bm (z := si_ T 1214 x 0) mrA (Nat.le_trans (Nat.le_of_eq k5.1) nT)
          have hb1 := mr_si hb0 (j := 0) (c := 1600) (by decide) 0
          have rf1 := rf0 (si_ T 1214 x 0) (Nat.le_trans (Nat.le_of_eq k5.1) nT)
          have DS1 : ∀ j, j ∈ DS → fi_ (si_ (bm_ m (si_ T 1214 x 0)) 1600 y 0) (1600 + j) y = aS A j := fun j hj => by
            have hj0 : ∀ j, j ∈ DS → j ≠ 0 := by decide
            have h0 := hj0 j hj
            rw [fi_si, up2_c (by omega), hA]
            rfl
          have f10 : fq_ (fun _ => True) (bm_ m (si_ T 1214 x 0)) (si_ (bm_ m (si_ T 1214 x 0)) 1600 y 0) := fq_si hb0.1.1.1 trivial
          have nz1 : nx_ (si_ (bm_ m (si_ T 1214 x 0)) 1600 y 0) = nx_ T := rfl
          have sz1 : sl_ (si_ (bm_ m (si_ T 1214 x 0)) 1600 y 0) = sl_ T := rfl
          obtain ⟨σ1, hσ1⟩ : ∃ σ1, σ1 = si_ (bm_ m (si_ T 1214 x 0)) 1600 y 0 := ⟨_, rfl⟩
          rw [← hσ1] at hb1 rf1 DS1 f10 nz1 sz1
          obtain ⟨s', hin', np'⟩ := mk_editionM hb1.1.1.1
          have np2 := np_si (np_si np' 1300 (nI p)) 1301 (nI (td_ N))
          obtain ⟨m4, g1, g2, g3, ⟨g4, g5⟩, ⟨⟨g6, g7⟩, ⟨g8, g9⟩, ⟨g10, g11⟩⟩, ⟨g12, g13⟩, ⟨E0, E1, E2, E3, E4, E5, E6, E7, E8⟩, gV, gD⟩ := m_edition1 (v := zo_ a2) hb1 k3 hp hN hN6 hL hd np2 A2 hA2 hPl h15' hX r nq hq
          generalize (pk_ (cga8_ A2 N p) (cco8_ A2 N p) (cle8_ A2 N p) (cop8_ A2 N p (zo_ a2)) 1 (r : Int) (st_ A2 N p) 0 (0, 0, 0) (0, -1, (r : Int) + 1)) = PK at *
          have tod : f_X11_today (nw_ c 3 0 10) x = some (nI (td_ N), nw_ c 3 0 10) := by
            have hxn : x ≠ nx_ c := Nat.ne_of_lt (kd_ltn k2.1.1 hx (by decide))
            exact k_today (by rw [kd_nwn hxn]; exact hx) (by rw [fi_nwn hxn]; exact f1213) (by omega)
          have cl : f_X11_edition ka c x (nI p) (nI L) (zo_ a2) = some (nI (N 71), si_ T 1214 x 0) := by
            have rA := rc_r1210 c6
            have rB := rc_r1206 c11
            rw [cl0, if_pos (show nI (N 71) < 80 from nI_c (k := 80) rfl n80 (by decide)), gt_t (wf_0 k2.1.1 (Nat.le_refl _)), lt_e, lt_e, tod, bd_s, hin, bd_s, c1, bd_s, c2, bd_s, lt_e, c3, sub9_ (by omega), show L - (L - r) = r by omega, c5, bd_s, lt_e, rA.1, nn_s, gt_t rA.2, lt_e, c7, lt_e, lt_e, show fi_ (si_ s3 203 (nx_ c) (nI PK.1)) 202 (nx_ c) = nI (L - r) from by rw [fi_si, up2_c (by decide)]; exact c9, lt_e, show fr_ (si_ s3 203 (nx_ c) (nI PK.1)) 1210 x = _ from rA.1, nn_s, gt_t (show kd_ (si_ s3 203 (nx_ c) (nI PK.1)) (ga_ GC 17 0) = 2 from rA.2), lt_e, show fi_ (si_ s3 203 (nx_ c) (nI PK.1)) 110 (ga_ GC 17 0) = zI PK.2.2 from by rw [fi_si, up2_c (by decide)]; exact c8, lt_e, c10, bd_s, lt_e, rB.1, nn_s, gt_t rB.2, ad, bd_s, lt_e, x2, rB.1, nn_s, gt_t hl2.1, l_size hl2, bd_s, nI_pred, k_granted x1, bd_s]
          -- the reference's end
          obtain ⟨a82, b82, c82⟩ := mo_a g2.1 (j := 82) (cj := 1682) (K := 28) (n := 80) (by decide)
          have e71m := (mo_n g2.1 (j := 71) (cj := 1671) (m := 80) (by decide)).1
          have ix71 := ix9_ (k := N 71) (M := 80) (by omega) (by omega)
          have cl71 : (nI (N 71)).toNatClampNeg = N 71 := nI_clamp (by omega)
          obtain ⟨M0, hM0⟩ : ∃ M0, M0 = si_ (sq_ m4 (ga_ GM 82 0) (N 71) (some (nx_ σ1))) 1671 y (nI (N 71 + 1)) := ⟨_, rfl⟩
          have hyM : kd_ M0 y = 17 := by rw [hM0]; exact (show kd_ m4 y = 17 from mo_y g2.1)
          have rfE : edZ_ m4 y (nx_ σ1) = some (nI (N 71), tr_ M0 y 0) := by
            unfold edZ_
            rw [gt_t (mo_y g2.1), lt_e, a82, lt_e, e71m, nn_s, gt_t b82, nn_s, gt_t g7, c82, cl71, gt_t ix71, lt_e, lt_e, show fi_ (sq_ m4 (ga_ GM 82 0) (N 71) (some (nx_ σ1))) 1671 y = nI (N 71) from e71m, lt_e, nI_1, ← hM0, lt_e]
            rw [show fi_ M0 1671 y = nI (N 71 + 1) from by rw [hM0, fi_si, up2_s], nI_pred, m_done hyM, bd_s]
          have td29 : f_X15_today (si_ s' 1300 (nx_ σ1) (nI p)) y = some (nI (td_ N), si_ s' 1300 (nx_ σ1) (nI p)) := m_today2 (mr_fh hb1 (np_si np' 1300 (nI p)).1 (fun q z => z.elim))
          have mr29 := mr_fh hb1 np2.1 (fun q z => z.elim)
          have rf : f_X15_edition (bm_ m (si_ T 1214 x 0)) y (nI p) (nI L) (zo_ a2) = some (nI (N 71), tr_ M0 y 0) := by
            rw [rf1, if_neg (fun z => full ((iq9_ (b := 80) (B := 80) rfl (by omega) (by decide)).mp z)), gt_t (wf_0 hb1.1.1.1 (Nat.le_refl _)), lt_e, lt_e, hin', bd_s, lt_e, td29, bd_s, lt_e]
            rw [← rfE, ← g1]
            by_cases zL : L < 200
            · rw [if_pos (show nI L < 200 from nI_c (k := 200) rfl zL (by decide)), show edI_ (edP_ A N p L) = -2 from by unfold edP_; rw [if_pos zL]; rfl]
            · rw [if_neg (show ¬ nI L < 200 from nI_nlt (b := 200) (by omega) (by omega)), m_bestPicture mr29 p, bd_s, show edI_ (edP_ A N p L) = edI_ (edB_ A N p (N 69)) from by unfold edP_; rw [if_neg zL]]
          -- one more
          have yl : y < nx_ m4 := kd_ltn g2.1.1.1 (mo_y g2.1) (by decide)
          have fM0 : ∀ d, d ≠ 1671 → ∀ q, fi_ M0 d q = fi_ m4 d q := fun d h1 q => by rw [hM0, fi_si, up2_c h1]; rfl
          have hmE := mr_nE (τ := M0) (a := nx_ σ1) (b := nx_ σ1 + 1) (d := nx_ σ1 + 2) g2 n80 (by
            rw [hM0]
            exact fqi (fq_sq (T := fun q => q = y ∨ q = ga_ GM 82 0) g2.1.1.1 (Or.inr rfl)) (Or.inl rfl)) g6 g8 g10 (by omega) (by omega) (by omega) (by rw [hM0]; exact g7) (by rw [hM0]; exact g9) (by rw [hM0]; exact g11) (fun d => by rw [hM0]; rfl) (by rw [hM0]; exact g12) (by rw [hM0]; exact g13) (fun k => by
              rw [hM0]
              show up2_ (ar_ m4) (ga_ GM 82 0) (N 71) (some (nx_ σ1)) (ga_ GM 82 0) k = _
              by_cases z : k = N 71
              · rw [if_pos z, z, up2_s]
              · rw [if_neg z, up2_n z]) (fun j hj => by
              by_cases z : j = 71
              · rw [if_pos z, z, hM0, fi_si]; exact up2_s
              · rw [if_neg z, fM0 (1600 + j) (by omega)])
          have hmE2 := mr_tr hmE 0
          obtain ⟨E, hE⟩ : ∃ E : Nat → Nat → Int32, E = fun c k => if k = N 71 then (if c < 1400 then fi_ M0 c (nx_ σ1) else 0) else aE A2 c k := ⟨_, rfl⟩
          obtain ⟨D, hD⟩ : ∃ D : Nat → Nat → Int32, D = fun k => if k = N 71 then ai_ M0 (nx_ σ1 + 1) else aD A2 k := ⟨_, rfl⟩
          obtain ⟨F, hF⟩ : ∃ F : Nat → Nat → Int32, F = fun k => if k = N 71 then ai_ M0 (nx_ σ1 + 2) else aF A2 k := ⟨_, rfl⟩
          rw [← hE, ← hD, ← hF] at hmE2
          have hold : ∀ i, i < N 71 → (∀ c, E c i = aE A2 c i) ∧ D i = aD A2 i ∧ F i = aF A2 i := fun i hi => by
            rw [hE, hD, hF]
            exact ⟨fun c => if_neg (by omega), if_neg (by omega), if_neg (by omega)⟩
          have eE : ∀ d, d < 1400 → E d (N 71) = fi_ m4 d (nx_ σ1) := fun d h1 => by
            rw [hE]
            dsimp only
            rw [if_pos rfl, if_pos h1, fM0 d (by omega)]
          have eD : ∀ k, D (N 71) k = ai_ m4 (nx_ σ1 + 1) k := fun k => by
            rw [hD]
            dsimp only
            rw [if_pos rfl, hM0]
            rfl
          have bb : ∀ k, k < 10 → E 1306 (N 71) &&& ((1 : Int32) <<< nI k) ≠ 0 → bt (bo_ (edO_ A2 N p (edK_ A2 N p (nI PK.1) (st_ A2 N p))) 10) k = true := fun k hk hb => by
            rw [eE 1306 (by decide), E6] at hb
            cases e : bt (bo_ (edO_ A2 N p (edK_ A2 N p (nI PK.1) (st_ A2 N p))) 10) k with
            | true => rfl
            | false => exact absurd ((bit_and' _ (by omega)).mpr e) hb
          obtain ⟨rcE, -⟩ := rc_c7 (E := E) (D := D) (F := F) c11 hpv2 n80 hold (fq_rf c11.1.1) ⟨c17, c18, c19⟩ ⟨c20, c21, c22⟩ ⟨c15, c16⟩ ⟨by omega, by omega, by omega⟩ ⟨d0.trans ((eE 1300 (by decide)).trans E0).symm, d1.trans ((eE 1301 (by decide)).trans E1).symm, d2.trans ((eE 1302 (by decide)).trans E2).symm, d3.trans ((eE 1303 (by decide)).trans E3).symm, d4.trans ((eE 1304 (by decide)).trans E4).symm, d5.trans ((eE 1305 (by decide)).trans E5).symm, d6.trans ((eE 1306 (by decide)).trans E6).symm, d7.trans ((eE 1308 (by decide)).trans E8).symm, c23, c24, fun k hk hb => (dV k hk (bb k hk hb)).1.trans ((eD k).trans (gV k hk (bb k hk hb))).symm, fun k hk hb => by
            rw [eE 1307 (by decide), E7, if_neg (fun z => z Int32.zero_and)]
            exact (dV k hk (bb k hk hb)).2.trans ((eD k).trans (gV k hk (bb k hk hb))).symm⟩ fq2 ke1 hee hl2
          refine ⟨nI (N 71), si_ T 1214 x 0, tr_ M0 y 0, cl, rf, inv_fin hI (T := fun _ => True) (fqi (fq_tr c12 (fq_a fq2)) trivial) ⟨by show nx_ T ≤ _; omega, by show sl_ T ≤ _; omega⟩ (U := fun _ => True) ?_ ⟨?_, ?_⟩ (mr_S hmE2 _) (fun j hj => ?_) rcE ?_⟩
          · have fz : fq_ (fun _ => True) (bm_ m (si_ T 1214 x 0)) m4 := fq_tr f10 g3
            rw [hM0]
            exact fqt (fqi (fq_tr fz (fq_sq (T := fun _ => True) g2.1.1.1 trivial)) trivial) trivial
          · have z1 : nx_ (tr_ M0 y 0) = nx_ m4 := by rw [hM0]; rfl
            show _ ≤ nx_ T + 400
            omega
          · have z1 : sl_ (tr_ M0 y 0) = sl_ m4 := by rw [hM0]; rfl
            show _ ≤ sl_ T + 6000
            omega
          · have hj0 : ∀ j, j ∈ DS → j ≠ 0 ∧ j ≠ 71 := by decide
            obtain ⟨h0, h71⟩ := hj0 j hj
            have eS : aS A2 j = aS A j := by
              rw [hA2]
              cases edP_ A N p L <;> rfl
            show _ = s3_ (aS A2) 0 j
            unfold s3_ tr_
            rw [fi_si]
            by_cases z2 : j = 2
            · subst z2; exact up2_s
            · rw [if_neg z2, up2_c (by omega), fi_si]
              by_cases z1 : j = 1
              · subst z1; exact up2_s
              · rw [if_neg z1, if_neg h0, up2_c (by omega), fM0 (1600 + j) (by omega), gD j hj, DS1 j hj, eS]
          · refine pv_c7 hpv2 hold hp ((eE 1300 (by decide)).trans E0) (fun k hk hb => ?_)
            have hb2 := bb k hk hb
            rw [bt_bo _ 10 (by decide) k (by omega), decide_eq_true hk, Bool.true_and] at hb2
            unfold edO_ at hb2
            intro e
            rw [e] at hb2
            simp at hb2
      · -- not dead, or not yet
        refine ⟨-1, si_ c 1214 x 5, tr_ (si_ (bm_ m (si_ c 1214 x 5)) 1600 y 0) y 5, ?_, ?_, no_ pv_S hI 5 (by decide)⟩
        · have b55 : f_X11_edition_b55 ka c x = some (-1, si_ c 1214 x 5) := by
            unfold f_X11_edition_b55
            rw [gt_t hx, k_refused hx, bd_s]
          unfold f_X11_edition
          rw [gt_t hx, p1, bd_s, oc_s, k_within, bd_s, bi_t g, if_neg (by decide), gt_t p2, k_isDead p2, bd_s, f305]
          by_cases z : 0 ≤ aV (as_ m y GM) 12 p
          · rw [bi_t z, if_neg (by decide), lt_e, f1213, lt_e, f307, if_neg (fun q => dd ⟨z, q⟩)]
            exact b55
          · rw [bi_f z, if_pos rfl]
            exact b55
        · have hb0 := mr_bm (z := si_ c 1214 x 5) (mr_of k1) (Nat.le_of_eq k5.1)
          have hb1 := mr_si hb0 (j := 0) (c := 1600) (by decide) 0
          obtain ⟨a15, b15, c15⟩ := mo_a hb1.1 (j := 15) (cj := 1615) (K := 22) (n := 30) (by decide)
          obtain ⟨a13, b13, c13⟩ := mo_a hb1.1 (j := 13) (cj := 1613) (K := 20) (n := 30) (by decide)
          have v15 := mr_V hb1 (j := 15) (by decide) p
          have v13 := mr_V hb1 (j := 13) (by decide) p
          have e6' := (mo_n hb1.1 (j := 6) (cj := 1606) (m := 5257439) (by decide)).1
          have b58 : f_X15_edition_b58 (si_ (bm_ m (si_ c 1214 x 5)) 1600 y 0) y = some (-1, tr_ (si_ (bm_ m (si_ c 1214 x 5)) 1600 y 0) y 5) := by
            unfold f_X15_edition_b58
            rw [gt_t (mo_y hb1.1), m_refused (mo_y hb1.1), bd_s]
          unfold f_X15_edition
          rw [gt_t (mo_y hb0.1), lt_e, m_isPerson1 hb1.1 hp, bd_s, if_neg (by decide), m_in, bd_s, bi_t g, if_neg (by decide), lt_e, a15, nn_s, gt_t b15, clp, c15, gt_t ixp, lt_e, v15, h15]
          by_cases z : 0 ≤ aV (as_ m y GM) 12 p
          · rw [bi_t z, if_neg (by decide), lt_e, e6', lt_e, a13, nn_s, gt_t b13, c13, gt_t ixp, lt_e, v13, if_neg (fun q => dd ⟨z, q⟩)]
            exact b58
          · rw [bi_f z, if_pos rfl]
            exact b58
    · refine ⟨-1, si_ c 1214 x 2, tr_ (si_ (bm_ m (si_ c 1214 x 2)) 1600 y 0) y 2, ?_, ?_, no_ pv_S hI 2 (by decide)⟩
      · unfold f_X11_edition
        rw [gt_t hx, p1, bd_s, oc_s, k_within, bd_s, bi_f g, if_pos rfl, k_refused hx, bd_s]
      · have h1 := mr_si (mr_bm (z := si_ c 1214 x 2) (mr_of k1) (Nat.le_of_eq k5.1)) (j := 0) (c := 1600) (by decide) 0
        unfold f_X15_edition
        rw [gt_t (show kd_ (bm_ m (si_ c 1214 x 2)) y = 17 from mo_yb k1), lt_e, m_isPerson1 h1.1 hp, bd_s, if_neg (by decide), m_in, bd_s, bi_f g, if_pos rfl, m_refused (mo_y h1.1), bd_s]
  · have p0 := k_person0 k2 hN hout
    refine ⟨-1, si_ c 1214 x 1, tr_ (si_ (bm_ m (si_ c 1214 x 1)) 1600 y 0) y 1, ?_, ?_, no_ pv_S hI 1 (by decide)⟩
    · unfold f_X11_edition
      rw [gt_t hx, p0, bd_s, oc_n, k_refused hx, bd_s]
    · have h1 := mr_si (mr_bm (z := si_ c 1214 x 1) (mr_of k1) (Nat.le_of_eq k5.1)) (j := 0) (c := 1600) (by decide) 0
      unfold f_X15_edition
      rw [gt_t (show kd_ (bm_ m (si_ c 1214 x 1)) y = 17 from mo_yb k1), lt_e, m_isPerson0 h1.1 hout, bd_s, if_pos rfl, m_refused (mo_y h1.1), bd_s]
end CED
