/-! CALLS: paragraph. Written by wip/b/mk99zf.py. -/
section PA9
variable {ka : Nat → Nat} {x y o N0 : Nat}
theorem ok_paragraph : St_paragraph ka x y (inv_ ka TXp_ pv_ x y o N0) := fun n c m a0 a1 a2 a3 hn hI => by
  obtain ⟨GC, GM, N, k1, k2, k3, k4, k5, k6, k7, k8⟩ := id hI
  have hN := (mo_n k1 (j := 5) (cj := 1605) (m := 30) (by decide)).2
  obtain ⟨e6, hN6⟩ := mo_n k1 (j := 6) (cj := 1606) (m := 5257439) (by decide)
  have hb : mr_ (bm_ m c) y GM (as_ m y GM) N := mr_bm (mr_of k1) (Nat.le_of_eq k5.1)
  have hx := rc_x k2
  obtain ⟨e30, hN30⟩ := mo_n k1 (j := 30) (cj := 1630) (m := 400) (by decide)
  obtain ⟨e47, hN47⟩ := mo_n k1 (j := 47) (cj := 1647) (m := 150) (by decide)
  have hj0 : ∀ j, j ∈ DS → j ≠ 0 := by decide
  rcases rg_ a0 (n := N 5) (by omega) with ⟨p, hp, rfl⟩ | hout
  · have hH := k3.2.1
    have hst := (hH p hp).2.2.2
    obtain ⟨p1, p2⟩ := k_person1 k2 hN hp
    have h15 := (k_per k2 hp).2.2.2.2
    obtain ⟨s1, ⟨s2, s3, s4⟩, ⟨s5, s6, s7⟩, ⟨s8, s9, s10⟩, -⟩ := k_story k2 hp
    obtain ⟨r8, r8k⟩ := rc_r1208 k2
    by_cases c1 : (0 : Int32) ≤ a1 ∧ a1 ≤ 999
    · by_cases c2 : (-1 : Int32) ≤ a2 ∧ a2 ≤ nI (st_ (as_ m y GM) N p) - 1
      · by_cases c3 : (0 : Int32) ≤ a3 ∧ a3 ≤ nI (N 30)
        · obtain ⟨t, ht, rfl⟩ : ∃ t, t ≤ N 30 ∧ a3 = nI t := by
            rcases rg_ a3 (n := N 30 + 1) (by omega) with ⟨t, ht, e⟩ | q
            · exact ⟨t, by omega, e⟩
            · rcases q with q | q
              · exact absurd q (Int32.not_lt.mpr c3.1)
              · exact absurd (Int32.le_trans q c3.2) (nI_ge (by omega) (by omega))
          have hS := k_hS k2
          have hbt := k_tape k2 k3.2.2.2.2.2.2.2.2.2.2.2.2 (n := t) (by omega)
          have hholds := k_holds k2 e30 (nI t)
          rw [bi_t c3] at hholds
          have cls : ∀ r9 s9, f_X6_read c (ga_ GC 10 0) (nI t) 0 = some (r9, s9) → f_X11_paragraph c x (nI p) a1 a2 (nI t) = oc_ r9 (bd_ (f_X11_refused s9 x (4 : Int32)) fun x22 s23 => some (x22, s23)) (fun a21 => lt_ (fi_ s9 313 (ga_ GC 31 p)) fun x24 => if (14 : Int32) ≤ x24 then (f_X11_paragraph_b109 s9 x) else (lt_ (fi_ s9 1212 x) fun x27 => if x27 < (150 : Int32) then (lt_ (fr_ s9 310 (ga_ GC 31 p)) fun r28 => nn_ r28 fun a29 => gt_ (kd_ s9 a29 = 26) <| gt_ (kd_ s9 a21 = 11) <| gt_ (¬ (x24 < 0 ∨ ln_ s9 a29 ≤ x24.toNatClampNeg)) <| lt_ (sq_ s9 a29 x24.toNatClampNeg (some a21)) fun s30 => lt_ (fr_ s30 311 (ga_ GC 31 p)) fun r31 => nn_ r31 fun a32 => gt_ (kd_ s30 a32 = 20) <| gt_ (¬ (x24 < 0 ∨ ln_ s30 a32 ≤ x24.toNatClampNeg)) <| lt_ (sa_ s30 a32 x24.toNatClampNeg a1) fun s33 => lt_ (fr_ s33 312 (ga_ GC 31 p)) fun r34 => nn_ r34 fun a35 => gt_ (kd_ s33 a35 = 20) <| gt_ (¬ (x24 < 0 ∨ ln_ s33 a35 ≤ x24.toNatClampNeg)) <| lt_ (sa_ s33 a35 x24.toNatClampNeg a2) fun s36 => lt_ (fi_ s36 313 (ga_ GC 31 p)) fun x37 => lt_ (si_ s36 313 (ga_ GC 31 p) (x37 + (1 : Int32))) fun s38 => lt_ (fi_ s38 1212 x) fun x39 => lt_ (si_ s38 1212 x (x39 + (1 : Int32))) fun s40 => bd_ (f_X11_granted s40 x x24) fun x41 s42 => some (x41, s42)) else (f_X11_paragraph_b109 s9 x))) := fun r9 s9 hr => by
            unfold f_X11_paragraph
            rw [gt_t hx, p1, bd_s, oc_s, k_within, bd_s, bi_t c1, if_neg (by decide), gt_t p2, lt_e, s1, k_within, bd_s, bi_t c2, if_neg (by decide), lt_e, r8, nn_s, gt_t r8k, hholds, bd_s, if_neg (by decide), lt_e, r8, nn_s, gt_t r8k, hr, bd_s]
          have ref : ∀ (z : TH), nx_ m ≤ nx_ z → ∀ (b : Int32) (s9 : TH), f_X15_isText (si_ (bm_ m z) 1600 y 0) y (nI p) (nI t) = some (b, s9) → f_X15_paragraph (bm_ m z) y (nI p) a1 a2 (nI t) = if b = 0 then (some ((-1 : Int32), s9)) else (if nI (st_ (as_ m y GM) N p) = (14 : Int32) then (f_X15_paragraph_b93 s9 y) else (lt_ (fi_ s9 1647 y) fun x20 => if x20 = (150 : Int32) then (f_X15_paragraph_b93 s9 y) else (gt_ (kd_ s9 (nx_ s9) = 0) <| lt_ (nx_ s9) fun a21 => lt_ (nw_ s9 15 0 7) fun s22 => bd_ (f_X13_init s22 a21) fun x23 s24 => lt_ (si_ s24 1400 a21 (nI p)) fun s25 => lt_ (si_ s25 1401 a21 (nI (st_ (as_ m y GM) N p))) fun s26 => lt_ (si_ s26 1402 a21 a1) fun s27 => lt_ (si_ s27 1403 a21 a2) fun s28 => bd_ (f_X15_takesText s28 y (some a21) (nI t)) fun x29 s30 => lt_ (fr_ s30 1648 y) fun r31 => lt_ (fi_ s30 1647 y) fun x32 => nn_ r31 fun a33 => gt_ (kd_ s30 a33 = 27) <| gt_ (¬ (x32 < 0 ∨ ln_ s30 a33 ≤ x32.toNatClampNeg)) <| lt_ (sq_ s30 a33 x32.toNatClampNeg (some a21)) fun s34 => lt_ (fi_ s34 1647 y) fun x35 => lt_ (si_ s34 1647 y (x35 + (1 : Int32))) fun s36 => bd_ (f_X15_done s36 y (nI (st_ (as_ m y GM) N p))) fun x37 s38 => some (x37, s38)))) := fun z hz b s9 hr => by
            have hb0 := mr_bm (z := z) (mr_of k1) hz
            have hb1 := mr_si hb0 (j := 0) (c := 1600) (by decide) 0
            have it := m_isTaped hb1 (nI t)
            rw [bi_t c3] at it
            unfold f_X15_paragraph
            rw [gt_t (mo_y hb0.1), lt_e, m_isPerson1 hb1.1 hp, bd_s, if_neg (by decide), m_storySize hb1 p, bd_s, m_in, bd_s, bi_t c1, if_neg (by decide), m_in, bd_s, bi_t c2, if_neg (by decide), it, bd_s, if_neg (by decide), hr, bd_s]
          have hit := fun (z : TH) (hz : nx_ m ≤ nx_ z) => m_isText (n := t) (mr_si (mr_bm (z := z) (mr_of k1) hz) (j := 0) (c := 1600) (by decide) 0).1.1.1 (mr_si (mr_bm (z := z) (mr_of k1) hz) (j := 0) (c := 1600) (by decide) 0) k3 hp (by omega) h15
          cases hrn : rN_ false (w9_ t (aV (as_ m y GM) 26)) t (m0_ false) 0 with
          | inl e =>
            obtain ⟨F', X', Y', q1, q2, q3, q4, q5⟩ := k_readF (r := false) hS hbt 0 rfl hrn
            rw [hrn] at hit
            obtain ⟨rc1, fc1⟩ := rc_rf (f := nI e.1) (v := 4) (s2 := nI e.2) k2 (kh_fq (F := F') (X := X') (Y := Y') k2.1.1) (fun _ => rfl) ((kh_fi 701).trans q2) ((kh_fi 702).trans q3) (fun _ => (kh_fi 703).trans q4) (fun z => absurd rfl z)
            obtain ⟨m2, g1, g2, g3, g4, g5⟩ := hit (si_ (kh_ c (ga_ GC 10 0) (ga_ GC 12 0) (ga_ GC 13 0) F' X' Y') 1214 x 4) (Nat.le_of_eq k5.1)
            have rf := ref (si_ (kh_ c (ga_ GC 10 0) (ga_ GC 12 0) (ga_ GC 13 0) F' X' Y') 1214 x 4) (Nat.le_of_eq k5.1) _ _ g1
            rw [if_pos rfl] at rf
            have cl := cls _ _ q1
            rw [oc_n, k_refused (show kd_ (kh_ c (ga_ GC 10 0) (ga_ GC 12 0) (ga_ GC 13 0) F' X' Y') x = 13 from hx), bd_s] at cl
            refine ⟨-1, _, m2, cl, rf, inv_fin hI fc1 ⟨Nat.le_add_right _ _, Nat.le_add_right _ _⟩ (U := rU_ y GM) (fq_tr (fq_si (mr_bm (z := si_ (kh_ c (ga_ GC 10 0) (ga_ GC 12 0) (ga_ GC 13 0) F' X' Y') 1214 x 4) (mr_of k1) (Nat.le_of_eq k5.1)).1.1.1 (Or.inl rfl)) g3) ⟨by rw [g4.1]; exact Nat.le_add_right _ _, by rw [g4.2]; exact Nat.le_add_right _ _⟩ (mr_S g2 _) (fun j hj => ?_) rc1 ?_⟩
            · rw [g5 j hj]
              have h0 := hj0 j hj
              show _ = if j = 2 then nI e.2 else if j = 1 then 4 else if j = 3 then nI e.1 else if j = 30 then 0 else aS (as_ m y GM) j
              rw [fi_si, up2_c (by omega)]
              rfl
            · obtain ⟨h1, h2, h3, h4, h5, h6, h7, d1, d2, d3, d4, d5, d6⟩ := k3
              exact ⟨h1, h2, h3, h4, h5, h6, h7, d1, d2, d3, d4, d5, d6⟩
          | inr m' =>
            obtain ⟨τ, q1, q2, q3, ⟨u1, u2, u3, u4⟩, ⟨v1, v2, v3, v4, v5⟩, ⟨w1, w2, w3⟩, kz⟩ := k_readT (r := false) k2.1.1 hS hbt 0 rfl hrn
            rw [hrn] at hit
            have cl := cls _ _ q1
            have hxl : x < nx_ c := kd_ltn k2.1.1 hx (by decide)
            have hx0 : ∀ r i, i < gc_ GC r → r ≠ 0 → ga_ GC r i ≠ x := fun r i hi hr => rc_nx k2 hi hr
            have c31 : p < gc_ GC 31 := by rw [rc_31 k2]; exact hp
            have nT : ∀ r i, i < gc_ GC r → r ≠ 10 → r ≠ 12 → r ≠ 13 → ¬ (ga_ GC r i = ga_ GC 10 0 ∨ ga_ GC r i = ga_ GC 12 0 ∨ ga_ GC r i = ga_ GC 13 0) := fun r i hi z1 z2 z3 z => by
              rcases z with z | z | z
              · exact sh_ne k2.1 hi (rc_1 k2 (by decide)) (Or.inl z1) z
              · exact sh_ne k2.1 hi (rc_1 k2 (by decide)) (Or.inl z2) z
              · exact sh_ne k2.1 hi (rc_1 k2 (by decide)) (Or.inl z3) z
            have nTx : ¬ (x = ga_ GC 10 0 ∨ x = ga_ GC 12 0 ∨ x = ga_ GC 13 0) := by
              have := nT 0 0 (rc_1 k2 (by decide)) (by decide) (by decide) (by decide)
              rw [k2.2.1.1] at this
              exact this
            have fx : ∀ d, fi_ τ d x = fi_ c d x := fun d => fq_fi q2 hxl nTx d
            have rx : ∀ d, fr_ τ d x = fr_ c d x := fun d => fq_fr q2 hxl nTx d
            have fp : ∀ d, fi_ τ d (ga_ GC 31 p) = fi_ c d (ga_ GC 31 p) := fun d => fq_fi q2 (sh_lt k2.1 c31) (nT 31 p c31 (by decide) (by decide) (by decide)) d
            have rp : ∀ d, fr_ τ d (ga_ GC 31 p) = fr_ c d (ga_ GC 31 p) := fun d => fq_fr q2 (sh_lt k2.1 c31) (nT 31 p c31 (by decide) (by decide) (by decide)) d
            have hxτ : kd_ τ x = 13 := fq_kd q2 hx (by decide)
            have f12 : fi_ c 1212 x = nI (N 47) := (rc_f0 k2).2.2.1.trans e47
            rw [oc_s, lt_e, fp 313, s1] at cl
            by_cases full : st_ (as_ m y GM) N p = 14 ∨ N 47 = 150
            · obtain ⟨rc1, fc1⟩ := rc_rf (f := 0) (v := 3) (s2 := -1) k2 q2 w3 w1 w2 (fun z => absurd z (by decide)) (fun _ => rfl)
              obtain ⟨m2, g1, g2, g3, g4, g5, g6, g7⟩ := hit (si_ τ 1214 x 3) (by show nx_ m ≤ nx_ τ; rw [q3.1, k5.1]; omega)
              have rf := ref (si_ τ 1214 x 3) (by show nx_ m ≤ nx_ τ; rw [q3.1, k5.1]; omega) _ _ g1
              have hy2 := mo_y g2.1
              have e47' : fi_ m2 1647 y = nI (N 47) := (mo_n g2.1 (j := 47) (cj := 1647) (m := 150) (by decide)).1
              have cl2 : f_X11_paragraph c x (nI p) a1 a2 (nI t) = some (-1, si_ τ 1214 x 3) := by
                rw [cl]
                have b109 : f_X11_paragraph_b109 τ x = some (-1, si_ τ 1214 x 3) := by
                  unfold f_X11_paragraph_b109
                  rw [gt_t hxτ, k_refused hxτ, bd_s]
                by_cases z : 14 ≤ st_ (as_ m y GM) N p
                · rw [if_pos (show (14 : Int32) ≤ nI (st_ (as_ m y GM) N p) from nI_le (a := 14) z (by omega))]
                  exact b109
                · rw [if_neg (show ¬ (14 : Int32) ≤ nI (st_ (as_ m y GM) N p) from nI_ge (b := 14) (by omega) (by decide)), lt_e, fx 1212, f12, if_neg (show ¬ nI (N 47) < 150 from nI_nlt (b := 150) (by omega) (by omega))]
                  exact b109
              have rf2 : f_X15_paragraph (bm_ m (si_ τ 1214 x 3)) y (nI p) a1 a2 (nI t) = some (-1, tr_ m2 y 3) := by
                rw [rf, if_neg (by decide)]
                have b93 : f_X15_paragraph_b93 m2 y = some (-1, tr_ m2 y 3) := by
                  unfold f_X15_paragraph_b93
                  rw [gt_t hy2, m_refused hy2, bd_s]
                by_cases z : st_ (as_ m y GM) N p = 14
                · rw [if_pos (by rw [z]; rfl)]
                  exact b93
                · rw [if_neg (fun q => z ((iq9_ (b := 14) (B := 14) rfl (by omega) (by decide)).mp q)), lt_e, e47', if_pos (show nI (N 47) = 150 from (iq9_ (b := 150) (B := 150) rfl (by omega) (by decide)).mpr (by omega))]
                  exact b93
              refine ⟨-1, _, tr_ m2 y 3, cl2, rf2, inv_fin hI fc1 ⟨by show nx_ τ ≤ _; rw [q3.1]; omega, by show sl_ τ ≤ _; have := q3.2; omega⟩ (U := rU_ y GM) (fqt (fq_tr (fq_si (mr_bm (z := si_ τ 1214 x 3) (mr_of k1) (by show nx_ m ≤ nx_ τ; rw [q3.1, k5.1]; omega)).1.1.1 (Or.inl rfl)) g3) (Or.inl rfl)) ⟨by show nx_ m2 ≤ _; rw [g4.1]; exact Nat.le_add_right _ _, by show sl_ m2 ≤ _; rw [g4.2]; exact Nat.le_add_right _ _⟩ (mr_S (mr_tr g2 3) _) (fun j hj => ?_) rc1 ?_⟩
              · have h0 := hj0 j hj
                show _ = if j = 2 then -1 else if j = 1 then 3 else if j = 3 then 0 else if j = 30 then 0 else aS (as_ m y GM) j
                unfold tr_
                rw [fi_si]
                by_cases z2 : j = 2
                · subst z2; rw [if_pos rfl]; exact up2_s
                rw [up2_c (by omega), if_neg z2, fi_si]
                by_cases z1 : j = 1
                · subst z1; rw [if_pos rfl]; exact up2_s
                rw [up2_c (by omega), if_neg z1, g5 j hj, fi_si, up2_c (by omega)]
                rfl
              · obtain ⟨h1, h2, h3, h4, h5, h6, h7, d1, d2, d3, d4, d5, d6⟩ := k3
                exact ⟨h1, h2, h3, h4, h5, h6, h7, d1, d2, d3, d4, d5, d6⟩
            · have st14 : st_ (as_ m y GM) N p < 14 := by omega
              have n150 : N 47 < 150 := by omega
              obtain ⟨S, hSd⟩ : ∃ S, S = st_ (as_ m y GM) N p := ⟨_, rfl⟩
              have c33 : p < gc_ GC 33 := by rw [(rc_37 k2).2.2.1]; exact hp
              have c34 : p < gc_ GC 34 := by rw [(rc_37 k2).2.2.2.1]; exact hp
              have c35 : p < gc_ GC 35 := by rw [(rc_37 k2).2.2.2.2]; exact hp
              have n34 : ga_ GC 34 p ≠ ga_ GC 35 p := sh_ne k2.1 c34 c35 (Or.inl (by decide))
              have xp : x ≠ ga_ GC 31 p := (hx0 31 p c31 (by decide)).symm
              have x10 : ga_ GC 10 0 ≠ x := hx0 10 0 (rc_1 k2 (by decide)) (by decide)
              have p10 : ga_ GC 10 0 ≠ ga_ GC 31 p := sh_ne k2.1 (rc_1 k2 (by decide)) c31 (Or.inl (by decide))
              have lt10 : ga_ GC 10 0 < nx_ c := sh_lt k2.1 (rc_1 k2 (by decide))
              have lt31 := sh_lt k2.1 c31
              have lt33 := sh_lt k2.1 c33
              have lt34 := sh_lt k2.1 c34
              have lt35 := sh_lt k2.1 c35
              rw [← hSd] at cl s1
              -- the class's heap
              obtain ⟨C, hC⟩ : ∃ C, C = si_ (si_ (si_ (sa_ (sa_ (sq_ τ (ga_ GC 33 p) S (some (nx_ c))) (ga_ GC 34 p) S a1) (ga_ GC 35 p) S a2) 313 (ga_ GC 31 p) (nI (S + 1))) 1212 x (nI (N 47 + 1))) 1214 x 0 := ⟨_, rfl⟩
              have cl2 : f_X11_paragraph c x (nI p) a1 a2 (nI t) = some (nI S, C) := by
                have i14 := ix9_ (k := S) (M := 14) (by omega) (by omega)
                have z2 : fr_ τ 310 (ga_ GC 31 p) = some (ga_ GC 33 p) := (rp 310).trans s2
                have z3 : kd_ τ (ga_ GC 33 p) = 26 := fq_kd q2 s3 (by decide)
                have z4 : ln_ τ (ga_ GC 33 p) = 14 := (q2.1.2.2.2.2 (ga_ GC 33 p) (by rw [s3]; decide)).2.trans s4
                have z5 : fr_ (sq_ τ (ga_ GC 33 p) S (some (nx_ c))) 311 (ga_ GC 31 p) = some (ga_ GC 34 p) := (rp 311).trans s5
                have z6 : kd_ (sq_ τ (ga_ GC 33 p) S (some (nx_ c))) (ga_ GC 34 p) = 20 := fq_kd q2 s6 (by decide)
                have z7 : ln_ (sq_ τ (ga_ GC 33 p) S (some (nx_ c))) (ga_ GC 34 p) = 14 := (q2.1.2.2.2.2 (ga_ GC 34 p) (by rw [s6]; decide)).2.trans s7
                have z8 : fr_ (sa_ (sq_ τ (ga_ GC 33 p) S (some (nx_ c))) (ga_ GC 34 p) S a1) 312 (ga_ GC 31 p) = some (ga_ GC 35 p) := (rp 312).trans s8
                have z9 : kd_ (sa_ (sq_ τ (ga_ GC 33 p) S (some (nx_ c))) (ga_ GC 34 p) S a1) (ga_ GC 35 p) = 20 := fq_kd q2 s9 (by decide)
                have z10 : ln_ (sa_ (sq_ τ (ga_ GC 33 p) S (some (nx_ c))) (ga_ GC 34 p) S a1) (ga_ GC 35 p) = 14 := (q2.1.2.2.2.2 (ga_ GC 35 p) (by rw [s9]; decide)).2.trans s10
                have z11 : fi_ (sa_ (sa_ (sq_ τ (ga_ GC 33 p) S (some (nx_ c))) (ga_ GC 34 p) S a1) (ga_ GC 35 p) S a2) 313 (ga_ GC 31 p) = nI S := (fp 313).trans s1
                have z12 : fi_ (si_ (sa_ (sa_ (sq_ τ (ga_ GC 33 p) S (some (nx_ c))) (ga_ GC 34 p) S a1) (ga_ GC 35 p) S a2) 313 (ga_ GC 31 p) (nI (S + 1))) 1212 x = nI (N 47) := by
                  rw [fi_si, up2_c (by decide)]
                  exact (fx 1212).trans f12
                rw [cl, if_neg (show ¬ (14 : Int32) ≤ nI S from nI_ge (b := 14) (by omega) (by decide)), lt_e, fx 1212, f12, if_pos (show nI (N 47) < 150 from nI_lt (b := 150) n150 (by decide)), lt_e, z2, nn_s, gt_t z3, gt_t u1, nI_clamp (by omega), z4, gt_t i14, lt_e, lt_e, z5, nn_s, gt_t z6, z7, gt_t i14, lt_e, lt_e, z8, nn_s, gt_t z9, z10, gt_t i14, lt_e, lt_e, z11, nI_1, lt_e, lt_e, z12, nI_1, lt_e, k_granted (show kd_ (si_ (si_ (sa_ (sa_ (sq_ τ (ga_ GC 33 p) S (some (nx_ c))) (ga_ GC 34 p) S a1) (ga_ GC 35 p) S a2) 313 (ga_ GC 31 p) (nI (S + 1))) 1212 x (nI (N 47 + 1))) x = 13 from hxτ), bd_s, hC]
              have nC : nx_ C = nx_ τ := by rw [hC]; rfl
              have slC : sl_ C = sl_ τ := by rw [hC]; rfl
              have fC : fq_ (fun q => (q = x ∨ q = ga_ GC 10 0 ∨ q = ga_ GC 12 0 ∨ q = ga_ GC 13 0) ∨ q = ga_ GC 31 p ∨ q = ga_ GC 33 p ∨ q = ga_ GC 34 p ∨ q = ga_ GC 35 p) c C := by
                rw [hC]
                exact fqi (fqi (fqi (fqa (fqa (fqq (fq_w q2 (fun _ q => Or.inl (Or.inr q))) (Or.inr (Or.inr (Or.inl rfl)))) (Or.inr (Or.inr (Or.inr (Or.inl rfl))))) (Or.inr (Or.inr (Or.inr (Or.inr rfl))))) (Or.inr (Or.inl rfl))) (Or.inl (Or.inl rfl))) (Or.inl (Or.inl rfl))
              -- the reference
              have zC : nx_ m ≤ nx_ C := by rw [nC, q3.1, k5.1]; omega
              have hb0 := mr_bm (z := C) (mr_of k1) zC
              obtain ⟨m2, g1, g2, g3, g4, g5, g6, g7⟩ := hit C zC
              have rf := ref C zC _ _ g1
              have hy2 := mo_y g2.1
              have e47' : fi_ m2 1647 y = nI (N 47) := (mo_n g2.1 (j := 47) (cj := 1647) (m := 150) (by decide)).1
              have wm2 := g2.1.1.1
              have yl : y < nx_ m2 := kd_ltn wm2 hy2 (by decide)
              obtain ⟨a26, b26, c26⟩ := mo_a g2.1 (j := 26) (cj := 1626) (K := 21) (n := 400) (by decide)
              obtain ⟨a48, b48, c48⟩ := mo_a g2.1 (j := 48) (cj := 1648) (K := 27) (n := 150) (by decide)
              have l26 : ga_ GM 26 0 < nx_ m2 := kd_ltn wm2 b26 (by decide)
              have l48 : ga_ GM 48 0 < nx_ m2 := kd_ltn wm2 b48 (by decide)
              obtain ⟨aa, haa⟩ : ∃ aa, aa = nx_ m2 := ⟨_, rfl⟩
              obtain ⟨M, hM⟩ : ∃ M, M = si_ (si_ (si_ (si_ (nw_ m2 15 0 7) 1400 aa (nI p)) 1401 aa (nI S)) 1402 aa a1) 1403 aa a2 := ⟨_, rfl⟩
              have fM0 : fq_ (fun _ => False) m2 M := by
                rw [hM]
                exact fq_sin (fq_sin (fq_sin (fq_sin (fq_nw wm2 (by decide)) (by omega)) (by omega)) (by omega)) (by omega)
              have nM : nx_ M = nx_ m2 + 1 := by rw [hM]; rfl
              have slM : sl_ M = sl_ m2 + 7 := by rw [hM]; rfl
              have kM : kd_ M aa = 15 := by rw [hM, haa]; exact kd_nw m2 15 0 7
              have tM : ai_ M (ga_ GM 26 0) = aV (as_ m y GM) 26 := by
                have : ai_ M (ga_ GM 26 0) = ai_ m2 (ga_ GM 26 0) := congrArg (fun z => z.2.2.2.2.1) (fM0.2.2 _ l26 (fun z => z))
                rw [this]
                exact mr_V' g2 (by decide)
              obtain ⟨m3, j1, j2, j3, ⟨j4, j5, j6⟩, j7, j8, j9, j10, j11⟩ := m_takesText (σ := M) (T := ga_ GM 26 0) (a := aa) (n := t) fM0.2.1 (fq_kd fM0 hy2 (by decide)) kM ⟨(fq_fr fM0 yl (fun z => z) 1626).trans a26, fq_kd fM0 b26 (by decide), (fM0.1.2.2.2.2 _ (by rw [b26]; decide)).2.trans c26⟩ (by omega) (fun j hj => by rw [tM]; exact k3.2.2.2.2.2.2.2.2.2.2.2.2 j hj)
              have nya : ¬ (y = aa) := by omega
              have y3r : ∀ d, fr_ m3 d y = fr_ m2 d y := fun d => (fq_fr j2 (by omega) nya d).trans (fq_fr fM0 yl (fun z => z) d)
              have y3f : ∀ d, fi_ m3 d y = fi_ m2 d y := fun d => (fq_fi j2 (by omega) nya d).trans (fq_fi fM0 yl (fun z => z) d)
              have k48 : kd_ m3 (ga_ GM 48 0) = 27 := fq_kd j2 (fq_kd fM0 b48 (by decide)) (by decide)
              have l48' : ln_ m3 (ga_ GM 48 0) = 150 := ((j2.1.2.2.2.2 _ (by rw [fq_kd fM0 b48 (by decide)]; decide)).2.trans (fM0.1.2.2.2.2 _ (by rw [b48]; decide)).2).trans c48
              have ar48 : ar_ m3 (ga_ GM 48 0) = ar_ m2 (ga_ GM 48 0) := (congrArg (fun z => z.2.2.2.2.2.1) (j2.2.2 _ (by omega) (by omega))).trans (congrArg (fun z => z.2.2.2.2.2.1) (fM0.2.2 _ l48 (fun z => z)))
              obtain ⟨M4, hM4⟩ : ∃ M4, M4 = tr_ (si_ (sq_ m3 (ga_ GM 48 0) (N 47) (some aa)) 1647 y (nI (N 47 + 1))) y 0 := ⟨_, rfl⟩
              have hy3 : kd_ m3 y = 17 := fq_kd j2 (fq_kd fM0 hy2 (by decide)) (by decide)
              have rf2 : f_X15_paragraph (bm_ m C) y (nI p) a1 a2 (nI t) = some (nI S, M4) := by
                have i150 := ix9_ (k := N 47) (M := 150) (by omega) (by omega)
                have w47 : fi_ m3 1647 y = nI (N 47) := (y3f 1647).trans e47'
                rw [rf, if_neg (by decide), if_neg (fun q => by have := (iq9_ (b := 14) (B := 14) rfl (by omega) (by decide)).mp q; omega), lt_e, e47', if_neg (fun q => by have := (iq9_ (b := 150) (B := 150) rfl (by omega) (by decide)).mp q; omega), gt_t (wf_0 wm2 (Nat.le_refl _)), lt_e, lt_e]
                unfold f_X13_init
                rw [bd_s, lt_e, lt_e, lt_e, lt_e, ← haa, ← hSd, ← hM, j1, bd_s, lt_e, y3r 1648, a48, lt_e, w47, nn_s, gt_t k48, nI_clamp (by omega), l48', gt_t i150, lt_e, lt_e, show fi_ (sq_ m3 (ga_ GM 48 0) (N 47) (some aa)) 1647 y = nI (N 47) from w47, nI_1, lt_e, m_done (show kd_ (si_ (sq_ m3 (ga_ GM 48 0) (N 47) (some aa)) 1647 y (nI (N 47 + 1))) y = 17 from hy3), bd_s, hM4]
              have f4 : fq_ (fun q => q = y ∨ q = ga_ GM 48 0) m2 M4 := by
                have f3 : fq_ (fun q => q = y ∨ q = ga_ GM 48 0) m2 m3 := by
                  refine ⟨tl_tr fM0.1 j2.1, j2.2.1, fun q hq _ => ?_⟩
                  exact (j2.2.2 q (by omega) (by omega)).trans (fM0.2.2 q hq (fun z => z))
                rw [hM4]
                exact fqt (fqi (fqq f3 (Or.inr rfl)) (Or.inl rfl)) (Or.inl rfl)
              have a4i : ∀ d, fi_ M4 d aa = fi_ m3 d aa := fun d => by
                rw [hM4]
                unfold tr_
                rw [fi_si, up2_ne (fun q => by omega), fi_si, up2_ne (fun q => by omega), fi_si, up2_ne (fun q => by omega)]
                rfl
              have kb : kd_ M4 (nx_ M) = 21 := by rw [hM4]; exact j4
              have lb : ln_ M4 (nx_ M) = t := by rw [hM4]; exact j5
              have ab : ∀ i, ai_ M4 (nx_ M) i = if i < t then ai_ M (ga_ GM 26 0) i else 0 := fun i => by rw [hM4]; exact j6 i
              have mfi : ∀ j, fi_ M4 (1600 + j) y = if j = 2 then -1 else if j = 1 then 0 else if j = 47 then nI (N 47 + 1) else fi_ m2 (1600 + j) y := fun j => by
                rw [hM4]
                unfold tr_
                rw [fi_si]
                by_cases z2 : j = 2
                · subst z2; rw [if_pos rfl]; exact up2_s
                rw [up2_c (by omega), if_neg z2, fi_si]
                by_cases z1 : j = 1
                · subst z1; rw [if_pos rfl]; exact up2_s
                rw [up2_c (by omega), if_neg z1, fi_si]
                by_cases z47 : j = 47
                · subst z47; rw [if_pos rfl]; exact up2_s
                rw [up2_c (by omega), if_neg z47]
                exact y3f _
              have hm := mr_nP (τ := M4) (a := aa) (b := nx_ M) g2 n150 f4 (by omega) (by omega) (by omega) (by rw [hM4]; exact fq_kd j2 kM (by decide)) kb (fun d => by rw [hM4]; exact y3r d) (by rw [hM4]; exact j7) (fun k => by
                  rw [hM4]
                  show up2_ (ar_ m3) (ga_ GM 48 0) (N 47) (some aa) (ga_ GM 48 0) k = if k = N 47 then some aa else ar_ m2 (ga_ GM 48 0) k
                  by_cases z : k = N 47
                  · rw [if_pos z, z]; exact up2_s
                  · rw [if_neg z, up2_n z, ar48]) (fun j hj => by
                  have hj3 : ∀ j, j ∈ MN → j ≠ 1 ∧ j ≠ 2 := by decide
                  rw [mfi j, if_neg (hj3 j hj).2, if_neg (hj3 j hj).1]
                  rfl)
              have aM : ∀ d, d ≠ 1404 → d ≠ 1405 → fi_ M4 d aa = fi_ M d aa := fun d z4 z5 => (a4i d).trans (j10 d z4 z5)
              have e0 : fi_ M4 1400 aa = nI p := (aM 1400 (by decide) (by decide)).trans (by rw [hM, fi_si, up2_c (by decide), fi_si, up2_c (by decide), fi_si, up2_c (by decide), fi_si, up2_s])
              have e1 : fi_ M4 1401 aa = nI S := (aM 1401 (by decide) (by decide)).trans (by rw [hM, fi_si, up2_c (by decide), fi_si, up2_c (by decide), fi_si, up2_s])
              have e2 : fi_ M4 1402 aa = a1 := (aM 1402 (by decide) (by decide)).trans (by rw [hM, fi_si, up2_c (by decide), fi_si, up2_s])
              have e3 : fi_ M4 1403 aa = a2 := (aM 1403 (by decide) (by decide)).trans (by rw [hM, fi_si, up2_s])
              have M40 : fi_ M 1640 y = (mc_ m').2.2 := (fq_fi fM0 yl (fun z => z) 1640).trans g6
              have M38 : fi_ M 1638 y = nI (mc_ m').1 := (fq_fi fM0 yl (fun z => z) 1638).trans g7
              have e4 : fi_ M4 1404 aa = (mc_ m').2.2 := (a4i 1404).trans (j8.trans M40)
              have e5 : fi_ M4 1405 aa = nI (mc_ m').1 := (a4i 1405).trans (j9.trans M38)
              obtain ⟨P, hPd⟩ : ∃ P : Nat → Nat → Int32, P = fun d k => if k = N 47 then (if d < 1500 then fi_ M4 d aa else 0) else aP (as_ m y GM) d k := ⟨_, rfl⟩
              obtain ⟨B, hBd⟩ : ∃ B : Nat → Nat → Int32, B = fun k => if k = N 47 then ai_ M4 (nx_ M) else aB (as_ m y GM) k := ⟨_, rfl⟩
              obtain ⟨L, hLd⟩ : ∃ L : Nat → Nat, L = fun k => if k = N 47 then ln_ M4 (nx_ M) else aL (as_ m y GM) k := ⟨_, rfl⟩
              have hm : mr_ M4 y (gn_ (gn_ GM 100 aa) 101 (nx_ M)) (aS (as_ m y GM), aV (as_ m y GM), P, B, L, (as_ m y GM).2.2.2.2.2) (fun q => if q = 47 then N 47 + 1 else if q = 30 then 0 else N q) := by
                rw [hPd, hBd, hLd]
                exact hm
              have Pn : ∀ d, d < 1500 → P d (N 47) = fi_ M4 d aa := fun d hd => by
                rw [hPd]
                show (if N 47 = N 47 then (if d < 1500 then _ else _) else _) = _
                rw [if_pos rfl, if_pos hd]
              have Po : ∀ k, k < N 47 → ∀ d, P d k = aP (as_ m y GM) d k := fun k hk d => by
                rw [hPd]
                exact if_neg (by omega)
              have Bo : ∀ k, k < N 47 → B k = aB (as_ m y GM) k ∧ L k = aL (as_ m y GM) k := fun k hk => by
                rw [hBd, hLd]
                exact ⟨if_neg (by omega), if_neg (by omega)⟩
              have Ln : L (N 47) = t := by
                rw [hLd]
                exact (if_pos rfl).trans lb
              have Bn : B (N 47) = ai_ M4 (nx_ M) := by
                rw [hBd]
                exact if_pos rfl
              have rc1 := rc_nt (c1 := C) (a := nx_ c) (b := nx_ c + 1) (P := P) (B := B) (L := L) k2 hp hN st14 fC
                (fun d => by rw [hC]; exact rx d)
                (fun d z2 z4 => by rw [hC, fi_si, up2_c z4, fi_si, up2_c z2, fi_si, up2_ne (fun q => xp q.2)]; exact fx d)
                (by rw [hC, fi_si, up2_c (by decide), fi_si, up2_s])
                (by rw [hC, fi_si, up2_s])
                (fun d => by rw [hC]; exact w3 d)
                (by rw [hC, fi_si, up2_ne (fun q => x10 q.2), fi_si, up2_ne (fun q => x10 q.2), fi_si, up2_ne (fun q => p10 q.2)]; exact w1)
                (by rw [hC, fi_si, up2_ne (fun q => x10 q.2), fi_si, up2_ne (fun q => x10 q.2), fi_si, up2_ne (fun q => p10 q.2)]; exact w2)
                (fun d => by rw [hC]; exact rp d)
                (fun d z => by rw [hC, fi_si, up2_ne (fun q => xp q.2.symm), fi_si, up2_ne (fun q => xp q.2.symm), fi_si, up2_c z]; exact fp d)
                (by rw [hC, fi_si, up2_ne (fun q => xp q.2.symm), fi_si, up2_ne (fun q => xp q.2.symm), fi_si, up2_s, hSd])
                (fun j => by
                  rw [hC, ← hSd]
                  show up2_ (ar_ τ) (ga_ GC 33 p) S (some (nx_ c)) (ga_ GC 33 p) j = _
                  by_cases z : j = S
                  · rw [if_pos z, z]; exact up2_s
                  · rw [if_neg z, up2_n z]
                    exact congrFun (congrArg (fun z => z.2.2.2.2.2.1) (q2.2.2 _ lt33 (nT 33 p c33 (by decide) (by decide) (by decide)))) j)
                (fun j => by
                  rw [hC, ← hSd, Pn 1402 (by decide), e2]
                  show up2_ (up2_ (ai_ τ) (ga_ GC 34 p) S a1) (ga_ GC 35 p) S a2 (ga_ GC 34 p) j = _
                  rw [up2_row n34]
                  by_cases z : j = S
                  · rw [if_pos z, z]; exact up2_s
                  · rw [if_neg z, up2_n z]
                    exact congrFun (congrArg (fun z => z.2.2.2.2.1) (q2.2.2 _ lt34 (nT 34 p c34 (by decide) (by decide) (by decide)))) j)
                (fun j => by
                  rw [hC, ← hSd, Pn 1403 (by decide), e3]
                  show up2_ (up2_ (ai_ τ) (ga_ GC 34 p) S a1) (ga_ GC 35 p) S a2 (ga_ GC 35 p) j = _
                  by_cases z : j = S
                  · rw [if_pos z, z]; exact up2_s
                  · rw [if_neg z, up2_n z, up2_row n34.symm]
                    exact congrFun (congrArg (fun z => z.2.2.2.2.1) (q2.2.2 _ lt35 (nT 35 p c35 (by decide) (by decide) (by decide)))) j)
                (Nat.le_refl _) (Nat.le_succ _) (by omega)
                ⟨by rw [hC]; exact u1, by rw [hC]; exact u2, by rw [hC, fi_si, up2_ne (fun q => by omega), fi_si, up2_ne (fun q => by omega), fi_si, up2_ne (fun q => by omega), Pn 1404 (by decide), e4]; exact u3, by rw [hC, fi_si, up2_ne (fun q => by omega), fi_si, up2_ne (fun q => by omega), fi_si, up2_ne (fun q => by omega), Pn 1405 (by decide), e5]; exact u4⟩
                (by rw [hC]; exact v1)
                (by
                  have ac : ai_ C (nx_ c + 1) = ai_ τ (nx_ c + 1) := by
                    rw [hC]
                    show up2_ (up2_ (ai_ τ) (ga_ GC 34 p) S a1) (ga_ GC 35 p) S a2 (nx_ c + 1) = _
                    rw [up2_row (by omega), up2_row (by omega)]
                  have lc : ln_ C (nx_ c + 1) = (mS_ m').length := by rw [hC]; exact v2
                  rw [ac, lc, Ln, Bn]
                  have ew : w9_ t (ai_ M4 (nx_ M)) = w9_ t (aV (as_ m y GM) 26) := w9_ext (fun k hk => by rw [ab k, if_pos hk, tM])
                  exact ⟨by omega, m', by rw [ew]; exact hrn, rfl, by omega, v4, v5⟩)
                Po Bo ((Pn 1400 (by decide)).trans e0) (by rw [← hSd]; exact (Pn 1401 (by decide)).trans e1)
              refine ⟨nI S, C, M4, cl2, rf2, inv_fin hI fC ⟨by rw [nC, q3.1]; omega, by rw [slC]; have := q3.2; omega⟩ (U := fun q => rU_ y GM q ∨ q = ga_ GM 48 0) (fq_tr (fq_tr (fq_si hb0.1.1.1 (Or.inl (Or.inl rfl))) (fq_w g3 (fun _ q => Or.inl q))) (fq_w f4 (fun _ q => q.elim (fun q => Or.inl (Or.inl q)) Or.inr))) ?_ (mr_S hm _) (fun j hj => ?_) rc1 ?_⟩
              · have z1 : nx_ M4 = nx_ m3 := by rw [hM4]; rfl
                have z2 : sl_ M4 = sl_ m3 := by rw [hM4]; rfl
                rw [z1, z2, j3.1, j3.2, nM, slM, g4.1, g4.2]
                exact ⟨by show nx_ C + 1 + 1 ≤ _; omega, by show sl_ C + 7 + t ≤ _; omega⟩
              · have h0 := hj0 j hj
                show _ = if j = 2 then -1 else if j = 1 then 0 else if j = 3 then 0 else if j = 30 then 0 else if j = 47 then nI (N 47 + 1) else aS (as_ m y GM) j
                rw [mfi j]
                by_cases z2 : j = 2
                · rw [if_pos z2, if_pos z2]
                rw [if_neg z2, if_neg z2]
                by_cases z1 : j = 1
                · rw [if_pos z1, if_pos z1]
                rw [if_neg z1, if_neg z1, g5 j hj, fi_si, up2_c (by omega)]
                by_cases z47 : j = 47
                · subst z47; rfl
                rw [if_neg z47, if_neg z47]
                rfl
              · exact pv_nt k3 hp hN st14 Po ((Pn 1400 (by decide)).trans e0) (by rw [Pn 1402 (by decide), e2]; exact c1) (by rw [Pn 1403 (by decide), e3]; exact lean_of (by omega) c2) (by rw [Pn 1404 (by decide), e4]; exact kz)
        · have hholds := k_holds k2 e30 a3
          rw [bi_f c3] at hholds
          refine ⟨-1, si_ c 1214 x 2, tr_ (si_ (bm_ m (si_ c 1214 x 2)) 1600 y 0) y 2, ?_, ?_, no_ pv_S hI 2 (by decide)⟩
          · unfold f_X11_paragraph f_X11_paragraph_b56
            rw [gt_t hx, p1, bd_s, oc_s, k_within, bd_s, bi_t c1, if_neg (by decide), gt_t p2, lt_e, s1, k_within, bd_s, bi_t c2, if_neg (by decide), lt_e, r8, nn_s, gt_t r8k, hholds, bd_s, if_pos rfl, gt_t hx, k_refused hx, bd_s]
          · have h1 := mr_si (mr_bm (z := si_ c 1214 x 2) (mr_of k1) (Nat.le_of_eq k5.1)) (j := 0) (c := 1600) (by decide) 0
            unfold f_X15_paragraph
            rw [gt_t (show kd_ (bm_ m (si_ c 1214 x 2)) y = 17 from mo_yb k1), lt_e]
            generalize si_ (bm_ m (si_ c 1214 x 2)) 1600 y 0 = σ at h1 ⊢
            have it := m_isTaped h1 a3
            rw [bi_f c3] at it
            have hy := mo_y h1.1
            rw [m_isPerson1 h1.1 hp, bd_s, if_neg (by decide), m_storySize h1 p, bd_s, m_in, bd_s, bi_t c1, if_neg (by decide), m_in, bd_s, bi_t c2, if_neg (by decide), it, bd_s, if_pos rfl]
            unfold f_X15_paragraph_b58
            rw [gt_t hy, m_refused hy, bd_s]
      · refine ⟨-1, si_ c 1214 x 2, tr_ (si_ (bm_ m (si_ c 1214 x 2)) 1600 y 0) y 2, ?_, ?_, no_ pv_S hI 2 (by decide)⟩
        · unfold f_X11_paragraph f_X11_paragraph_b56
          rw [gt_t hx, p1, bd_s, oc_s, k_within, bd_s, bi_t c1, if_neg (by decide), gt_t p2, lt_e, s1, k_within, bd_s, bi_f c2, if_pos rfl, gt_t hx, k_refused hx, bd_s]
        · have h1 := mr_si (mr_bm (z := si_ c 1214 x 2) (mr_of k1) (Nat.le_of_eq k5.1)) (j := 0) (c := 1600) (by decide) 0
          unfold f_X15_paragraph
          rw [gt_t (show kd_ (bm_ m (si_ c 1214 x 2)) y = 17 from mo_yb k1), lt_e]
          generalize si_ (bm_ m (si_ c 1214 x 2)) 1600 y 0 = σ at h1 ⊢
          have hy := mo_y h1.1
          rw [m_isPerson1 h1.1 hp, bd_s, if_neg (by decide), m_storySize h1 p, bd_s, m_in, bd_s, bi_t c1, if_neg (by decide), m_in, bd_s, bi_f c2, if_pos rfl]
          unfold f_X15_paragraph_b58
          rw [gt_t hy, m_refused hy, bd_s]
    · refine ⟨-1, si_ c 1214 x 2, tr_ (si_ (bm_ m (si_ c 1214 x 2)) 1600 y 0) y 2, ?_, ?_, no_ pv_S hI 2 (by decide)⟩
      · unfold f_X11_paragraph f_X11_paragraph_b56
        rw [gt_t hx, p1, bd_s, oc_s, k_within, bd_s, bi_f c1, if_pos rfl, gt_t hx, k_refused hx, bd_s]
      · have h1 := mr_si (mr_bm (z := si_ c 1214 x 2) (mr_of k1) (Nat.le_of_eq k5.1)) (j := 0) (c := 1600) (by decide) 0
        unfold f_X15_paragraph
        rw [gt_t (show kd_ (bm_ m (si_ c 1214 x 2)) y = 17 from mo_yb k1), lt_e]
        generalize si_ (bm_ m (si_ c 1214 x 2)) 1600 y 0 = σ at h1 ⊢
        have hy := mo_y h1.1
        rw [m_isPerson1 h1.1 hp, bd_s, if_neg (by decide), m_storySize h1 p, bd_s, m_in, bd_s, bi_f c1, if_pos rfl]
        unfold f_X15_paragraph_b58
        rw [gt_t hy, m_refused hy, bd_s]
  · have p0 := k_person0 k2 hN hout
    refine ⟨-1, si_ c 1214 x 1, tr_ (si_ (bm_ m (si_ c 1214 x 1)) 1600 y 0) y 1, ?_, ?_, no_ pv_S hI 1 (by decide)⟩
    · unfold f_X11_paragraph
      rw [gt_t hx, p0, bd_s, oc_n, k_refused hx, bd_s]
    · have h1 := mr_si (mr_bm (z := si_ c 1214 x 1) (mr_of k1) (Nat.le_of_eq k5.1)) (j := 0) (c := 1600) (by decide) 0
      unfold f_X15_paragraph
      rw [gt_t (show kd_ (bm_ m (si_ c 1214 x 1)) y = 17 from mo_yb k1), lt_e]
      generalize si_ (bm_ m (si_ c 1214 x 1)) 1600 y 0 = σ at h1 ⊢
      have hy := mo_y h1.1
      rw [m_isPerson0 h1.1 hout, bd_s, if_pos rfl, m_refused hy, bd_s]
end PA9
