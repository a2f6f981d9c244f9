/-! CALLS: rewrite. Written by wip/b/mk99zh.py. -/
section RW9
variable {ka : Nat → Nat} {x y o N0 : Nat}
theorem ok_rewrite : St_rewrite ka x y (inv_ ka TXp_ pv_ x y o N0) := fun n c m a0 a1 a2 hn hI => by
  obtain ⟨GC, GM, N, k1, k2, k3, k4, k5, k6, k7, k8⟩ := id hI
  have hN := (mo_n k1 (j := 5) (cj := 1605) (m := 30) (by decide)).2
  obtain ⟨e6, hN6⟩ := mo_n k1 (j := 6) (cj := 1606) (m := 5257439) (by decide)
  have hb : mr_ (bm_ m c) y GM (as_ m y GM) N := mr_bm (mr_of k1) (Nat.le_of_eq k5.1)
  have hx := rc_x k2
  obtain ⟨e30, hN30⟩ := mo_n k1 (j := 30) (cj := 1630) (m := 400) (by decide)
  obtain ⟨e47, hN47⟩ := mo_n k1 (j := 47) (cj := 1647) (m := 150) (by decide)
  have hj0 : ∀ j, j ∈ DS → j ≠ 0 := by decide
  rcases rg_ a0 (n := N 5) (by omega) with ⟨p, hp, rfl⟩ | hout
  · have hH := k3.2.1
    have hst := (hH p hp).2.2.2
    obtain ⟨p1, p2⟩ := k_person1 k2 hN hp
    have h15 := (k_per k2 hp).2.2.2.2
    have ta := k_textAt k2 hH hp a1
    obtain ⟨s1, ⟨s2, s3, s4⟩, -, -, -⟩ := k_story k2 hp
    obtain ⟨r8, r8k⟩ := rc_r1208 k2
    cases hf : pf9_ (as_ m y GM) N p a1 with
    | none =>
      rw [hf] at ta
      refine ⟨0, si_ c 1214 x 1, tr_ (si_ (bm_ m (si_ c 1214 x 1)) 1600 y 0) y 1, ?_, ?_, no_ pv_S hI 1 (by decide)⟩
      · unfold f_X11_rewrite
        rw [gt_t hx, p1, bd_s, ta, bd_s, Option.map_none, oc_n, k_denied hx, bd_s, gt_t (by decide)]
      · have h1 := mr_si (mr_bm (z := si_ c 1214 x 1) (mr_of k1) (Nat.le_of_eq k5.1)) (j := 0) (c := 1600) (by decide) 0
        unfold f_X15_rewrite
        rw [gt_t (show kd_ (bm_ m (si_ c 1214 x 1)) y = 17 from mo_yb k1), lt_e]
        generalize si_ (bm_ m (si_ c 1214 x 1)) 1600 y 0 = σ at h1 ⊢
        have at1 := m_at h1 (p := p) a1
        have hf1 : pf9_ (as_ m y GM) N p a1 = none := hf
        rw [hf1] at at1
        have hy := mo_y h1.1
        rw [m_isPerson1 h1.1 hp, bd_s, if_neg (by decide), at1, bd_s]
        unfold f_X15_rewrite_b23
        rw [Option.map_none, oc_n, gt_t hy, m_denied hy, bd_s, gt_t (by decide)]
    | some k =>
      rw [hf] at ta
      obtain ⟨f1, f2, f3⟩ := pf9_some hf
      obtain ⟨tx1, tx2, -⟩ := k_text k2 f1
      have lt := pl_st f1 f2
      have b1 : a1 = nI (pl_ (as_ m y GM) k) := f3.symm.trans tx2
      subst b1
      by_cases c3 : (0 : Int32) ≤ a2 ∧ a2 ≤ nI (N 30)
      · obtain ⟨t, ht, rfl⟩ : ∃ t, t ≤ N 30 ∧ a2 = nI t := by
          rcases rg_ a2 (n := N 30 + 1) (by omega) with ⟨t, ht, e⟩ | q
          · exact ⟨t, by omega, e⟩
          · rcases q with q | q
            · exact absurd q (Int32.not_lt.mpr c3.1)
            · exact absurd (Int32.le_trans q c3.2) (nI_ge (by omega) (by omega))
        have hS := k_hS k2
        have hbt := k_tape k2 k3.2.2.2.2.2.2.2.2.2.2.2.2 (n := t) (by omega)
        have hholds := k_holds k2 e30 (nI t)
        rw [bi_t c3] at hholds
        have cls : ∀ r9 s9, f_X6_read c (ga_ GC 10 0) (nI t) 0 = some (r9, s9) → f_X11_rewrite c x (nI p) (nI (pl_ (as_ m y GM) k)) (nI t) = oc_ r9 (bd_ (f_X11_denied s9 x (4 : Int32)) fun x19 s20 => gt_ (x19 = 0 ∨ x19 = 1) <| some (x19, s20)) (fun a18 => gt_ (kd_ s9 (ga_ GC 31 p) = 4) <| lt_ (fr_ s9 310 (ga_ GC 31 p)) fun r22 => nn_ r22 fun a23 => gt_ (kd_ s9 a23 = 26) <| gt_ (kd_ s9 a18 = 11) <| gt_ (¬ (nI (pl_ (as_ m y GM) k) < 0 ∨ ln_ s9 a23 ≤ (nI (pl_ (as_ m y GM) k)).toNatClampNeg)) <| lt_ (sq_ s9 a23 (nI (pl_ (as_ m y GM) k)).toNatClampNeg (some a18)) fun s24 => bd_ (f_X11_allowed s24 x) fun x25 s26 => gt_ (x25 = 0 ∨ x25 = 1) <| some (x25, s26)) := fun r9 s9 hr => by
          unfold f_X11_rewrite
          rw [gt_t hx, p1, bd_s, ta, bd_s, Option.map_some, oc_s, lt_e, r8, nn_s, gt_t r8k, hholds, bd_s, if_neg (by decide), lt_e, r8, nn_s, gt_t r8k, hr, bd_s]
          rfl
        have ref : ∀ (z : TH), nx_ m ≤ nx_ z → ∀ (b : Int32) (s9 : TH), f_X15_isText (si_ (bm_ m z) 1600 y 0) y (nI p) (nI t) = some (b, s9) → f_X15_rewrite (bm_ m z) y (nI p) (nI (pl_ (as_ m y GM) k)) (nI t) = if b = 0 then (some ((0 : Int32), s9)) else (bd_ (f_X15_takesText s9 y (some (ga_ GM 100 k)) (nI t)) fun x13 s14 => bd_ (f_X15_granted s14 y) fun x15 s16 => gt_ (x15 = 0 ∨ x15 = 1) <| some (x15, s16)) := fun z hz b s9 hr => by
          have hb0 := mr_bm (z := z) (mr_of k1) hz
          have hb1 := mr_si hb0 (j := 0) (c := 1600) (by decide) 0
          have it := m_isTaped hb1 (nI t)
          rw [bi_t c3] at it
          have at1 := m_at hb1 (p := p) (nI (pl_ (as_ m y GM) k))
          have hf1 : pf9_ (as_ m y GM) N p (nI (pl_ (as_ m y GM) k)) = some k := hf
          rw [hf1] at at1
          unfold f_X15_rewrite
          rw [gt_t (mo_y hb0.1), lt_e, m_isPerson1 hb1.1 hp, bd_s, if_neg (by decide), at1, bd_s]
          unfold f_X15_rewrite_b23
          rw [Option.map_some, oc_s, gt_t (mo_y hb1.1), it, bd_s, if_neg (by decide), hr, bd_s]
        have hit := fun (z : TH) (hz : nx_ m ≤ nx_ z) => m_isText (n := t) (mr_si (mr_bm (z := z) (mr_of k1) hz) (j := 0) (c := 1600) (by decide) 0).1.1.1 (mr_si (mr_bm (z := z) (mr_of k1) hz) (j := 0) (c := 1600) (by decide) 0) k3 hp (by omega) h15
        cases hrn : rN_ false (w9_ t (aV (as_ m y GM) 26)) t (m0_ false) 0 with
        | inl e =>
          obtain ⟨F', X', Y', q1, q2, q3, q4, q5⟩ := k_readF (r := false) hS hbt 0 rfl hrn
          rw [hrn] at hit
          obtain ⟨rc1, fc1⟩ := rc_rf (f := nI e.1) (v := 4) (s2 := nI e.2) k2 (kh_fq (F := F') (X := X') (Y := Y') k2.1.1) (fun _ => rfl) ((kh_fi 701).trans q2) ((kh_fi 702).trans q3) (fun _ => (kh_fi 703).trans q4) (fun z => absurd rfl z)
          obtain ⟨m2, g1, g2, g3, g4, g5⟩ := hit (si_ (kh_ c (ga_ GC 10 0) (ga_ GC 12 0) (ga_ GC 13 0) F' X' Y') 1214 x 4) (Nat.le_of_eq k5.1)
          have rf := ref (si_ (kh_ c (ga_ GC 10 0) (ga_ GC 12 0) (ga_ GC 13 0) F' X' Y') 1214 x 4) (Nat.le_of_eq k5.1) _ _ g1
          rw [if_pos rfl] at rf
          have cl := cls _ _ q1
          rw [oc_n, k_denied (show kd_ (kh_ c (ga_ GC 10 0) (ga_ GC 12 0) (ga_ GC 13 0) F' X' Y') x = 13 from hx), bd_s, gt_t (by decide)] at cl
          refine ⟨0, _, m2, cl, rf, inv_fin hI fc1 ⟨Nat.le_add_right _ _, Nat.le_add_right _ _⟩ (U := rU_ y GM) (fq_tr (fq_si (mr_bm (z := si_ (kh_ c (ga_ GC 10 0) (ga_ GC 12 0) (ga_ GC 13 0) F' X' Y') 1214 x 4) (mr_of k1) (Nat.le_of_eq k5.1)).1.1.1 (Or.inl rfl)) g3) ⟨by rw [g4.1]; exact Nat.le_add_right _ _, by rw [g4.2]; exact Nat.le_add_right _ _⟩ (mr_S g2 _) (fun j hj => ?_) rc1 ?_⟩
          · rw [g5 j hj]
            have h0 := hj0 j hj
            show _ = if j = 2 then nI e.2 else if j = 1 then 4 else if j = 3 then nI e.1 else if j = 30 then 0 else aS (as_ m y GM) j
            rw [fi_si, up2_c (by omega)]
            rfl
          · obtain ⟨h1, h2, h3, h4, h5, h6, h7, d1, d2, d3, d4, d5, d6⟩ := k3
            exact ⟨h1, h2, h3, h4, h5, h6, h7, d1, d2, d3, d4, d5, d6⟩
        | inr m' =>
          obtain ⟨τ, q1, q2, q3, ⟨u1, u2, u3, u4⟩, ⟨v1, v2, v3, v4, v5⟩, ⟨w1, w2, w3⟩, kz⟩ := k_readT (r := false) k2.1.1 hS hbt 0 rfl hrn
          rw [hrn] at hit
          have cl := cls _ _ q1
          have hxl : x < nx_ c := kd_ltn k2.1.1 hx (by decide)
          have hx0 : ∀ r i, i < gc_ GC r → r ≠ 0 → ga_ GC r i ≠ x := fun r i hi hr => rc_nx k2 hi hr
          have c31 : p < gc_ GC 31 := by rw [rc_31 k2]; exact hp
          have c33 : p < gc_ GC 33 := by rw [(rc_37 k2).2.2.1]; exact hp
          have nT : ∀ r i, i < gc_ GC r → r ≠ 10 → r ≠ 12 → r ≠ 13 → ¬ (ga_ GC r i = ga_ GC 10 0 ∨ ga_ GC r i = ga_ GC 12 0 ∨ ga_ GC r i = ga_ GC 13 0) := fun r i hi z1 z2 z3 z => by
            rcases z with z | z | z
            · exact sh_ne k2.1 hi (rc_1 k2 (by decide)) (Or.inl z1) z
            · exact sh_ne k2.1 hi (rc_1 k2 (by decide)) (Or.inl z2) z
            · exact sh_ne k2.1 hi (rc_1 k2 (by decide)) (Or.inl z3) z
          have nTx : ¬ (x = ga_ GC 10 0 ∨ x = ga_ GC 12 0 ∨ x = ga_ GC 13 0) := by
            have := nT 0 0 (rc_1 k2 (by decide)) (by decide) (by decide) (by decide)
            rw [k2.2.1.1] at this
            exact this
          have fx : ∀ d, fi_ τ d x = fi_ c d x := fun d => fq_fi q2 hxl nTx d
          have rx : ∀ d, fr_ τ d x = fr_ c d x := fun d => fq_fr q2 hxl nTx d
          have rp : ∀ d, fr_ τ d (ga_ GC 31 p) = fr_ c d (ga_ GC 31 p) := fun d => fq_fr q2 (sh_lt k2.1 c31) (nT 31 p c31 (by decide) (by decide) (by decide)) d
          have hxτ : kd_ τ x = 13 := fq_kd q2 hx (by decide)
          have x10 : ga_ GC 10 0 ≠ x := hx0 10 0 (rc_1 k2 (by decide)) (by decide)
          have lt33 := sh_lt k2.1 c33
          obtain ⟨S, hSd⟩ : ∃ S, S = pl_ (as_ m y GM) k := ⟨_, rfl⟩
          rw [← hSd] at cl lt
          obtain ⟨C, hC⟩ : ∃ C, C = si_ (sq_ τ (ga_ GC 33 p) S (some (nx_ c))) 1214 x 0 := ⟨_, rfl⟩
          have cl2 : f_X11_rewrite c x (nI p) (nI (pl_ (as_ m y GM) k)) (nI t) = some (1, C) := by
            have i14 := ix9_ (k := S) (M := 14) (by omega) (by omega)
            have z2 : fr_ τ 310 (ga_ GC 31 p) = some (ga_ GC 33 p) := (rp 310).trans s2
            have z3 : kd_ τ (ga_ GC 33 p) = 26 := fq_kd q2 s3 (by decide)
            have z4 : ln_ τ (ga_ GC 33 p) = 14 := (q2.1.2.2.2.2 (ga_ GC 33 p) (by rw [s3]; decide)).2.trans s4
            rw [← hSd, cl, oc_s, gt_t (fq_kd q2 p2 (by decide)), lt_e, z2, nn_s, gt_t z3, gt_t u1, nI_clamp (by omega), z4, gt_t i14, lt_e, k_allowed (show kd_ (sq_ τ (ga_ GC 33 p) S (some (nx_ c))) x = 13 from hxτ), bd_s, gt_t (by decide), hC]
          have nC : nx_ C = nx_ τ := by rw [hC]; rfl
          have slC : sl_ C = sl_ τ := by rw [hC]; rfl
          have fC : fq_ (fun q => (q = x ∨ q = ga_ GC 10 0 ∨ q = ga_ GC 12 0 ∨ q = ga_ GC 13 0) ∨ q = ga_ GC 33 p) c C := by
            rw [hC]
            exact fqi (fqq (fq_w q2 (fun _ q => Or.inl (Or.inr q))) (Or.inr rfl)) (Or.inl (Or.inl rfl))
          have zC : nx_ m ≤ nx_ C := by rw [nC, q3.1, k5.1]; omega
          have hb0 := mr_bm (z := C) (mr_of k1) zC
          obtain ⟨m2, g1, g2, g3, g4, g5, g6, g7⟩ := hit C zC
          have rf := ref C zC _ _ g1
          have hy2 := mo_y g2.1
          have wm2 := g2.1.1.1
          have yl : y < nx_ m2 := kd_ltn wm2 hy2 (by decide)
          obtain ⟨a26, b26, c26⟩ := mo_a g2.1 (j := 26) (cj := 1626) (K := 21) (n := 400) (by decide)
          have f1' : k < (fun q => if q = 30 then 0 else N q) 47 := f1
          obtain ⟨mp1, mp2, mp3, mp4, mp5, mp6, mp7⟩ := mr_P g2 f1'
          obtain ⟨m3, j1, j2, j3, ⟨j4, j5, j6⟩, j7, j8, j9, j10, j11⟩ := m_takesText (σ := m2) (T := ga_ GM 26 0) (a := ga_ GM 100 k) (n := t) wm2 hy2 mp4 ⟨a26, b26, c26⟩ (by omega) (fun j hj => by rw [mr_V' g2 (by decide)]; exact k3.2.2.2.2.2.2.2.2.2.2.2.2 j hj)
          have nya : ¬ (y = ga_ GM 100 k) := fun e => by
            rw [← e, hy2] at mp4
            cases mp4
          have y3r : ∀ d, fr_ m3 d y = fr_ m2 d y := fun d => fq_fr j2 yl nya d
          have y3f : ∀ d, fi_ m3 d y = fi_ m2 d y := fun d => fq_fi j2 yl nya d
          have hy3 : kd_ m3 y = 17 := fq_kd j2 hy2 (by decide)
          obtain ⟨M4, hM4⟩ : ∃ M4, M4 = tr_ m3 y 0 := ⟨_, rfl⟩
          have rf2 : f_X15_rewrite (bm_ m C) y (nI p) (nI (pl_ (as_ m y GM) k)) (nI t) = some (1, M4) := by
            rw [rf, if_neg (by decide), j1, bd_s, m_granted hy3, bd_s, gt_t (by decide), hM4]
          have f4 : fq_ (fun q => q = y ∨ q = ga_ GM 100 k) m2 M4 := by
            rw [hM4]
            exact fqt (fq_w j2 (fun _ q => Or.inr q)) (Or.inl rfl)
          have a4i : ∀ d, fi_ M4 d (ga_ GM 100 k) = fi_ m3 d (ga_ GM 100 k) := fun d => by
            rw [hM4]
            unfold tr_
            rw [fi_si, up2_ne (fun q => nya q.2.symm), fi_si, up2_ne (fun q => nya q.2.symm)]
          have kb : kd_ M4 (nx_ m2) = 21 := by rw [hM4]; exact j4
          have lb : ln_ M4 (nx_ m2) = t := by rw [hM4]; exact j5
          have ab : ∀ i, ai_ M4 (nx_ m2) i = if i < t then ai_ m2 (ga_ GM 26 0) i else 0 := fun i => by rw [hM4]; exact j6 i
          have mfi : ∀ j, fi_ M4 (1600 + j) y = if j = 2 then -1 else if j = 1 then 0 else fi_ m2 (1600 + j) y := fun j => by
            rw [hM4]
            unfold tr_
            rw [fi_si]
            by_cases z2 : j = 2
            · subst z2; rw [if_pos rfl]; exact up2_s
            rw [up2_c (by omega), if_neg z2, fi_si]
            by_cases z1 : j = 1
            · subst z1; rw [if_pos rfl]; exact up2_s
            rw [up2_c (by omega), if_neg z1]
            exact y3f _
          have hm := mr_xP (τ := M4) (b := nx_ m2) g2 f1' f4 (Nat.le_refl _) kb (fun d => by rw [hM4]; exact y3r d) (by rw [hM4]; exact j7) (fun j hj => by
              have hj3 : ∀ j, j ∈ MN → j ≠ 1 ∧ j ≠ 2 := by decide
              rw [mfi j, if_neg (hj3 j hj).2, if_neg (hj3 j hj).1])
          have e4 : fi_ M4 1404 (ga_ GM 100 k) = (mc_ m').2.2 := (a4i 1404).trans (j8.trans g6)
          have e5 : fi_ M4 1405 (ga_ GM 100 k) = nI (mc_ m').1 := (a4i 1405).trans (j9.trans g7)
          obtain ⟨P, hPd⟩ : ∃ P : Nat → Nat → Int32, P = fun d q => if q = k then (if d < 1500 then fi_ M4 d (ga_ GM 100 k) else 0) else aP (as_ m y GM) d q := ⟨_, rfl⟩
          obtain ⟨B, hBd⟩ : ∃ B : Nat → Nat → Int32, B = fun q => if q = k then ai_ M4 (nx_ m2) else aB (as_ m y GM) q := ⟨_, rfl⟩
          obtain ⟨L, hLd⟩ : ∃ L : Nat → Nat, L = fun q => if q = k then ln_ M4 (nx_ m2) else aL (as_ m y GM) q := ⟨_, rfl⟩
          rw [← hPd, ← hBd, ← hLd] at hm
          have Pn : ∀ d, d < 1500 → P d k = fi_ M4 d (ga_ GM 100 k) := fun d hd => by
            rw [hPd]
            show (if k = k then (if d < 1500 then _ else _) else _) = _
            rw [if_pos rfl, if_pos hd]
          have aP0 : ∀ d, ¬ d < 1500 → aP (as_ m y GM) d k = 0 := fun d hd => if_neg (fun q => hd q.1)
          have Po : ∀ q, ∀ d, (q ≠ k ∨ (d ≠ 1404 ∧ d ≠ 1405)) → P d q = aP (as_ m y GM) d q := fun q d hz => by
            by_cases z : q = k
            · subst z
              have hz2 : d ≠ 1404 ∧ d ≠ 1405 := hz.resolve_left (fun w => w rfl)
              by_cases hd : d < 1500
              · rw [Pn d hd, a4i d, j10 d hz2.1 hz2.2]
                exact mp1 d hd
              · rw [aP0 d hd, hPd]
                show (if q = q then (if d < 1500 then _ else _) else _) = _
                rw [if_pos rfl, if_neg hd]
            · rw [hPd]
              exact if_neg z
          have Bo : ∀ q, q ≠ k → B q = aB (as_ m y GM) q ∧ L q = aL (as_ m y GM) q := fun q hq => by
            rw [hBd, hLd]
            exact ⟨if_neg hq, if_neg hq⟩
          have Ln : L k = t := by
            rw [hLd]
            exact (if_pos rfl).trans lb
          have Bn : B k = ai_ M4 (nx_ m2) := by
            rw [hBd]
            exact if_pos rfl
          have rc1 := rc_xt (c1 := C) (a := nx_ c) (b := nx_ c + 1) (P := P) (B := B) (L := L) k2 hp hN f1 f2 fC
            (fun d => by rw [hC]; exact rx d)
            (fun d z4 => by rw [hC, fi_si, up2_c z4]; exact fx d)
            (by rw [hC, fi_si, up2_s])
            (fun d => by rw [hC]; exact w3 d)
            (by rw [hC, fi_si, up2_ne (fun q => x10 q.2)]; exact w1)
            (by rw [hC, fi_si, up2_ne (fun q => x10 q.2)]; exact w2)
            (fun j => by
              rw [hC, ← hSd]
              show up2_ (ar_ τ) (ga_ GC 33 p) S (some (nx_ c)) (ga_ GC 33 p) j = _
              by_cases z : j = S
              · rw [if_pos z, z]; exact up2_s
              · rw [if_neg z, up2_n z]
                exact congrFun (congrArg (fun z => z.2.2.2.2.2.1) (q2.2.2 _ lt33 (nT 33 p c33 (by decide) (by decide) (by decide)))) j)
            (Nat.le_refl _) (Nat.le_succ _) (by omega)
            ⟨by rw [hC]; exact u1, by rw [hC]; exact u2, by rw [hC, fi_si, up2_ne (fun q => by omega), Pn 1404 (by decide), e4]; exact u3, by rw [hC, fi_si, up2_ne (fun q => by omega), Pn 1405 (by decide), e5]; exact u4⟩
            (by rw [hC]; exact v1)
            (by
              have ac : ai_ C (nx_ c + 1) = ai_ τ (nx_ c + 1) := by rw [hC]; rfl
              have lc : ln_ C (nx_ c + 1) = (mS_ m').length := by rw [hC]; exact v2
              rw [ac, lc, Ln, Bn]
              have ew : w9_ t (ai_ M4 (nx_ m2)) = w9_ t (aV (as_ m y GM) 26) := w9_ext (fun i hi => by rw [ab i, if_pos hi, mr_V' g2 (by decide)])
              exact ⟨by omega, m', by rw [ew]; exact hrn, rfl, by omega, v4, v5⟩)
            Po Bo
          refine ⟨1, C, M4, cl2, rf2, inv_fin hI fC ⟨by rw [nC, q3.1]; omega, by rw [slC]; have := q3.2; omega⟩ (U := fun q => rU_ y GM q ∨ q = ga_ GM 100 k) (fq_tr (fq_tr (fq_si hb0.1.1.1 (Or.inl (Or.inl rfl))) (fq_w g3 (fun _ q => Or.inl q))) (fq_w f4 (fun _ q => q.elim (fun q => Or.inl (Or.inl q)) Or.inr))) ?_ (mr_S hm _) (fun j hj => ?_) rc1 ?_⟩
          · have z1 : nx_ M4 = nx_ m3 := by rw [hM4]; rfl
            have z2 : sl_ M4 = sl_ m3 := by rw [hM4]; rfl
            rw [z1, z2, j3.1, j3.2, g4.1, g4.2]
            exact ⟨by show nx_ C + 1 ≤ _; omega, by show sl_ C + t ≤ _; omega⟩
          · have h0 := hj0 j hj
            show _ = if j = 2 then -1 else if j = 1 then 0 else if j = 3 then 0 else if j = 30 then 0 else aS (as_ m y GM) j
            rw [mfi j]
            by_cases z2 : j = 2
            · rw [if_pos z2, if_pos z2]
            rw [if_neg z2, if_neg z2]
            by_cases z1 : j = 1
            · rw [if_pos z1, if_pos z1]
            rw [if_neg z1, if_neg z1, g5 j hj, fi_si, up2_c (by omega)]
            rfl
          · exact pv_xt k3 Po (by rw [Pn 1404 (by decide), e4]; exact kz)
      · have hholds := k_holds k2 e30 a2
        rw [bi_f c3] at hholds
        refine ⟨0, si_ c 1214 x 2, tr_ (si_ (bm_ m (si_ c 1214 x 2)) 1600 y 0) y 2, ?_, ?_, no_ pv_S hI 2 (by decide)⟩
        · unfold f_X11_rewrite
          rw [gt_t hx, p1, bd_s, ta, bd_s, Option.map_some, oc_s, lt_e, r8, nn_s, gt_t r8k, hholds, bd_s, if_pos rfl, k_denied hx, bd_s, gt_t (by decide)]
        · have h1 := mr_si (mr_bm (z := si_ c 1214 x 2) (mr_of k1) (Nat.le_of_eq k5.1)) (j := 0) (c := 1600) (by decide) 0
          unfold f_X15_rewrite
          rw [gt_t (show kd_ (bm_ m (si_ c 1214 x 2)) y = 17 from mo_yb k1), lt_e]
          generalize si_ (bm_ m (si_ c 1214 x 2)) 1600 y 0 = σ at h1 ⊢
          have it := m_isTaped h1 a2
          rw [bi_f c3] at it
          have hy := mo_y h1.1
          have at1 := m_at h1 (p := p) (nI (pl_ (as_ m y GM) k))
          have hf1 : pf9_ (as_ m y GM) N p (nI (pl_ (as_ m y GM) k)) = some k := hf
          rw [hf1] at at1
          rw [m_isPerson1 h1.1 hp, bd_s, if_neg (by decide), at1, bd_s]
          unfold f_X15_rewrite_b23
          rw [Option.map_some, oc_s, gt_t hy, it, bd_s, if_pos rfl, m_denied hy, bd_s, gt_t (by decide)]
  · have p0 := k_person0 k2 hN hout
    refine ⟨0, si_ c 1214 x 1, tr_ (si_ (bm_ m (si_ c 1214 x 1)) 1600 y 0) y 1, ?_, ?_, no_ pv_S hI 1 (by decide)⟩
    · unfold f_X11_rewrite
      rw [gt_t hx, p0, bd_s, k_textAt0, bd_s, oc_n, k_denied hx, bd_s, gt_t (by decide)]
    · have h1 := mr_si (mr_bm (z := si_ c 1214 x 1) (mr_of k1) (Nat.le_of_eq k5.1)) (j := 0) (c := 1600) (by decide) 0
      unfold f_X15_rewrite
      rw [gt_t (show kd_ (bm_ m (si_ c 1214 x 1)) y = 17 from mo_yb k1), lt_e]
      generalize si_ (bm_ m (si_ c 1214 x 1)) 1600 y 0 = σ at h1 ⊢
      have hy := mo_y h1.1
      rw [m_isPerson0 h1.1 hout, bd_s, if_pos rfl]
      unfold f_X15_rewrite_b23
      rw [oc_n, gt_t hy, m_denied hy, bd_s, gt_t (by decide)]
end RW9
