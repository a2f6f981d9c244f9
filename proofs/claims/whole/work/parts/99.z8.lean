/-! CALLS: print, paragraphOf. Written by wip/b/mk99z8.py. -/
theorem by9_nar (c : Nat) : vp_nar .byte (by9_ c) = by9_ c := by
  unfold by9_
  rw [pk_vb, pk_vb]
section PC9
variable {ka : Nat → Nat} {TX : Nat → Nat → (Nat → Int32) → Nat → (Nat → Int32) → Prop} {x y o N0 : Nat}
theorem ob_pr {A : AS} {G : GH} {N : Nat → Nat} {r i : Nat} {m : CE} (S : Nat → Int32) (L : List Nat) (hd : ¬ r ∈ ([0, 10, 16] : List Nat)) (h : ob_ ka TX A G N r i m) : ob_ ka TX (S, (fun j => if j = 28 then (fun i => if i < L.length then by9_ (L.getD i 0) else aV A 28 i) else aV A j), A.2.2) G (fun q => if q = 42 then L.length else N q) r i m := by
  match r, hd, h with
  | 0, hd, h => exact absurd (by decide) hd
  | 1, hd, h => exact h
  | 2, hd, h => exact h
  | 3, hd, h => exact h
  | 4, hd, h => exact h
  | 5, hd, h => exact h
  | 6, hd, h => exact h
  | 7, hd, h => exact h
  | 8, hd, h => exact h
  | 9, hd, h => exact h
  | 10, hd, h => exact absurd (by decide) hd
  | 11, hd, h => exact h
  | 12, hd, h => exact h
  | 13, hd, h => exact h
  | 14, hd, h => exact h
  | 15, hd, h => exact h
  | 16, hd, h => exact absurd (by decide) hd
  | 17, hd, h => exact h
  | 18, hd, h => exact h
  | 19, hd, h => exact h
  | 20, hd, h => exact h
  | 21, hd, h => exact h
  | 22, hd, h => exact h
  | 23, hd, h => exact h
  | 24, hd, h => exact h
  | 25, hd, h => exact h
  | 26, hd, h => exact h
  | 27, hd, h => exact h
  | 28, hd, h => exact h
  | 29, hd, h => exact h
  | 30, hd, h => exact h
  | 31, hd, h => exact h
  | 32, hd, h => exact h
  | 33, hd, h => exact h
  | 34, hd, h => exact h
  | 35, hd, h => exact h
  | 36, hd, h => exact h
  | 37, hd, h => exact h
  | 38, hd, h => exact h
  | 39, hd, h => exact h
  | 40, hd, h => exact h
  | 41, hd, h => exact h
  | 42, hd, h => exact h
  | 43, hd, h => exact h
  | 44, hd, h => exact h
  | 45, hd, h => exact h
  | 46, hd, h => exact h
  | 47, hd, h => exact h
  | 48, hd, h => exact h
  | 49, hd, h => exact h
  | 50, hd, h => exact h
  | 51, hd, h => exact h
  | 52, hd, h => exact h
  | 53, hd, h => exact h
  | 54, hd, h => exact h
  | 55, hd, h => exact h
  | 56, hd, h => exact h
  | 57, hd, h => exact h
  | 58, hd, h => exact h
  | r + 59, hd, h => exact h

theorem rc_pr {c : TH} {G : GH} {A : AS} {N : Nat → Nat} {F X Y : Nat → Int32} {L : List Nat} (h : rc_ ka TX c x G A N) (hX : ∀ i, i < L.length → X i = by9_ (L.getD i 0)) (hL : L.length ≤ 1024) : rc_ ka TX (si_ (si_ (kp_ c G F X Y) 1215 x (nI L.length)) 1214 x 0) x G (s3_ (fun q => if q = 42 then nI L.length else aS A q) 0, (fun j => if j = 28 then (fun i => if i < L.length then by9_ (L.getD i 0) else aV A 28 i) else aV A j), A.2.2) (fun q => if q = 42 then L.length else N q) ∧ fq_ (fun q => (q = ga_ G 14 0 ∨ q = ga_ G 16 0 ∨ q = ga_ G 15 0) ∨ q = x) c (si_ (si_ (kp_ c G F X Y) 1215 x (nI L.length)) 1214 x 0) := by
  have hx0 : ∀ r i, i < gc_ G r → r ≠ 0 → ga_ G r i ≠ x := fun r i hi hr => rc_nx h hi hr
  have hf : fq_ (fun q => (q = ga_ G 14 0 ∨ q = ga_ G 16 0 ∨ q = ga_ G 15 0) ∨ q = x) c (si_ (si_ (kp_ c G F X Y) 1215 x (nI L.length)) 1214 x 0) := fqi (fqi (fq_w (kh_fq h.1.1) (fun _ q => Or.inl q)) (Or.inr rfl)) (Or.inr rfl)
  refine ⟨rc_gen2 h hf (sh_fq h.1 hf) h.2.2.1 [0, 10, 14, 15, 16] (fun r _ => ⟨rfl, fun _ => rfl⟩) h.2.1.1 (fun q hq => ?_) (fun r i m hd h9 => ob_pr _ L (fun q => hd (by revert q; simp only [List.mem_cons, List.not_mem_nil, or_false]; omega)) h9) (fun r i hd hi => ?_), hf⟩
  · rcases hq with (hq | hq | hq) | hq
    · exact Or.inl ⟨14, 0, by decide, rc_1 h (by decide), hq⟩
    · exact Or.inl ⟨16, 0, by decide, rc_1 h (by decide), hq⟩
    · exact Or.inl ⟨15, 0, by decide, rc_1 h (by decide), hq⟩
    · exact Or.inl ⟨0, 0, by decide, rc_1 h (by decide), hq.trans h.2.1.1.symm⟩
  · simp only [List.mem_cons, List.not_mem_nil, or_false] at hd
    rcases hd with rfl | rfl | rfl | rfl | rfl
    · rw [g0_ h (by decide) hi]
      have q := h.2.2.2 0 0 (rc_1 h (by decide))
      rw [h.2.1.1] at q ⊢
      have fx : ∀ d, fi_ (kp_ c G F X Y) d x = fi_ c d x := fun d => if_neg (fun e => hx0 14 0 (rc_1 h (by decide)) (by decide) e.symm)
      have fy : ∀ d, d ≠ 1214 → d ≠ 1215 → fi_ (si_ (si_ (kp_ c G F X Y) 1215 x (nI L.length)) 1214 x 0) d x = fi_ c d x := fun d d1 d2 => by
        rw [fi_si, up2_c d1, fi_si, up2_c d2, fx]
      obtain ⟨qr, q1, q2, q3, q4, q5, q6, q7, q8⟩ := q
      have f15 : fi_ (si_ (si_ (kp_ c G F X Y) 1215 x (nI L.length)) 1214 x 0) 1215 x = nI L.length := by rw [fi_si, up2_c (by decide), fi_si, up2_s]
      exact ⟨qr, (fy 1211 (by decide) (by decide)).trans q1, (fy 1212 (by decide) (by decide)).trans q2, (fy 1213 (by decide) (by decide)).trans q3, up2_s, f15, (fy 1216 (by decide) (by decide)).trans q6, (fy 1217 (by decide) (by decide)).trans q7, (fy 1219 (by decide) (by decide)).trans q8⟩
    · rw [g0_ h (by decide) hi, rc_ce h hf (rc_1 h (by decide)) (fun z => ?_)]
      · exact ob_10 h 0 (by decide) A.2
      · rcases z with (z | z | z) | z
        · exact sh_ne h.1 (rc_1 h (by decide)) (rc_1 h (by decide)) (Or.inl (by decide)) z
        · exact sh_ne h.1 (rc_1 h (by decide)) (rc_1 h (by decide)) (Or.inl (by decide)) z
        · exact sh_ne h.1 (rc_1 h (by decide)) (rc_1 h (by decide)) (Or.inl (by decide)) z
        · exact hx0 10 0 (rc_1 h (by decide)) (by decide) z
    · rw [g0_ h (by decide) hi]
      obtain ⟨q1, q2⟩ := h.2.2.2 14 0 (rc_1 h (by decide))
      exact ⟨q1, q2⟩
    · trivial
    · rw [g0_ h (by decide) hi]
      refine ⟨hL, fun j hj => ?_⟩
      have hj : j < L.length := hj
      show ai_ (kp_ c G F X Y) (ga_ G 16 0) j = if j < L.length then by9_ (L.getD j 0) else aV A 28 j
      rw [if_pos hj, ← hX j hj]
      exact kh_S j
theorem k_fillK {σ : TH} {G : GH} {A : AS} {N : Nat → Nat} (h : rc_ ka TX σ x G A N) {p : Nat} (hk : kf_ σ x G A N p) : ∃ F' Y', f_X11_fillPrinter σ x (some (ga_ G 31 p)) = some ((), kp_ σ G F' (ai_ σ (ga_ G 16 0)) Y') ∧ rc_ ka TX (kp_ σ G F' (ai_ σ (ga_ G 16 0)) Y') x G A N ∧ KN_ (EP_ A N p) false (fun c => fi_ (kp_ σ G F' (ai_ σ (ga_ G 16 0)) Y') c (ga_ G 14 0)) (ai_ (kp_ σ G F' (ai_ σ (ga_ G 16 0)) Y') (ga_ G 15 0)) := by
  obtain ⟨F', Y', h1, h2⟩ := k_fill h hk
  refine ⟨F', Y', h1, rc_kp h (rc_o28 h), ?_⟩
  have e1 : (fun c => fi_ (kp_ σ G F' (ai_ σ (ga_ G 16 0)) Y') c (ga_ G 14 0)) = F' := funext fun c => kh_fi c
  have e2 : ai_ (kp_ σ G F' (ai_ σ (ga_ G 16 0)) Y') (ga_ G 15 0) = Y' := funext fun i => kh_K (hP_ne (k_hP h)) i
  rw [e1, e2]
  exact h2
end PC9
section PM9
variable {σ : TH} {y : Nat} {G : GH} {A : AS} {N : Nat → Nat}
/-- the list goes from the scratch into the out -/
theorem m_copyOut {L : List Nat} (h : mr_ σ y G A N) (hL : L.length ≤ 880) (hs : ∀ i, i < L.length → ai_ σ (ga_ G 27 0) i = by9_ (L.getD i 0)) (h42 : N 42 = L.length) : ∃ r, f_X15_print_b46 fu_ σ y (nI 0) = some r ∧ r.1 = nI L.length ∧ mr_ r.2 y G (s3_ (fun q => if q = 42 then nI L.length else aS A q) 0, (fun j => if j = 28 then (fun i => if i < L.length then by9_ (L.getD i 0) else aV A 28 i) else aV A j), A.2.2) N ∧ fq_ (fun q => q = y ∨ q = ga_ G 28 0) σ r.2 ∧ (∀ j, fi_ r.2 (1600 + j) y = if j = 2 then -1 else if j = 1 then 0 else fi_ σ (1600 + j) y) ∧ nx_ r.2 = nx_ σ ∧ sl_ r.2 = sl_ σ := by
  have g27 : 0 < gc_ G 27 := by rw [(h.1.2.2.1 27 (by decide)).1]; decide
  have g28 : 0 < gc_ G 28 := by rw [(h.1.2.2.1 28 (by decide)).1]; decide
  have n2 : ga_ G 27 0 ≠ ga_ G 28 0 := sh_ne h.1.1 g27 g28 (Or.inl (by decide))
  refine lpe_ (F := fun f (a : TH) k => f_X15_print_b46 f a y k) L.length (fun k a => mr_ a y G (aS A, (fun j => if j = 28 then (fun i => if i < k then by9_ (L.getD i 0) else aV A 28 i) else aV A j), A.2.2) N ∧ fq_ (fun q => q = y ∨ q = ga_ G 28 0) σ a ∧ fi_ a = fi_ σ ∧ ai_ a (ga_ G 27 0) = ai_ σ (ga_ G 27 0) ∧ nx_ a = nx_ σ ∧ sl_ a = sl_ σ) _ (fun f k a hk ha => ?_) (fun f a ha => ?_) (by omega) σ ⟨?_, fq_rf h.1.1.1, rfl, rfl, rfl, rfl⟩
  · obtain ⟨h1, h2, h3, h4, h5, h6⟩ := ha
    have hy := mo_y h1.1
    have e42 := (mo_n h1.1 (j := 42) (cj := 1642) (m := 1200) (by decide)).1
    rw [h42] at e42
    obtain ⟨a27, b27, c27⟩ := mo_a h1.1 (j := 27) (cj := 1627) (K := 21) (n := 1200) (by decide)
    obtain ⟨a28, b28, c28⟩ := mo_a h1.1 (j := 28) (cj := 1628) (K := 21) (n := 1200) (by decide)
    have sc : ai_ a (ga_ G 27 0) k = by9_ (L.getD k 0) := by rw [h4]; exact hs k hk
    have hm := mr_sa h1 (j := 28) (by decide) k (by9_ (L.getD k 0))
    refine ⟨sa_ a (ga_ G 28 0) k (by9_ (L.getD k 0)), ?_, ?_, fqa h2 (Or.inr rfl), h3, ?_, h5, h6⟩
    · show f_X15_print_b46 (f + 1) a y (nI k) = f_X15_print_b46 f _ y (nI (k + 1))
      rw [f_X15_print_b46, gt_t hy, lt_e, e42, if_neg (nI_ge hk (by omega)), lt_e, a28, lt_e, a27, nn_s, gt_t b27, nI_clamp (by omega), c27, gt_t (ix9_ (k := k) (M := 1200) (by omega) (by omega)), lt_e, sc, nn_s, gt_t b28, c28, gt_t (ix9_ (k := k) (M := 1200) (by omega) (by omega)), lt_e, by9_nar, lt_e, nI_1]
    · have e : up2_ (fun j => if j = 28 then (fun i => if i < k then by9_ (L.getD i 0) else aV A 28 i) else aV A j) 28 k (by9_ (L.getD k 0)) = fun j => if j = 28 then (fun i => if i < k + 1 then by9_ (L.getD i 0) else aV A 28 i) else aV A j := by
        funext j i
        unfold up2_
        by_cases z : j = 28
        · subst z
          by_cases z2 : i = k
          · subst z2; simp
          · by_cases z3 : i < k
            · simp [z2, z3, Nat.lt_succ_of_lt z3]
            · simp [z2, z3, show ¬ i < k + 1 by omega]
        · simp [z]
      have hm : mr_ (sa_ a (ga_ G 28 0) k (by9_ (L.getD k 0))) y G (aS A, up2_ (fun j => if j = 28 then (fun i => if i < k then by9_ (L.getD i 0) else aV A 28 i) else aV A j) 28 k (by9_ (L.getD k 0)), A.2.2) N := hm
      rw [e] at hm
      exact hm
    · rw [ai_sa, up2_row n2]
      exact h4
  · obtain ⟨h1, h2, h3, h4, h5, h6⟩ := ha
    have hy := mo_y h1.1
    have e42 := (mo_n h1.1 (j := 42) (cj := 1642) (m := 1200) (by decide)).1
    rw [h42] at e42
    refine ⟨(nI L.length, tr_ a y 0), ?_, rfl, mr_tr h1 0, fqt h2 (Or.inl rfl), fun j => ?_, h5, h6⟩
    · show f_X15_print_b46 (f + 1) a y (nI L.length) = _
      rw [f_X15_print_b46, gt_t hy, lt_e, e42, if_pos (nI_le (Nat.le_refl _) (by omega)), lt_e, m_done hy, bd_s]
    · show fi_ (tr_ a y 0) (1600 + j) y = _
      unfold tr_
      rw [fi_si]
      by_cases z2 : j = 2
      · subst z2; rw [if_pos rfl]; exact up2_s
      · rw [up2_c (by omega), if_neg z2, fi_si]
        by_cases z1 : j = 1
        · subst z1; rw [if_pos rfl]; exact up2_s
        · rw [up2_c (by omega), if_neg z1, h3]
  · have e : (fun j => if j = 28 then (fun i => if i < 0 then by9_ (L.getD i 0) else aV A 28 i) else aV A j) = aV A := by
      funext j
      by_cases z : j = 28
      · subst z; simp
      · simp [z]
    rw [e]
    exact h
end PM9
section PD9
variable {ka : Nat → Nat} {x y o N0 : Nat}
theorem ok_print : St_print ka x y (inv_ ka TXp_ pv_ x y o N0) := fun n c m a0 a1 hn hI => by
  obtain ⟨GC, GM, N, k1, k2, k3, k4, k5, k6, k7, k8⟩ := id hI
  have hN := (mo_n k1 (j := 5) (cj := 1605) (m := 30) (by decide)).2
  obtain ⟨e6, hN6⟩ := mo_n k1 (j := 6) (cj := 1606) (m := 5257439) (by decide)
  have hb : mr_ (bm_ m c) y GM (as_ m y GM) N := mr_bm (mr_of k1) (Nat.le_of_eq k5.1)
  have hx := rc_x k2
  rcases rg_ a0 (n := N 5) (by omega) with ⟨p, hp, rfl⟩ | hout
  · have hH := k3.2.1
    obtain ⟨p1, p2⟩ := k_person1 k2 hN hp
    have ta := k_textAt k2 hH hp a1
    have h15 := (k_per k2 hp).2.2.2.2
    cases hf : pf9_ (as_ m y GM) N p a1 with
    | none =>
      rw [hf] at ta
      refine ⟨-1, si_ c 1214 x 1, tr_ (si_ (bm_ m (si_ c 1214 x 1)) 1600 y 0) y 1, ?_, ?_, no_ pv_S hI 1 (by decide)⟩
      · simp [f_X11_print, gt_, lt_, nn_, oc_, bd_, hx, p1, ta, k_refused hx]
      · have h1 := mr_si (mr_bm (z := si_ c 1214 x 1) (mr_of k1) (Nat.le_of_eq k5.1)) (j := 0) (c := 1600) (by decide) 0
        unfold f_X15_print
        rw [gt_t (show kd_ (bm_ m (si_ c 1214 x 1)) y = 17 from mo_yb k1), lt_e]
        generalize si_ (bm_ m (si_ c 1214 x 1)) 1600 y 0 = σ at h1 ⊢
        have i5 := m_isPerson1 h1.1 hp
        have at1 := m_at h1 (p := p) a1
        have hf1 : pf9_ (as_ m y GM) N p a1 = none := hf
        rw [hf1] at at1
        have hy := mo_y h1.1
        rw [i5, bd_s, if_neg (by decide), at1, bd_s]
        unfold f_X15_print_b23
        rw [Option.map_none, oc_n, gt_t hy, m_refused hy, bd_s]
    | some k =>
      rw [hf] at ta
      obtain ⟨f1, f2, f3⟩ := pf9_some hf
      obtain ⟨t1, t2, t3, t4, t5, t6, t7⟩ := k_text k2 f1
      have hkf : ∀ σ, kf_ σ x GC (as_ m y GM) N p := fun σ => ⟨hp, hN, k3.1, hH, hN6, e6, h15⟩
      obtain ⟨F1, Y1, q1, r1, kn1⟩ := k_fillK k2 (hkf c)
      obtain ⟨rv, F2, X2, q2, u2, -⟩ := k_prn r1 (hkf _) f1 kn1 true 1 rfl
      generalize hτ : kp_ c GC F1 (ai_ c (ga_ GC 16 0)) Y1 = τ1 at q1 r1 kn1 q2 u2
      have hkk : kp_ τ1 GC F2 X2 (ai_ τ1 (ga_ GC 15 0)) = kp_ c GC F2 X2 (ai_ τ1 (ga_ GC 15 0)) := by rw [← hτ]; exact kh_kh
      rw [hkk] at q2
      obtain ⟨u21, u22, u23, u24⟩ := u2
      obtain ⟨L, hLd⟩ : ∃ L, L = ot9_ (as_ m y GM) N p k := ⟨_, rfl⟩
      rw [← hLd] at u21 u23
      have hb0 := mr_bm (z := si_ (si_ (kp_ c GC F2 X2 (ai_ τ1 (ga_ GC 15 0))) 1215 x (nI L.length)) 1214 x 0) (mr_of k1) (Nat.le_of_eq k5.1)
      have hb1 := mr_si hb0 (j := 0) (c := 1600) (by decide) 0
      obtain ⟨m2, g1, g2, g3, g4, g5, g6, g7⟩ := m_lengthOf hb1.1.1.1 hb1 k3.1 hH k3.2.2.1 hp f1 f2 h15 t7
      rw [← hLd] at g1 g6 g7
      obtain ⟨rc1, fc1⟩ := rc_pr (Y := ai_ τ1 (ga_ GC 15 0)) (F := F2) k2 (fun i hi => u23 rfl i hi (by omega)) (by omega)
      have hm3 := mr_sn g2 42 1642 L.length (by decide) (by show L.length ≤ 1200; omega)
      have n27 : ga_ GM 27 0 ≠ y := by
        have g27 : 0 < gc_ GM 27 := by rw [(k1.2.2.1 27 (by decide)).1]; decide
        have g00 : 0 < gc_ GM 0 := by rw [k1.2.1.1]; decide
        have := sh_ne k1.1 g27 g00 (Or.inl (by decide))
        rw [k1.2.1.2.1] at this
        exact this
      obtain ⟨⟨rr, m4⟩, w1, w2, w3, w4, w5, w6⟩ := m_copyOut (L := L) hm3 g6 g7 rfl
      dsimp only at w2 w3 w4 w5 w6
      subst w2
      have r9 : ∀ {F X Y}, fr_ (kp_ c GC F X Y) 1209 x = some (ga_ GC 14 0) := (rc_r1209 k2).1
      have k69 : ∀ {F X Y}, kd_ (kp_ c GC F X Y) (ga_ GC 14 0) = 6 := (rc_r1209 k2).2
      have hxk : ∀ {F X Y}, kd_ (kp_ c GC F X Y) x = 13 := hx
      refine ⟨nI L.length, _, m4, ?_, ?_, inv_fin hI fc1 ⟨Nat.le_add_right _ _, Nat.le_add_right _ _⟩ (U := fun q => rU_ y GM q ∨ q = ga_ GM 28 0) ?_ ⟨by rw [w6.1]; exact (g4.1 ▸ Nat.le_add_right _ _), by rw [w6.2]; exact (g4.2 ▸ Nat.le_add_right _ _)⟩ w3 (fun j hj => ?_) rc1 ?_⟩
      · unfold f_X11_print
        rw [gt_t hx, p1, bd_s, ta, bd_s, Option.map_some, oc_s, q1, bd_s, lt_e, (rc_r1209 r1).1, gt_t (k_text r1 f1).1, lt_e, (k_text r1 f1).2.2.1, nn_s, gt_t (rc_r1209 r1).2, q2, bd_s, lt_e, r9, nn_s, gt_t k69, lt_e, show fi_ (kp_ c GC F2 X2 (ai_ τ1 (ga_ GC 15 0))) 505 (ga_ GC 14 0) = nI L.length from (kh_fi 505).trans u21, lt_e, lt_e, fi_si, up2_s, k_granted (show kd_ (si_ (kp_ c GC F2 X2 (ai_ τ1 (ga_ GC 15 0))) 1215 x (nI L.length)) x = 13 from hx), bd_s]
      · have at1 := m_at hb1 (p := p) a1
        have hf1 : pf9_ (as_ m y GM) N p a1 = some k := hf
        rw [hf1] at at1
        unfold f_X15_print
        rw [gt_t (mo_y hb0.1), lt_e, m_isPerson1 hb1.1 hp, bd_s, if_neg (by decide), at1, bd_s]
        unfold f_X15_print_b23
        rw [Option.map_some, oc_s, gt_t (mo_y hb1.1), g1, bd_s, lt_e]
        exact w1
      · have fa : fq_ (fun q => rU_ y GM q ∨ q = ga_ GM 28 0) (bm_ m (si_ (si_ (kp_ c GC F2 X2 (ai_ τ1 (ga_ GC 15 0))) 1215 x (nI L.length)) 1214 x 0)) m2 := fq_tr (fq_si hb0.1.1.1 (Or.inl (Or.inl rfl))) (fq_w g3 (fun _ q => Or.inl q))
        exact fq_tr (fqi fa (Or.inl (Or.inl rfl))) (fq_w w4 (fun _ q => q.elim (fun q => Or.inl (Or.inl q)) Or.inr))
      · have hj0 : ∀ j, j ∈ DS → j ≠ 0 := by decide
        have h0 := hj0 j hj
        rw [w5 j]
        show _ = s3_ (fun q => if q = 42 then nI L.length else aS (as_ m y GM) q) 0 j
        unfold s3_
        by_cases z2 : j = 2
        · rw [if_pos z2, if_pos z2]
        · rw [if_neg z2, if_neg z2]
          by_cases z1 : j = 1
          · rw [if_pos z1, if_pos z1]
          · rw [if_neg z1, if_neg z1, if_neg h0]
            by_cases z42 : j = 42
            · subst z42; exact up2_s
            · show _ = if j = 42 then nI L.length else aS (as_ m y GM) j
              rw [if_neg z42, fi_si, up2_c (by omega), g5 j hj, fi_si, up2_c (by omega)]
              rfl
      · obtain ⟨h1, h2, h3, h4, h5, h6, h7, d1, d2, d3, d4, d5, d6⟩ := k3
        exact ⟨h1, h2, h3, h4, h5, h6, h7, d1, d2, d3, d4, d5, d6⟩
  · have p0 := k_person0 k2 hN hout
    refine ⟨-1, si_ c 1214 x 1, tr_ (si_ (bm_ m (si_ c 1214 x 1)) 1600 y 0) y 1, ?_, ?_, no_ pv_S hI 1 (by decide)⟩
    · simp [f_X11_print, gt_, lt_, nn_, oc_, bd_, hx, p0, k_textAt0, k_refused hx]
    · have h1 := mr_si (mr_bm (z := si_ c 1214 x 1) (mr_of k1) (Nat.le_of_eq k5.1)) (j := 0) (c := 1600) (by decide) 0
      unfold f_X15_print
      rw [gt_t (show kd_ (bm_ m (si_ c 1214 x 1)) y = 17 from mo_yb k1), lt_e]
      generalize si_ (bm_ m (si_ c 1214 x 1)) 1600 y 0 = σ at h1 ⊢
      have i5 := m_isPerson0 h1.1 hout
      have hy := mo_y h1.1
      rw [i5, bd_s, if_pos rfl]
      unfold f_X15_print_b23
      rw [oc_n, gt_t hy, m_refused hy, bd_s]
end PD9
