/-! CALLS: fact. Written by wip/b/mk70.py. -/
section FA
variable {A : AS} {N : Nat → Nat} {p k : Nat} {d : Nat} {v w : Int32} {S : Nat → Int32}
theorem tq_old {P K : Int32} {t : Nat} (ht : t ≠ N 17) : tq_ (S, up2_ (up2_ (up2_ (up2_ (up2_ (up2_ (aV A) 20 (N 17) (nI p)) 21 (N 17) (nI k)) 22 (N 17) v) 23 (N 17) (nI d)) 24 (N 17) w) 19 (10 * p + k) (nI d), A.2.2) P K t = tq_ A P K t := by
  show (decide (up2_ (aV A) 20 (N 17) (nI p) 20 t = P) && decide (up2_ (up2_ (aV A) 20 (N 17) (nI p)) 21 (N 17) (nI k) 21 t = K)) = _
  rw [up2_n ht, up2_n ht]
  rfl
theorem tq_last {P K : Int32} : tq_ (S, up2_ (up2_ (up2_ (up2_ (up2_ (up2_ (aV A) 20 (N 17) (nI p)) 21 (N 17) (nI k)) 22 (N 17) v) 23 (N 17) (nI d)) 24 (N 17) w) 19 (10 * p + k) (nI d), A.2.2) P K (N 17) = (decide (nI p = P) && decide (nI k = K)) := by
  show (decide (up2_ (aV A) 20 (N 17) (nI p) 20 (N 17) = P) && decide (up2_ (up2_ (aV A) 20 (N 17) (nI p)) 21 (N 17) (nI k) 21 (N 17) = K)) = _
  rw [up2_s, up2_s]
theorem lt9_fact (hp : p < 2 ^ 31) (hk : k < 2 ^ 31) {i j : Nat} (hi : i < 2 ^ 31) (hj : j < 2 ^ 31) : lt9_ (S, up2_ (up2_ (up2_ (up2_ (up2_ (up2_ (aV A) 20 (N 17) (nI p)) 21 (N 17) (nI k)) 22 (N 17) v) 23 (N 17) (nI d)) 24 (N 17) w) 19 (10 * p + k) (nI d), A.2.2) (fun q => if q = 17 then N 17 + 1 else N q) i j = if i = p ∧ j = k then some (N 17) else lt9_ A N i j := by
  show la_ (tq_ (S, up2_ (up2_ (up2_ (up2_ (up2_ (up2_ (aV A) 20 (N 17) (nI p)) 21 (N 17) (nI k)) 22 (N 17) v) 23 (N 17) (nI d)) 24 (N 17) w) 19 (10 * p + k) (nI d), A.2.2) (nI i) (nI j)) (N 17 + 1) = _
  rw [la_, tq_last, la_cong (q2 := tq_ A (nI i) (nI j)) (N 17) (fun t ht => tq_old (by omega))]
  by_cases e : i = p ∧ j = k
  · obtain ⟨rfl, rfl⟩ := e
    simp
  · rw [if_neg e, if_neg (fun z => e ?_)]
    · rfl
    · simp only [Bool.and_eq_true, decide_eq_true_eq] at z
      exact ⟨((nI_eq hp hi).mp z.1).symm, ((nI_eq hk hj).mp z.2).symm⟩
end FA
section C70
variable {ka : Nat → Nat} {TX : Nat → Nat → (Nat → Int32) → Nat → (Nat → Int32) → Prop} {x y o N0 : Nat}
theorem ob_fact {A : AS} {G : GH} {N : Nat → Nat} {r i : Nat} {m : CE} (S : Nat → Int32) (b p k d : Nat) (v w : Int32) (hd : ¬ r ∈ ([0, 10, 32, 36] : List Nat)) (h : ob_ ka TX A G N r i m) : ob_ ka TX (S, up2_ (up2_ (up2_ (up2_ (up2_ (up2_ (aV A) 20 (N 17) (nI p)) 21 (N 17) (nI k)) 22 (N 17) v) 23 (N 17) (nI d)) 24 (N 17) w) 19 (10 * p + k) (nI d), A.2.2) (gn_ G 36 b) (fun q => if q = 17 then N 17 + 1 else N q) r i m := by
  match r, hd, h with
  | 0, hd, h => exact absurd (by decide) hd
  | 1, hd, h => exact h
  | 2, hd, h => exact h
  | 3, hd, h => exact h
  | 4, hd, h => exact h
  | 5, hd, h => exact h
  | 6, hd, h => exact h
  | 7, hd, h => exact h
  | 8, hd, h => exact h
  | 9, hd, h => exact h
  | 10, hd, h => exact absurd (by decide) hd
  | 11, hd, h => exact h
  | 12, hd, h => exact h
  | 13, hd, h => exact h
  | 14, hd, h => exact h
  | 15, hd, h => exact h
  | 16, hd, h => exact h
  | 17, hd, h => exact h
  | 18, hd, h => exact h
  | 19, hd, h => exact h
  | 20, hd, h => exact h
  | 21, hd, h => exact h
  | 22, hd, h => exact h
  | 23, hd, h => exact h
  | 24, hd, h => exact h
  | 25, hd, h => exact h
  | 26, hd, h => exact h
  | 27, hd, h => exact h
  | 28, hd, h => exact h
  | 29, hd, h => exact h
  | 30, hd, h => exact h
  | 31, hd, h => exact h
  | 32, hd, h => exact absurd (by decide) hd
  | 33, hd, h => exact h
  | 34, hd, h => exact h
  | 35, hd, h => exact h
  | 36, hd, h => exact absurd (by decide) hd
  | 37, hd, h => exact h
  | 38, hd, h => exact h
  | 39, hd, h => exact h
  | 40, hd, h => exact h
  | 41, hd, h => exact h
  | 42, hd, h => exact h
  | 43, hd, h => exact h
  | 44, hd, h => exact h
  | 45, hd, h => exact h
  | 46, hd, h => exact h
  | 47, hd, h => exact h
  | 48, hd, h => exact h
  | 49, hd, h => exact h
  | 50, hd, h => exact h
  | 51, hd, h => exact h
  | 52, hd, h => exact h
  | 53, hd, h => exact h
  | 54, hd, h => exact h
  | 55, hd, h => exact h
  | 56, hd, h => exact h
  | 57, hd, h => exact h
  | 58, hd, h => exact h
  | r + 59, hd, h => exact h
theorem cg_fact {G : GH} {N : Nat → Nat} {b : Nat} (h : cg_ G N) : cg_ (gn_ G 36 b) (fun q => if q = 17 then N 17 + 1 else N q) := by
  obtain ⟨h0, h30, h31, h32, h33, h34, h35, h36, h37, h38, h39, h40, h41, h42, h43, h44, h45, h46, h47, h48⟩ := h
  refine ⟨fun r hr => ?_, h30, h31, h32, h33, h34, h35, ?_, h37, h38, h39, h40, h41, h42, h43, h44, h45, h46, h47, h48⟩
  · have h9 : ∀ r, r ∈ ([0, 1, 2, 3, 4, 5, 6, 7, 8, 9, 10, 11, 12, 13, 14, 15, 16, 17, 18, 19, 20, 21, 22] : List Nat) → r ≠ 36 := by decide
    have := h9 r hr
    show gc_ (gn_ G 36 b) r = 1
    refine Eq.trans ?_ (h0 r hr)
    simp [gy_, gn_, gc_, this]
  · show gc_ (gn_ G 36 b) 36 = (fun q => if q = 17 then N 17 + 1 else N q) 17
    simp [gy_, gn_, gc_] at *
    omega
theorem rc_fact {σ s τ : TH} {G : GH} {A : AS} {N : Nat → Nat} {b p k d : Nat} {v w : Int32} (h : rc_ ka TX σ x G A N) (hp : pv_ A N) (hN : N 5 ≤ 30) (hcap : N 17 < 240) (hpp : p < N 5) (hk : k < 10) (hd : d < 2 ^ 31) (hw : w = 0 ∨ w = 1) (hf : fq_ (fun q => q = x) σ s) (hxs : (∀ c, fr_ s c x = fr_ σ c x) ∧ (∀ c, c ≠ 1211 → fi_ s c x = fi_ σ c x) ∧ fi_ s 1211 x = nI (N 17 + 1)) (hb : nx_ σ ≤ b ∧ kd_ s b = 10) (hs : fi_ s 900 b = v ∧ fi_ s 901 b = w ∧ fi_ s 902 b = nI d ∧ fi_ s 903 b = nI (cn_ (tq_ A (nI p) (nI k)) (N 17) + 1) ∧ fr_ s 904 b = (lt9_ A N p k).map (ga_ G 36) ∧ fi_ s 905 b = nI d) (e0 : τ = si_ (sq_ s (ga_ G 32 p) k (some b)) 1214 x 0) : rc_ ka TX τ x (gn_ G 36 b) ((fun q => if q = 17 then nI (N 17 + 1) else s3_ (aS A) 0 q), up2_ (up2_ (up2_ (up2_ (up2_ (up2_ (aV A) 20 (N 17) (nI p)) 21 (N 17) (nI k)) 22 (N 17) v) 23 (N 17) (nI d)) 24 (N 17) w) 19 (10 * p + k) (nI d), A.2.2) (fun q => if q = 17 then N 17 + 1 else N q) ∧ fq_ (fun q => q = x ∨ q = ga_ G 32 p) σ τ := by
  have hc32 : p < gc_ G 32 := by rw [rc_32 h]; exact hpp
  have hcnt := rc_36 h
  have hbs : b < nx_ s := kd_ltn hf.2.1 hb.2 (by decide)
  have hfs : fq_ (fun q => q = x ∨ q = ga_ G 32 p) σ τ := by
    rw [e0]
    exact fqi (fqq (fq_w hf (fun _ z => Or.inl z)) (Or.inr rfl)) (Or.inl rfl)
  have hx32 : ga_ G 32 p ≠ x := rc_nx h hc32 (by decide)
  have hxl : x < nx_ σ := kd_ltn h.1.1 (rc_x h) (by decide)
  have h32l : ga_ G 32 p < nx_ σ := sh_lt h.1 hc32
  have hkt : kd_ τ b = 10 := by rw [e0]; exact hb.2
  have hsh : sh_ KC LC τ (gn_ G 36 b) := sh_gn2 (sh_fq h.1 hfs) (fh_of h.1 hb.1) hkt (by decide) (fun z => absurd rfl z)
  have hold : ∀ r i, i < gc_ G r → r ≠ 0 → ¬ (r = 32 ∧ i = p) → ce_ τ (ga_ G r i) = ce_ σ (ga_ G r i) := fun r i hi hr hn => rc_ce h hfs hi (fun z => by
    rcases z with z | z
    · exact rc_nx h hi hr z
    · by_cases q : r = 32
      · subst q
        exact sh_ne h.1 hi hc32 (Or.inr (fun q => hn ⟨rfl, q⟩)) z
      · exact sh_ne h.1 hi hc32 (Or.inl q) z)
  have hga : ∀ t, t < N 17 → ga_ (gn_ G 36 b) 36 t = ga_ G 36 t := fun t ht => if_neg (fun z => by have := z.2; omega)
  have hgb : ga_ (gn_ G 36 b) 36 (N 17) = b := by rw [← hcnt]; exact if_pos ⟨rfl, rfl⟩
  have hmap : ∀ (q : Nat → Bool) (n : Nat), n ≤ N 17 → (la_ q n).map (ga_ (gn_ G 36 b) 36) = (la_ q n).map (ga_ G 36) := fun q n hn => by
    cases e : la_ q n with
    | none => rfl
    | some t =>
      have := (la_some e).1
      show some _ = some _
      rw [hga t (by omega)]
  refine ⟨rc_gen2 h hfs hsh (cg_fact h.2.2.1) [0, 10, 32, 36] (fun r hr => ?_) h.2.1.1 (fun q hq => ?_) (fun r i m hr h9 => ob_fact _ _ _ _ _ _ _ hr h9) (fun r i hr hi => ?_), hfs⟩
  · have q : r ≠ 36 := fun z => hr (by rw [z]; decide)
    exact ⟨by simp [gn_, gc_, q], fun i => by simp [gn_, ga_, q]⟩
  · rcases hq with hq | hq
    · exact Or.inl ⟨0, 0, by decide, rc_1 h (by decide), hq.trans h.2.1.1.symm⟩
    · exact Or.inl ⟨32, p, by decide, hc32, hq⟩
  · simp only [List.mem_cons, List.not_mem_nil, or_false] at hr
    rcases hr with rfl | rfl | rfl | rfl
    · have : i = 0 := by
        have : i < gc_ G 0 := hi
        exact g0_ h (by decide) this
      subst this
      show ob_ ka TX _ _ _ 0 0 (ce_ τ (ga_ G 0 0))
      rw [h.2.1.1]
      have frx : ∀ c, fr_ τ c x = fr_ σ c x := fun c => by rw [e0]; exact hxs.1 c
      have fix : ∀ c, c ≠ 1214 → c ≠ 1211 → fi_ τ c x = fi_ σ c x := fun c c1 c2 => by rw [e0, fi_si, up2_c c1]; exact hxs.2.1 c c2
      obtain ⟨q0, q1, q2, q3, q4, q5, q6, q7, q8⟩ := rc_f0 h
      refine ⟨?_, ?_, ?_, ?_, ?_, ?_, ?_, ?_, ?_⟩
      · show (fr_ τ 1200 x = _ ∧ fr_ τ 1201 x = _ ∧ fr_ τ 1202 x = _ ∧ fr_ τ 1203 x = _ ∧ fr_ τ 1204 x = _ ∧ fr_ τ 1205 x = _ ∧ fr_ τ 1206 x = _ ∧ fr_ τ 1207 x = _ ∧ fr_ τ 1208 x = _ ∧ fr_ τ 1209 x = _ ∧ fr_ τ 1210 x = _ ∧ fr_ τ 1218 x = _)
        rw [frx, frx, frx, frx, frx, frx, frx, frx, frx, frx, frx, frx]
        exact q0
      · rw [xi_ce, e0, fi_si, up2_c (by decide)]; exact hxs.2.2
      · rw [xi_ce, fix _ (by decide) (by decide)]; exact q2
      · rw [xi_ce, fix _ (by decide) (by decide)]; exact q3
      · rw [xi_ce, e0, fi_si, up2_s]; rfl
      · rw [xi_ce, fix _ (by decide) (by decide)]; exact q5
      · rw [xi_ce, fix _ (by decide) (by decide)]; exact q6
      · rw [xi_ce, fix _ (by decide) (by decide)]; exact q7
      · rw [xi_ce, fix _ (by decide) (by decide)]; exact q8
    · have : i = 0 := by
        have : i < gc_ G 10 := hi
        exact g0_ h (by decide) this
      subst this
      show ob_ ka TX _ _ _ 10 0 (ce_ τ (ga_ G 10 0))
      rw [hold 10 0 (rc_1 h (by decide)) (by decide) (fun z => absurd z.1 (by decide))]
      obtain ⟨q1, q2, q3, q4, q5, q6, q7⟩ := h.2.2.2 10 0 (rc_1 h (by decide))
      exact ⟨q1, q2, q3, q4, q5, fun z => absurd z (show ¬ (0 : Int32) = 4 by decide), fun _ => rfl⟩
    · have hi' : i < gc_ G 32 := hi
      have hi5 : i < N 5 := by rw [← rc_32 h]; exact hi'
      show ob_ ka TX _ _ _ 32 i (ce_ τ (ga_ G 32 i))
      intro j hj
      obtain ⟨q1, q2⟩ := h.2.2.2 32 i hi' j hj
      rw [lt9_fact (by omega) (by omega) (show i < 2 ^ 31 by omega) (show j < 2 ^ 31 by omega)]
      show ar_ τ (ga_ G 32 i) j = _ ∧ (up2_ _ 19 (10 * p + k) (nI d) 19 (10 * i + j) = -1 ↔ _)
      have q1 : ar_ σ (ga_ G 32 i) j = (lt9_ A N i j).map (ga_ G 36) := q1
      by_cases e : i = p
      · subst e
        have er : ar_ s (ga_ G 32 i) = ar_ σ (ga_ G 32 i) := congrArg (fun z => z.2.2.2.2.2.1) (hf.2.2 (ga_ G 32 i) h32l hx32)
        rw [e0, ar_si, ar_sq]
        by_cases e2 : j = k
        · subst e2
          rw [up2_s, if_pos ⟨rfl, rfl⟩, up2_s]
          refine ⟨?_, fun z => absurd z (nI_n1 hd), fun z => by cases z⟩
          show some b = some _
          rw [hgb]
        · rw [up2_n e2, if_neg (fun z => e2 z.2), up2_n (show 10 * i + j ≠ 10 * i + k by omega), er, q1]
          exact ⟨(hmap _ _ (Nat.le_refl _)).symm, q2⟩
      · have er : ar_ τ (ga_ G 32 i) = ar_ σ (ga_ G 32 i) := congrArg (fun z => z.2.2.2.2.2.1) (hold 32 i hi' (by decide) (fun z => e z.2))
        rw [er, if_neg (fun z => e z.1), up2_n (show 10 * i + j ≠ 10 * p + k by omega), q1]
        exact ⟨(hmap _ _ (Nat.le_refl _)).symm, q2⟩
    · have hi' : i < gc_ G 36 + 1 := hi
      by_cases z : i = gc_ G 36
      · rw [hcnt] at z
        subst z
        rw [hgb, e0, ce_si (show b ≠ x by omega), ce_sq (show b ≠ ga_ G 32 p by omega)]
        obtain ⟨s1, s2, s3, s4, s5, s6⟩ := hs
        refine ⟨?_, ?_, ?_, ?_, ?_, fun _ => ?_, ?_⟩
        · exact s1.trans (show v = up2_ (up2_ (up2_ (aV A) 20 (N 17) (nI p)) 21 (N 17) (nI k)) 22 (N 17) v 22 (N 17) from up2_s.symm)
        · exact s2.trans (show w = up2_ (up2_ (up2_ (up2_ (up2_ (aV A) 20 (N 17) (nI p)) 21 (N 17) (nI k)) 22 (N 17) (v)) 23 (N 17) (nI d)) 24 (N 17) w 24 (N 17) from up2_s.symm)
        · exact s3.trans (show nI d = up2_ (up2_ (up2_ (up2_ (aV A) 20 (N 17) (nI p)) 21 (N 17) (nI k)) 22 (N 17) (v)) 23 (N 17) (nI d) 23 (N 17) from up2_s.symm)
        · show fi_ s 903 b = nI (cn_ (tq_ ((fun q => if q = 17 then nI (N 17 + 1) else s3_ (aS A) 0 q), up2_ (up2_ (up2_ (up2_ (up2_ (up2_ (aV A) 20 (N 17) (nI p)) 21 (N 17) (nI k)) 22 (N 17) v) 23 (N 17) (nI d)) 24 (N 17) w) 19 (10 * p + k) (nI d), A.2.2) (up2_ (aV A) 20 (N 17) (nI p) 20 (N 17)) (up2_ (up2_ (aV A) 20 (N 17) (nI p)) 21 (N 17) (nI k) 21 (N 17))) (N 17 + 1))
          rw [up2_s, up2_s, cn_, tq_last, cn_cong (q2 := tq_ A (nI p) (nI k)) (N 17) (fun t ht => tq_old (by omega))]
          simpa using s4
        · show fr_ s 904 b = (la_ (tq_ ((fun q => if q = 17 then nI (N 17 + 1) else s3_ (aS A) 0 q), up2_ (up2_ (up2_ (up2_ (up2_ (up2_ (aV A) 20 (N 17) (nI p)) 21 (N 17) (nI k)) 22 (N 17) v) 23 (N 17) (nI d)) 24 (N 17) w) 19 (10 * p + k) (nI d), A.2.2) (up2_ (aV A) 20 (N 17) (nI p) 20 (N 17)) (up2_ (up2_ (aV A) 20 (N 17) (nI p)) 21 (N 17) (nI k) 21 (N 17))) (N 17)).map (ga_ (gn_ G 36 b) 36)
          rw [up2_s, up2_s, hmap _ _ (Nat.le_refl _), la_cong (q2 := tq_ A (nI p) (nI k)) (N 17) (fun t ht => tq_old (by omega))]
          exact s5
        · show fi_ s 905 b = up2_ _ 19 (10 * p + k) (nI d) 19 (10 * (up2_ (aV A) 20 (N 17) (nI p) 20 (N 17)).toNatClampNeg + (up2_ (up2_ (aV A) 20 (N 17) (nI p)) 21 (N 17) (nI k) 21 (N 17)).toNatClampNeg)
          rw [up2_s (f := aV A), up2_s (f := up2_ (aV A) 20 (N 17) (nI p)), nI_clamp (show p < 2 ^ 31 by omega), nI_clamp (show k < 2 ^ 31 by omega), up2_s]
          exact s6
        · show up2_ (up2_ (up2_ (up2_ (up2_ (aV A) 20 (N 17) (nI p)) 21 (N 17) (nI k)) 22 (N 17) (v)) 23 (N 17) (nI d)) 24 (N 17) w 24 (N 17) = 0 ∨ up2_ (up2_ (up2_ (up2_ (up2_ (aV A) 20 (N 17) (nI p)) 21 (N 17) (nI k)) 22 (N 17) (v)) 23 (N 17) (nI d)) 24 (N 17) w 24 (N 17) = 1
          rw [up2_s]; exact hw
      · have hio : i < gc_ G 36 := by omega
        have hi17 : i < N 17 := by rw [← hcnt]; exact hio
        have z3 : i ≠ N 17 := by omega
        rw [hga i hi17, hold 36 i hio (by decide) (fun z => absurd z.1 (by decide))]
        obtain ⟨⟨P, hP, eP⟩, ⟨K, hK, eK⟩, -⟩ := hp.1 i hi17
        obtain ⟨q0, q1, q2, q3, q4, q5, q6⟩ := h.2.2.2 36 i hio
        have w20 : aV ((fun q => if q = 17 then nI (N 17 + 1) else s3_ (aS A) 0 q), up2_ (up2_ (up2_ (up2_ (up2_ (up2_ (aV A) 20 (N 17) (nI p)) 21 (N 17) (nI k)) 22 (N 17) v) 23 (N 17) (nI d)) 24 (N 17) w) 19 (10 * p + k) (nI d), A.2.2) 20 i = nI P := by
          show up2_ (aV A) 20 (N 17) (nI p) 20 i = _
          rw [up2_n z3]; exact eP
        have w21 : aV ((fun q => if q = 17 then nI (N 17 + 1) else s3_ (aS A) 0 q), up2_ (up2_ (up2_ (up2_ (up2_ (up2_ (aV A) 20 (N 17) (nI p)) 21 (N 17) (nI k)) 22 (N 17) v) 23 (N 17) (nI d)) 24 (N 17) w) 19 (10 * p + k) (nI d), A.2.2) 21 i = nI K := by
          show up2_ (up2_ (aV A) 20 (N 17) (nI p)) 21 (N 17) (nI k) 21 i = _
          rw [up2_n z3]; exact eK
        rw [eP, eK] at q3 q4 q5
        refine ⟨q0.trans ?_, q1.trans ?_, q2.trans ?_, ?_, ?_, fun zz => ?_, ?_⟩
        · show aV A 22 i = up2_ (up2_ (up2_ (aV A) 20 (N 17) (nI p)) 21 (N 17) (nI k)) 22 (N 17) v 22 i
          rw [up2_n z3]; rfl
        · show aV A 24 i = up2_ (up2_ (up2_ (up2_ (up2_ (aV A) 20 (N 17) (nI p)) 21 (N 17) (nI k)) 22 (N 17) (v)) 23 (N 17) (nI d)) 24 (N 17) w 24 i
          rw [up2_n z3]; rfl
        · show aV A 23 i = up2_ (up2_ (up2_ (up2_ (aV A) 20 (N 17) (nI p)) 21 (N 17) (nI k)) 22 (N 17) (v)) 23 (N 17) (nI d) 23 i
          rw [up2_n z3]; rfl
        · rw [w20, w21, cn_cong (q2 := tq_ A (nI P) (nI K)) (i + 1) (fun t ht => tq_old (by omega))]
          exact q3
        · rw [w20, w21, hmap _ _ (by omega), la_cong (q2 := tq_ A (nI P) (nI K)) i (fun t ht => tq_old (by omega))]
          exact q4
        · rw [w20, w21] at zz ⊢
          have zz : lt9_ ((fun q => if q = 17 then nI (N 17 + 1) else s3_ (aS A) 0 q), up2_ (up2_ (up2_ (up2_ (up2_ (up2_ (aV A) 20 (N 17) (nI p)) 21 (N 17) (nI k)) 22 (N 17) v) 23 (N 17) (nI d)) 24 (N 17) w) 19 (10 * p + k) (nI d), A.2.2) (fun q => if q = 17 then N 17 + 1 else N q) P K = some i := zz
          rw [lt9_fact (by omega) (by omega) (show P < 2 ^ 31 by omega) (show K < 2 ^ 31 by omega)] at zz
          rw [nI_clamp (show P < 2 ^ 31 by omega), nI_clamp (show K < 2 ^ 31 by omega)] at q5 ⊢
          by_cases e9 : P = p ∧ K = k
          · rw [if_pos e9] at zz
            exact absurd (Option.some.inj zz).symm z3
          · rw [if_neg e9] at zz
            show _ = up2_ _ 19 (10 * p + k) (nI d) 19 (10 * P + K)
            rw [up2_n (fun e8 => e9 ⟨by omega, by omega⟩)]
            exact q5 zz
        · show up2_ (up2_ (up2_ (up2_ (up2_ (aV A) 20 (N 17) (nI p)) 21 (N 17) (nI k)) 22 (N 17) (v)) 23 (N 17) (nI d)) 24 (N 17) w 24 i = 0 ∨ up2_ (up2_ (up2_ (up2_ (up2_ (aV A) 20 (N 17) (nI p)) 21 (N 17) (nI k)) 22 (N 17) (v)) 23 (N 17) (nI d)) 24 (N 17) w 24 i = 1
          rw [up2_n z3]; exact q6
theorem pv_fact {A : AS} {N : Nat → Nat} {S : Nat → Int32} (h : pv_ A N) (hN : N 5 ≤ 30) (hN17 : N 17 < 240) {p k d : Nat} {v w : Int32} (hp : p < N 5) (hk : k < 10) (hd : d = td_ N) (hv : -9999 ≤ v ∧ v ≤ 9999) : pv_ (S, up2_ (up2_ (up2_ (up2_ (up2_ (up2_ (aV A) 20 (N 17) (nI p)) 21 (N 17) (nI k)) 22 (N 17) v) 23 (N 17) (nI d)) 24 (N 17) w) 19 (10 * p + k) (nI d), A.2.2) (fun q => if q = 17 then N 17 + 1 else N q) := by
  obtain ⟨h1, h2, h3, h4, h5, h6, h7, d1, d2, d3⟩ := h
  refine ⟨fun t ht => ?_, h2, h3, h4, fun e he => ?_, h6, h7, d1, fun q hq hq2 => ⟨(d2 q hq hq2).1, (d2 q hq hq2).2.1, (d2 q hq hq2).2.2.1, fun j hj => ?_⟩, d3⟩
  · have ht : t < N 17 + 1 := ht
    show (∃ q, q < N 5 ∧ up2_ (aV A) 20 (N 17) (nI p) 20 t = nI q) ∧ (∃ q, q < 10 ∧ up2_ (up2_ (aV A) 20 (N 17) (nI p)) 21 (N 17) (nI k) 21 t = nI q) ∧ (-9999 ≤ up2_ (up2_ (up2_ (aV A) 20 (N 17) (nI p)) 21 (N 17) (nI k)) 22 (N 17) v 22 t ∧ up2_ (up2_ (up2_ (aV A) 20 (N 17) (nI p)) 21 (N 17) (nI k)) 22 (N 17) v 22 t ≤ 9999) ∧ ∃ q, q ≤ td_ N ∧ up2_ (up2_ (up2_ (up2_ (aV A) 20 (N 17) (nI p)) 21 (N 17) (nI k)) 22 (N 17) (v)) 23 (N 17) (nI d) 23 t = nI q
    by_cases z : t = N 17
    · subst z
      rw [up2_s, up2_s, up2_s, up2_s]
      exact ⟨⟨p, hp, rfl⟩, ⟨k, hk, rfl⟩, hv, ⟨d, by omega, rfl⟩⟩
    · rw [up2_n z, up2_n z, up2_n z, up2_n z]
      exact h1 t (by omega)
  · obtain ⟨q, ⟨hq, e1⟩, h9⟩ := h5 e he
    refine ⟨q, ⟨hq, e1⟩, fun j hj hb => ?_⟩
    rw [lt9_fact (by omega) (by omega) (show q < 2 ^ 31 by omega) (show j < 2 ^ 31 by omega)]
    split
    · exact fun z => by cases z
    · exact h9 j hj hb
  · have hq5 : N 5 ≤ q := hq
    exact (up2_n (show 10 * q + j ≠ 10 * p + k by omega)).trans ((d2 q hq hq2).2.2.2 j hj)
theorem mk_tell {c : TH} (hw : wf_ c) (v w d num : Int32) (r : Option Nat) (h01 : w = 0 ∨ w = 1) (hr : (r = none ∧ num = 1) ∨ ∃ a, r = some a ∧ kd_ c a = 10 ∧ fi_ c 903 a + 1 = num) : ∃ s, f_X8_init (nw_ c 10 0 6) (nx_ c) v w d r = some ((), s) ∧ np_ c s 10 (fun q => if q = 903 then num else if q = 905 then d else if q = 902 then d else if q = 901 then w else if q = 900 then v else 0) (fun q => if q = 904 then r else none) 1 6 (fun _ => none) := by
  have h := np_0 hw 10 6 (by decide)
  unfold f_X8_init
  generalize nw_ c 10 0 6 = s at h ⊢
  rw [gt_t (np_kd h)]
  rw [lt_e]
  replace h := np_si h 900 v
  generalize si_ s 900 (nx_ c) v = s at h ⊢
  rw [gt_t h01]
  rw [lt_e]
  replace h := np_si h 901 w
  generalize si_ s 901 (nx_ c) w = s at h ⊢
  rw [lt_e]
  replace h := np_si h 902 d
  generalize si_ s 902 (nx_ c) d = s at h ⊢
  rw [lt_e]
  replace h := np_si h 905 d
  generalize si_ s 905 (nx_ c) d = s at h ⊢
  rw [lt_e]
  replace h := np_sr h 904 r
  generalize sr_ s 904 (nx_ c) r = s at h ⊢
  have h2 := np_si h 903 num
  have hk := np_kd h
  refine ⟨si_ s 903 (nx_ c) num, ?_, h2⟩
  rcases hr with ⟨rfl, rfl⟩ | ⟨a, rfl, h3, h4⟩
  · rw [oc_n]
    simp [f_X8_init_b47, gt_, lt_, nn_, oc_, bd_, hk]
  · have hal : a < nx_ c := kd_ltn hw h3 (by decide)
    rw [oc_s, gt_t (fq_kd h.1 h3 (by decide)), lt_e, fq_fi h.1 hal (fun z => z), h4]
    simp [f_X8_init_b47, gt_, lt_, nn_, oc_, bd_, hk]
theorem ok_fact : St_fact ka x y (inv_ ka TX pv_ x y o N0) := fun n c m a0 a1 a2 a3 hn hI => by
  obtain ⟨GC, GM, N, k1, k2, k3, k4, k5, k6, k7, k8⟩ := id hI
  have hN := (mo_n k1 (j := 5) (cj := 1605) (m := 30) (by decide)).2
  obtain ⟨e6, hN6⟩ := mo_n k1 (j := 6) (cj := 1606) (m := 5257439) (by decide)
  have hb : mr_ (bm_ m c) y GM (as_ m y GM) N := mr_bm (mr_of k1) (Nat.le_of_eq k5.1)
  have hx := rc_x k2
  obtain ⟨e17, hN17⟩ := mo_n k1 (j := 17) (cj := 1617) (m := 240) (by decide)
  have htd : td_ N < 2 ^ 31 := Nat.lt_of_le_of_lt (Nat.div_le_self _ _) (by omega)
  have q11 : fi_ c 1211 x = nI (N 17) := (rc_f0 k2).2.1.trans e17
  have q13 : fi_ c 1213 x = nI (N 6) := (rc_f0 k2).2.2.2.1.trans e6
  have z1 := zo_01 a3
  have iv : ∀ τ, f_X11_isValue τ a2 = some (bi_ (-9999 ≤ a2 ∧ a2 ≤ 9999), τ) := fun τ => by
    unfold f_X11_isValue
    rw [k_within, bd_s]
    simp [gt_, bi_01]
  rcases rg_ a0 (n := N 5) (by omega) with ⟨p, hp, rfl⟩ | hout
  · obtain ⟨p1, p2⟩ := k_person1 k2 hN hp
    by_cases g5 : (0 : Int32) ≤ a1 ∧ a1 ≤ 9
    · obtain ⟨k, hk, rfl⟩ := kind_ g5
      by_cases g6 : -9999 ≤ a2 ∧ a2 ≤ 9999
      · by_cases hf : N 17 = 240
        · have z : ¬ nI (N 17) < 240 := by rw [hf]; decide
          refine ⟨-1, si_ c 1214 x 3, tr_ (si_ (bm_ m (si_ c 1214 x 3)) 1600 y 0) y 3, ?_, ?_, no_ pv_S hI 3 (by decide)⟩
          · simp [f_X11_fact, gt_, lt_, nn_, oc_, bd_, hx, p1, k_isKind, iv, bi_, g5, g6, q11, z, k_refused hx]
          · have h1 := mr_si (mr_bm (z := si_ c 1214 x 3) (mr_of k1) (Nat.le_of_eq k5.1)) (j := 0) (c := 1600) (by decide) 0
            unfold f_X15_fact
            rw [gt_t (show kd_ (bm_ m (si_ c 1214 x 3)) y = 17 from mo_yb k1), lt_e]
            generalize si_ (bm_ m (si_ c 1214 x 3)) 1600 y 0 = σ at h1 ⊢
            have ec := (mo_n h1.1 (j := 17) (cj := 1617) (m := 240) (by decide)).1
            rw [hf] at ec
            simp [gt_, lt_, nn_, oc_, bd_, m_isPerson1 h1.1 hp, m_isKind, m_in, bi_, g5, g6, ec, show nI 240 = 240 from rfl, m_refused (mo_y h1.1)]
        · have hlt : N 17 < 240 := by omega
          obtain ⟨f1, f2, f3, f4, f5⟩ := k_facts k2 hp
          obtain ⟨f6, f7⟩ := f5 k hk
          have hc31 : p < gc_ GC 31 := by rw [rc_31 k2]; exact hp
          have hc32 : p < gc_ GC 32 := by rw [rc_32 k2]; exact hp
          have hxl : x < nx_ c := kd_ltn k2.1.1 hx (by decide)
          have fc : fq_ (fun q => q = x) c (si_ c 1211 x (nI (N 17 + 1))) := fqi (fq_rf k2.1.1) rfl
          obtain ⟨s, hin, np⟩ := mk_tell (c := si_ c 1211 x (nI (N 17 + 1))) fc.2.1 a2 (zo_ a3) (nI (td_ N)) (nI (cn_ (tq_ (as_ m y GM) (nI p) (nI k)) (N 17) + 1)) ((lt9_ (as_ m y GM) N p k).map (ga_ GC 36)) z1 (by
            cases ht : lt9_ (as_ m y GM) N p k with
            | none =>
              refine Or.inl ⟨rfl, ?_⟩
              have e9 : cn_ (tq_ (as_ m y GM) (nI p) (nI k)) (N 17) = 0 := by
                rw [cn_cong (q2 := fun _ => false) _ (fun t h9 => la_none ht t h9)]
                have : ∀ n, cn_ (fun _ => false) n = 0 := by
                  intro n
                  induction n with
                  | zero => rfl
                  | succ n ih => simp [cn_, ih]
                exact this _
              rw [e9]
              rfl
            | some t =>
              obtain ⟨-, s1, -, -, -, s5, -⟩ := k_tell k2 hp hN hk ht
              refine Or.inr ⟨ga_ GC 36 t, rfl, s1, ?_⟩
              have ht36 : t < gc_ GC 36 := by rw [rc_36 k2]; exact (la_some ht).1
              rw [fi_si, up2_c (by decide), s5, nI_1])
          have np1 := np.1
          have npF := np.2.2.1
          have npR := np.2.2.2.1
          have hs0 : fq_ (fun q => q = x) c s := fq_tr fc (fq_w np1 (fun _ z => z.elim))
          have hxl2 : x < nx_ (si_ c 1211 x (nI (N 17 + 1))) := hxl
          have sfr : ∀ q, fr_ s q x = fr_ c q x := fun q => (fq_fr np1 hxl2 (fun z => z) q)
          have sfi : ∀ q, fi_ s q x = fi_ (si_ c 1211 x (nI (N 17 + 1))) q x := fun q => (fq_fi np1 hxl2 (fun z => z) q)
          obtain ⟨w1, w2⟩ := rc_fact (b := nx_ c) (d := td_ N) (v := a2) (w := zo_ a3) k2 k3 hN hlt hp hk htd z1 hs0 ⟨sfr, fun q hq => by rw [sfi, fi_si, up2_c hq], by rw [sfi, fi_si, up2_s]⟩ ⟨Nat.le_refl _, np.2.1.1⟩ ⟨npF 900, npF 901, npF 902, npF 903, npR 904, npF 905⟩ rfl
          have kp : kd_ s (ga_ GC 31 p) = 4 := fq_kd hs0 f1 (by decide)
          have n31 : ga_ GC 31 p ≠ nx_ (si_ c 1211 x (nI (N 17 + 1))) := Nat.ne_of_lt (sh_lt k2.1 hc31)
          have n32 : ga_ GC 32 p ≠ nx_ (si_ c 1211 x (nI (N 17 + 1))) := Nat.ne_of_lt (sh_lt k2.1 hc32)
          have x31 := rc_nx k2 hc31 (by decide)
          have hxn : x ≠ nx_ (si_ c 1211 x (nI (N 17 + 1))) := Nat.ne_of_lt hxl
          have g1 : ¬ nI k < 0 := nI_pos (by omega)
          have g3 : (nI k).toNatClampNeg = k := nI_clamp (by omega)
          have g4 : ¬ 10 ≤ k := by omega
          have g1c : f_X11_fact c x (nI p) (nI k) a2 (zo_ a3) = some (nI (cn_ (tq_ (as_ m y GM) (nI p) (nI k)) (N 17) + 1), si_ (sq_ s (ga_ GC 32 p) k (some (nx_ c))) 1214 x 0) := by
            have n0 : kd_ c (nx_ c) = 0 := wf_0 k2.1.1 (Nat.le_refl _)
            have ht : f_X11_today (nw_ (si_ c 1211 x (nI (N 17 + 1))) 10 0 6) x = some (nI (td_ N), nw_ (si_ c 1211 x (nI (N 17 + 1))) 10 0 6) := by
              refine k_today ?_ ?_ (Nat.lt_of_le_of_lt hN6 (by decide))
              · rw [kd_nwn hxn]; exact hx
              · rw [fi_nwn hxn, fi_si, up2_c (by decide)]; exact q13
            have r31 : kd_ (nw_ (si_ c 1211 x (nI (N 17 + 1))) 10 0 6) (ga_ GC 31 p) = 4 := by rw [kd_nwn n31]; exact f1
            have r309 : fr_ (nw_ (si_ c 1211 x (nI (N 17 + 1))) 10 0 6) 309 (ga_ GC 31 p) = some (ga_ GC 32 p) := by rw [fr_nwn n31]; exact f2
            have r32 : kd_ (nw_ (si_ c 1211 x (nI (N 17 + 1))) 10 0 6) (ga_ GC 32 p) = 25 := by rw [kd_nwn n32]; exact f3
            have rln : ln_ (nw_ (si_ c 1211 x (nI (N 17 + 1))) 10 0 6) (ga_ GC 32 p) = 10 := by rw [ln_nwn n32]; exact f4
            have rar : ar_ (nw_ (si_ c 1211 x (nI (N 17 + 1))) 10 0 6) (ga_ GC 32 p) k = (lt9_ (as_ m y GM) N p k).map (ga_ GC 36) := by rw [ar_nwn n32]; exact f6
            have s309 : fr_ s 309 (ga_ GC 31 p) = some (ga_ GC 32 p) := by rw [fq_fr hs0 (sh_lt k2.1 hc31) x31]; exact f2
            have s32 : kd_ s (ga_ GC 32 p) = 25 := fq_kd hs0 f3 (by decide)
            have sln : ln_ s (ga_ GC 32 p) = 10 := by rw [(hs0.1.2.2.2.2 (ga_ GC 32 p) (by rw [f3]; decide)).2]; exact f4
            have gx : ¬ (nI k < 0 ∨ 10 ≤ (nI k).toNatClampNeg) := by rw [g3]; exact fun z => z.elim g1 g4
            have kx : kd_ (sq_ s (ga_ GC 32 p) k (some (nx_ c))) x = 13 := fq_kd hs0 hx (by decide)
            unfold f_X11_fact
            rw [gt_t hx, p1, bd_s, oc_s, k_isKind, bd_s, bi_t g5, if_neg (by decide), iv, bd_s, bi_t g6, if_neg (by decide), lt_e, q11, if_pos (show nI (N 17) < 240 from nI_c (k := 240) rfl hlt (by decide)), lt_e, lt_e, nI_1, gt_t (show kd_ (si_ c 1211 x (nI (N 17 + 1))) (nx_ (si_ c 1211 x (nI (N 17 + 1)))) = 0 from n0), lt_e, lt_e, ht, bd_s, gt_t r31, lt_e, r309, nn_s, gt_t r32, rln, gt_t gx, lt_e, g3, rar, hin, bd_s, lt_e, s309, nn_s, gt_t s32, sln]
            rw [show (nI k).toNatClampNeg = k from g3] at gx
            rw [gt_t (show ¬ (nI k < 0 ∨ 10 ≤ k) from gx), lt_e, lt_e, show fi_ (sq_ s (ga_ GC 32 p) k (some (nx_ (si_ c 1211 x (nI (N 17 + 1)))))) 903 (nx_ (si_ c 1211 x (nI (N 17 + 1)))) = nI (cn_ (tq_ (as_ m y GM) (nI p) (nI k)) (N 17) + 1) from npF 903, k_granted (show kd_ (sq_ s (ga_ GC 32 p) k (some (nx_ (si_ c 1211 x (nI (N 17 + 1)))))) x = 13 from kx), bd_s]
            rfl
          have hbn : nx_ s = nx_ c + 1 ∧ sl_ s = sl_ c + 6 := np.2.2.2.2.1
          obtain ⟨cc, hcc⟩ : ∃ cc, cc = si_ (sq_ s (ga_ GC 32 p) k (some (nx_ c))) 1214 x 0 := ⟨_, rfl⟩
          have hnc : nx_ cc = nx_ c + 1 ∧ sl_ cc = sl_ c + 6 := by rw [hcc]; exact hbn
          rw [← hcc] at w1 w2 g1c
          clear hcc
          have h0 := mr_bm (z := cc) (mr_of k1) (by rw [k5.1]; exact w2.1.1)
          have h1 := mr_si h0 (j := 0) (c := 1600) (by decide) 0
          have hwf := h0.1.1.1
          obtain ⟨m1, hm1⟩ : ∃ m1, m1 = tr_ (si_ (sa_ (sa_ (sa_ (sa_ (sa_ (sa_ (si_ (bm_ m cc) 1600 y 0) (ga_ GM 20 0) (N 17) (nI p)) (ga_ GM 21 0) (N 17) (nI k)) (ga_ GM 22 0) (N 17) a2) (ga_ GM 23 0) (N 17) (nI (td_ N))) (ga_ GM 24 0) (N 17) (zo_ a3)) (ga_ GM 19 0) (10 * p + k) (nI (td_ N))) 1617 y (nI (N 17 + 1))) y 0 := ⟨_, rfl⟩
          have mr1 := mr_sn (mr_sa (mr_sa (mr_sa (mr_sa (mr_sa (mr_sa h1 (j := 20) (by decide) (N 17) (nI p)) (j := 21) (by decide) (N 17) (nI k)) (j := 22) (by decide) (N 17) a2) (j := 23) (by decide) (N 17) (nI (td_ N))) (j := 24) (by decide) (N 17) (zo_ a3)) (j := 19) (by decide) (10 * p + k) (nI (td_ N))) 17 1617 (N 17 + 1) (by decide) (by show N 17 + 1 ≤ 240; omega)
          have g1r : f_X15_fact (bm_ m cc) y (nI p) (nI k) a2 (zo_ a3) = some (nI (cn_ (tq_ (as_ m y GM) (nI p) (nI k)) (N 17) + 1), m1) := by
            rw [hm1]
            unfold f_X15_fact
            rw [gt_t (mo_yb k1), lt_e]
            have ecn : cn_ (tq_ ((as_ m y GM).1, up2_ (up2_ (up2_ (up2_ (up2_ (up2_ (aV (as_ m y GM)) 20 (N 17) (nI p)) 21 (N 17) (nI k)) 22 (N 17) a2) 23 (N 17) (nI (td_ N))) 24 (N 17) (zo_ a3)) 19 (10 * p + k) (nI (td_ N)), (as_ m y GM).2.2) (nI p) (nI k)) (N 17 + 1) = cn_ (tq_ (as_ m y GM) (nI p) (nI k)) (N 17) + 1 := by
              rw [cn_, tq_last, cn_cong (q2 := tq_ (as_ m y GM) (nI p) (nI k)) (N 17) (fun t ht => tq_old (by omega))]
              simp
            have hmany : f_X15_many (si_ (sa_ (sa_ (sa_ (sa_ (sa_ (sa_ (si_ (bm_ m cc) 1600 y 0) (ga_ GM 20 0) (N 17) (nI p)) (ga_ GM 21 0) (N 17) (nI k)) (ga_ GM 22 0) (N 17) a2) (ga_ GM 23 0) (N 17) (nI (td_ N))) (ga_ GM 24 0) (N 17) (zo_ a3)) (ga_ GM 19 0) (10 * p + k) (nI (td_ N))) 1617 y (nI (N 17 + 1))) y (nI p) (nI k) = some (nI (cn_ (tq_ (as_ m y GM) (nI p) (nI k)) (N 17) + 1), si_ (sa_ (sa_ (sa_ (sa_ (sa_ (sa_ (si_ (bm_ m cc) 1600 y 0) (ga_ GM 20 0) (N 17) (nI p)) (ga_ GM 21 0) (N 17) (nI k)) (ga_ GM 22 0) (N 17) a2) (ga_ GM 23 0) (N 17) (nI (td_ N))) (ga_ GM 24 0) (N 17) (zo_ a3)) (ga_ GM 19 0) (10 * p + k) (nI (td_ N))) 1617 y (nI (N 17 + 1))) := by
              rw [← ecn]
              exact m_many mr1 (nI p) (nI k)
            generalize si_ (bm_ m cc) 1600 y 0 = σ at h1 mr1 hmany ⊢
            have hy := mo_y h1.1
            have hd := m_done (σ := si_ (sa_ (sa_ (sa_ (sa_ (sa_ (sa_ (σ) (ga_ GM 20 0) (N 17) (nI p)) (ga_ GM 21 0) (N 17) (nI k)) (ga_ GM 22 0) (N 17) a2) (ga_ GM 23 0) (N 17) (nI (td_ N))) (ga_ GM 24 0) (N 17) (zo_ a3)) (ga_ GM 19 0) (10 * p + k) (nI (td_ N))) 1617 y (nI (N 17 + 1))) (y := y) hy (nI (cn_ (tq_ (as_ m y GM) (nI p) (nI k)) (N 17) + 1))
            have ec := (mo_n h1.1 (j := 17) (cj := 1617) (m := 240) (by decide)).1
            have td1 := m_today2 (mr_sa (mr_sa (mr_sa h1 (j := 20) (by decide) (N 17) (nI p)) (j := 21) (by decide) (N 17) (nI k)) (j := 22) (by decide) (N 17) a2)
            have td2 := m_today2 (mr_sa (mr_sa (mr_sa (mr_sa (mr_sa h1 (j := 20) (by decide) (N 17) (nI p)) (j := 21) (by decide) (N 17) (nI k)) (j := 22) (by decide) (N 17) a2) (j := 23) (by decide) (N 17) (nI (td_ N))) (j := 24) (by decide) (N 17) (zo_ a3))
            have j1 : ¬ nI (N 17) < 0 := nI_pos (by omega)
            have j3 : (nI (N 17)).toNatClampNeg = N 17 := nI_clamp (by omega)
            have j4 : ¬ 240 ≤ N 17 := by omega
            have j6 : ¬ nI (N 17) = 240 := nI_cn (k := 240) rfl (by omega) (by omega) (by decide)
            have i1 : ¬ nI (10 * p + k) < 0 := nI_pos (by omega)
            have i3 : (nI (10 * p + k)).toNatClampNeg = 10 * p + k := nI_clamp (by omega)
            have i4 : ¬ 300 ≤ 10 * p + k := by omega
            obtain ⟨a20, b20, c20⟩ := mo_a h1.1 (j := 20) (cj := 1620) (K := 20) (n := 240) (by decide)
            obtain ⟨a21, b21, c21⟩ := mo_a h1.1 (j := 21) (cj := 1621) (K := 20) (n := 240) (by decide)
            obtain ⟨a22, b22, c22⟩ := mo_a h1.1 (j := 22) (cj := 1622) (K := 20) (n := 240) (by decide)
            obtain ⟨a23, b23, c23⟩ := mo_a h1.1 (j := 23) (cj := 1623) (K := 20) (n := 240) (by decide)
            obtain ⟨a24, b24, c24⟩ := mo_a h1.1 (j := 24) (cj := 1624) (K := 22) (n := 240) (by decide)
            obtain ⟨a19, b19, c19⟩ := mo_a h1.1 (j := 19) (cj := 1619) (K := 20) (n := 300) (by decide)
            simp [gt_, lt_, nn_, oc_, bd_, kd_si, ln_si, fi_si, fr_si, fl_si, ai_si, ar_si, al_si, ow_si, nx_si, sl_si, kd_sr, ln_sr, fi_sr, fr_sr, fl_sr, ai_sr, ar_sr, al_sr, ow_sr, nx_sr, sl_sr, kd_so, ln_so, fi_so, fr_so, fl_so, ai_so, ar_so, al_so, ow_so, nx_so, sl_so, kd_sa, ln_sa, fi_sa, fr_sa, fl_sa, ai_sa, ar_sa, al_sa, ow_sa, nx_sa, sl_sa, kd_sq, ln_sq, fi_sq, fr_sq, fl_sq, ai_sq, ar_sq, al_sq, ow_sq, nx_sq, sl_sq, kd_sj, ln_sj, fi_sj, fr_sj, fl_sj, ai_sj, ar_sj, al_sj, ow_sj, nx_sj, sl_sj, m_isPerson1 h1.1 hp, m_isKind, m_in, bi_, g5, g6, ec, j1, j3, j4, j6, a20, b20, c20, a21, b21, c21, a22, b22, c22, a23, b23, c23, a24, b24, c24, a19, b19, c19, td1, td2, zo_nar, ten_, i1, i3, i4, nI_1, hmany, hy, hd]
          have g2 : fq_ (fun q => q = y ∨ ∃ j, j ∈ MA ∧ q = ga_ GM j 0) (bm_ m cc) m1 := by
            rw [hm1]
            exact fqt (fqi (fqa (fqa (fqa (fqa (fqa (fqa (fqi (fq_rf hwf) (Or.inl rfl)) (Or.inr ⟨20, by decide, rfl⟩)) (Or.inr ⟨21, by decide, rfl⟩)) (Or.inr ⟨22, by decide, rfl⟩)) (Or.inr ⟨23, by decide, rfl⟩)) (Or.inr ⟨24, by decide, rfl⟩)) (Or.inr ⟨19, by decide, rfl⟩)) (Or.inl rfl)) (Or.inl rfl)
          have g3r : mr_ m1 y GM ((fun q => if q = 17 then nI (N 17 + 1) else s3_ (aS (as_ m y GM)) 0 q), up2_ (up2_ (up2_ (up2_ (up2_ (up2_ (aV (as_ m y GM)) 20 (N 17) (nI p)) 21 (N 17) (nI k)) 22 (N 17) a2) 23 (N 17) (nI (td_ N))) 24 (N 17) (zo_ a3)) 19 (10 * p + k) (nI (td_ N)), (as_ m y GM).2.2) (fun q => if q = 17 then N 17 + 1 else N q) := by
            rw [hm1]
            exact mr_S (mr_tr mr1 0) _
          have g4r : ∀ j, j ∈ DS → fi_ m1 (1600 + j) y = (fun q => if q = 17 then nI (N 17 + 1) else s3_ (aS (as_ m y GM)) 0 q) j := fun j hj => by
            rw [hm1]
            dsimp only
            by_cases z : j = 17
            · subst z
              unfold tr_
              rw [if_pos rfl, fi_si, up2_c (by decide), fi_si, up2_c (by decide), fi_si, up2_s]
            · rw [if_neg z]
              exact s3_fi2 (σ := bm_ m cc) rfl rfl z
          have g5r : nx_ m1 = nx_ cc ∧ sl_ m1 = sl_ cc := by rw [hm1]; exact ⟨rfl, rfl⟩
          refine ⟨_, cc, m1, g1c, g1r, inv_fin hI w2 ⟨by omega, by omega⟩ g2 ⟨by rw [g5r.1]; exact Nat.le_add_right _ _, by rw [g5r.2]; exact Nat.le_add_right _ _⟩ g3r g4r w1 (pv_fact k3 hN hlt hp hk rfl g6)⟩
      · skip
        refine ⟨-1, si_ c 1214 x 2, tr_ (si_ (bm_ m (si_ c 1214 x 2)) 1600 y 0) y 2, ?_, ?_, no_ pv_S hI 2 (by decide)⟩
        · simp [f_X11_fact, f_X11_fact_b32, gt_, lt_, nn_, oc_, bd_, hx, p1, k_isKind, iv, bi_, g5, g6, k_refused hx]
        · have h1 := mr_si (mr_bm (z := si_ c 1214 x 2) (mr_of k1) (Nat.le_of_eq k5.1)) (j := 0) (c := 1600) (by decide) 0
          unfold f_X15_fact
          rw [gt_t (show kd_ (bm_ m (si_ c 1214 x 2)) y = 17 from mo_yb k1), lt_e]
          generalize si_ (bm_ m (si_ c 1214 x 2)) 1600 y 0 = σ at h1 ⊢
          simp [f_X15_fact_b39, gt_, lt_, nn_, oc_, bd_, mo_y h1.1, m_isPerson1 h1.1 hp, m_isKind, m_in, bi_, g5, g6, m_refused (mo_y h1.1)]
    · skip
      refine ⟨-1, si_ c 1214 x 2, tr_ (si_ (bm_ m (si_ c 1214 x 2)) 1600 y 0) y 2, ?_, ?_, no_ pv_S hI 2 (by decide)⟩
      · simp [f_X11_fact, f_X11_fact_b32, gt_, lt_, nn_, oc_, bd_, hx, p1, k_isKind, bi_, g5, k_refused hx]
      · have h1 := mr_si (mr_bm (z := si_ c 1214 x 2) (mr_of k1) (Nat.le_of_eq k5.1)) (j := 0) (c := 1600) (by decide) 0
        unfold f_X15_fact
        rw [gt_t (show kd_ (bm_ m (si_ c 1214 x 2)) y = 17 from mo_yb k1), lt_e]
        generalize si_ (bm_ m (si_ c 1214 x 2)) 1600 y 0 = σ at h1 ⊢
        simp [f_X15_fact_b39, gt_, lt_, nn_, oc_, bd_, mo_y h1.1, m_isPerson1 h1.1 hp, m_isKind, bi_, g5, m_refused (mo_y h1.1)]
  · skip
    refine ⟨-1, si_ c 1214 x 1, tr_ (si_ (bm_ m (si_ c 1214 x 1)) 1600 y 0) y 1, ?_, ?_, no_ pv_S hI 1 (by decide)⟩
    · simp [f_X11_fact, gt_, lt_, nn_, oc_, bd_, hx, k_person0 k2 hN hout, k_refused hx]
    · have h1 := mr_si (mr_bm (z := si_ c 1214 x 1) (mr_of k1) (Nat.le_of_eq k5.1)) (j := 0) (c := 1600) (by decide) 0
      unfold f_X15_fact
      rw [gt_t (show kd_ (bm_ m (si_ c 1214 x 1)) y = 17 from mo_yb k1), lt_e]
      generalize si_ (bm_ m (si_ c 1214 x 1)) 1600 y 0 = σ at h1 ⊢
      simp [gt_, lt_, nn_, oc_, bd_, m_isPerson0 h1.1 hout, m_refused (mo_y h1.1)]
end C70
