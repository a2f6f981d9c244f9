/-! CALLS: report, rumour. Written by wip/b/mk67.py. -/
section C67
variable {ka : Nat → Nat} {TX : Nat → Nat → (Nat → Int32) → Nat → (Nat → Int32) → Prop} {x y o N0 : Nat}
theorem ob_c4 {A : AS} {G : GH} {N : Nat → Nat} {r i : Nat} {m : CE} (S : Nat → Int32) (a1 a2 b e1 : Nat)  (V : Nat → Nat → Int32) (hd : ¬ r ∈ ([0, 4, 10, 41, 42, 43, 54] : List Nat)) (h : ob_ ka TX A G N r i m) : ob_ ka TX (S, (fun j => if j ∈ ([61, 62, 63, 64, 65, 66, 67] : List Nat) then V j else aV A j), A.2.2) (gy_ (gn_ (gn_ (gn_ G 42 a1) 43 a2) 41 b) 54 e1) (fun q => if q = 59 then N 59 + 1 else N q) r i m := by
  match r, hd, h with
  | 0, hd, h => exact absurd (by decide) hd
  | 1, hd, h => exact h
  | 2, hd, h => exact h
  | 3, hd, h => exact h
  | 4, hd, h => exact absurd (by decide) hd
  | 5, hd, h => exact h
  | 6, hd, h => exact h
  | 7, hd, h => exact h
  | 8, hd, h => exact h
  | 9, hd, h => exact h
  | 10, hd, h => exact absurd (by decide) hd
  | 11, hd, h => exact h
  | 12, hd, h => exact h
  | 13, hd, h => exact h
  | 14, hd, h => exact h
  | 15, hd, h => exact h
  | 16, hd, h => exact h
  | 17, hd, h => exact h
  | 18, hd, h => exact h
  | 19, hd, h => exact h
  | 20, hd, h => exact h
  | 21, hd, h => exact h
  | 22, hd, h => exact h
  | 23, hd, h => exact h
  | 24, hd, h => exact h
  | 25, hd, h => exact h
  | 26, hd, h => exact h
  | 27, hd, h => exact h
  | 28, hd, h => exact h
  | 29, hd, h => exact h
  | 30, hd, h => exact h
  | 31, hd, h => exact h
  | 32, hd, h => exact h
  | 33, hd, h => exact h
  | 34, hd, h => exact h
  | 35, hd, h => exact h
  | 36, hd, h => exact h
  | 37, hd, h => exact h
  | 38, hd, h => exact h
  | 39, hd, h => exact h
  | 40, hd, h => exact h
  | 41, hd, h => exact absurd (by decide) hd
  | 42, hd, h => exact absurd (by decide) hd
  | 43, hd, h => exact absurd (by decide) hd
  | 44, hd, h => exact h
  | 45, hd, h => exact h
  | 46, hd, h => exact h
  | 47, hd, h => exact h
  | 48, hd, h => exact h
  | 49, hd, h => exact h
  | 50, hd, h => exact h
  | 51, hd, h => exact h
  | 52, hd, h => exact h
  | 53, hd, h => exact h
  | 54, hd, h => exact absurd (by decide) hd
  | 55, hd, h => exact h
  | 56, hd, h => exact h
  | 57, hd, h => exact h
  | 58, hd, h => exact h
  | r + 59, hd, h => exact h
theorem cg_c4 {G : GH} {N : Nat → Nat} {a1 a2 b e1 : Nat} (h : cg_ G N) : cg_ (gy_ (gn_ (gn_ (gn_ G 42 a1) 43 a2) 41 b) 54 e1) (fun q => if q = 59 then N 59 + 1 else N q) := by
  obtain ⟨h0, h30, h31, h32, h33, h34, h35, h36, h37, h38, h39, h40, h41, h42, h43, h44, h45, h46, h47, h48⟩ := h
  refine ⟨fun r hr => ?_, h30, h31, h32, h33, h34, h35, h36, h37, h38, h39, h40, ?_, ?_, ?_, h44, h45, h46, h47, h48⟩
  · have h9 : ∀ r, r ∈ ([0, 1, 2, 3, 4, 5, 6, 7, 8, 9, 10, 11, 12, 13, 14, 15, 16, 17, 18, 19, 20, 21, 22] : List Nat) → r ≠ 42 ∧ r ≠ 43 ∧ r ≠ 41 ∧ r ≠ 54 := by decide
    have := h9 r hr
    show gc_ (gy_ (gn_ (gn_ (gn_ G 42 a1) 43 a2) 41 b) 54 e1) r = 1
    refine Eq.trans ?_ (h0 r hr)
    simp [gy_, gn_, gc_, this]
  · show gc_ (gy_ (gn_ (gn_ (gn_ G 42 a1) 43 a2) 41 b) 54 e1) 41 = (fun q => if q = 59 then N 59 + 1 else N q) 59
    simp [gy_, gn_, gc_] at *
    omega
  · show gc_ (gy_ (gn_ (gn_ (gn_ G 42 a1) 43 a2) 41 b) 54 e1) 42 = (fun q => if q = 59 then N 59 + 1 else N q) 59
    simp [gy_, gn_, gc_] at *
    omega
  · show gc_ (gy_ (gn_ (gn_ (gn_ G 42 a1) 43 a2) 41 b) 54 e1) 43 = (fun q => if q = 59 then N 59 + 1 else N q) 59
    simp [gy_, gn_, gc_] at *
    omega
theorem rc_c4 {σ s τ : TH} {G : GH} {A : AS} {N : Nat → Nat} {a1 a2 b e1 : Nat}  {V : Nat → Nat → Int32} {S0 : Nat → Int32} (h : rc_ ka TX σ x G A N) (hp : pv_ A N) (hcap : N 59 < 120) (hV : (∀ j, j ∈ ([61, 62, 63, 64, 65] : List Nat) → ∀ i, i ≠ N 59 → V j i = aV A j i) ∧ (∀ i, i < 3 * N 59 → V 66 i = aV A 66 i ∧ V 67 i = aV A 67 i)) {F : Nat} (hF : fn9_ (S0, V, A.2.2) (N 59) = F) (hf : fq_ (fun _ => False) σ s) (hb42 : nx_ σ ≤ a1 ∧ kd_ s a1 = 20 ∧ ln_ s a1 = 3) (hb43 : nx_ σ ≤ a2 ∧ kd_ s a2 = 20 ∧ ln_ s a2 = 3) (hb41 : nx_ σ ≤ b ∧ kd_ s b = 9) (hdist : a1 ≠ a2 ∧ a1 ≠ b ∧ a2 ≠ b) (hs : fi_ s 800 b = V 61 (N 59) ∧ fi_ s 801 b = V 62 (N 59) ∧ fi_ s 802 b = V 63 (N 59) ∧ fi_ s 803 b = V 64 (N 59) ∧ fi_ s 804 b = V 65 (N 59) ∧ fi_ s 807 b = nI F ∧ fi_ s 809 b = 0 ∧ fr_ s 805 b = some a1 ∧ fr_ s 806 b = some a2 ∧ (∀ j, j < F → ai_ s a1 j = V 66 (3 * N 59 + j)) ∧ ∀ j, j < F → ai_ s a2 j = V 67 (3 * N 59 + j)) (hk : fq_ (fun q => q = ga_ G 4 0 ∨ q = (if gc_ G 54 = 0 then ka 200 else ga_ G 54 0)) s τ) (he : kd_ τ e1 = 24) (hee : (0 < gc_ G 54 ∧ e1 = ga_ G 54 0) ∨ nx_ s ≤ e1) (hl : ls_ ka τ (ga_ G 4 0) e1 (N 59 + 1) (fun i => if i = N 59 then b else ga_ G 41 i)) : rc_ ka TX (si_ τ 1214 x 0) x (gy_ (gn_ (gn_ (gn_ G 42 a1) 43 a2) 41 b) 54 e1) (s3_ (aS A) 0, (fun j => if j ∈ ([61, 62, 63, 64, 65, 66, 67] : List Nat) then V j else aV A j), A.2.2) (fun q => if q = 59 then N 59 + 1 else N q) ∧ fq_ (fun q => q = x ∨ q = ga_ G 4 0 ∨ q = (if gc_ G 54 = 0 then ka 200 else ga_ G 54 0)) σ (si_ τ 1214 x 0) := by
  have hlt42 : a1 < nx_ s := kd_ltn hf.2.1 hb42.2.1 (by decide)
  have hcnt42 : gc_ G 42 = N 59 := by
    have := h.2.2.1
    unfold cg_ at this
    simp only [this]
  have hlt43 : a2 < nx_ s := kd_ltn hf.2.1 hb43.2.1 (by decide)
  have hcnt43 : gc_ G 43 = N 59 := by
    have := h.2.2.1
    unfold cg_ at this
    simp only [this]
  have hlt41 : b < nx_ s := kd_ltn hf.2.1 hb41.2 (by decide)
  have hcnt41 : gc_ G 41 = N 59 := by
    have := h.2.2.1
    unfold cg_ at this
    simp only [this]
  have hfs : fq_ (fun q => q = x ∨ q = ga_ G 4 0 ∨ q = (if gc_ G 54 = 0 then ka 200 else ga_ G 54 0)) σ (si_ τ 1214 x 0) := fq_tr (fq_tr (fq_w hf (fun _ z => z.elim)) (fq_w hk (fun _ z => Or.inr z))) (fq_si hk.2.1 (Or.inl rfl))
  have hx0 : ∀ r i, i < gc_ G r → r ≠ 0 → ga_ G r i ≠ x := fun r i hi hr => rc_nx h hi hr
  have hxl : x < nx_ σ := kd_ltn h.1.1 (rc_x h) (by decide)
  have hll : ga_ G 4 0 < nx_ σ := sh_lt h.1 (rc_1 h (by decide))
  have hEl : (if gc_ G 54 = 0 then ka 200 else ga_ G 54 0) < nx_ σ := by
    by_cases z : gc_ G 54 = 0
    · rw [if_pos z]; exact h.2.1.2.2
    · rw [if_neg z]; exact sh_lt h.1 (Nat.pos_of_ne_zero z)
  have hTE : ∀ r i, i < gc_ G r → r ≠ 54 → ga_ G r i ≠ (if gc_ G 54 = 0 then ka 200 else ga_ G 54 0) := fun r i hi hr => by
    by_cases z : gc_ G 54 = 0
    · rw [if_pos z]; exact rc_ka h hi
    · rw [if_neg z]; exact sh_ne h.1 hi (Nat.pos_of_ne_zero z) (Or.inl hr)
  have hnT : ∀ q, nx_ σ ≤ q → ¬ (q = ga_ G 4 0 ∨ q = (if gc_ G 54 = 0 then ka 200 else ga_ G 54 0)) := fun q hq z => by
    rcases z with z | z
    · omega
    · omega
  have hold : ∀ r i, i < gc_ G r → ¬ r ∈ ([0, 4, 54] : List Nat) → ce_ (si_ τ 1214 x 0) (ga_ G r i) = ce_ σ (ga_ G r i) := fun r i hi hr => rc_ce h hfs hi (fun z => by
    rcases z with z | z | z
    · exact hx0 r i hi (fun q => hr (by rw [q]; decide)) z
    · exact sh_ne h.1 hi (rc_1 h (by decide)) (Or.inl (fun q => hr (by rw [q]; decide))) z
    · exact hTE r i hi (fun q => hr (by rw [q]; decide)) z)
  have hnew : ∀ q, nx_ σ ≤ q → q < nx_ s → ce_ (si_ τ 1214 x 0) q = ce_ s q := fun q h1 h2 => by
    rw [ce_si (show q ≠ x by omega), hk.2.2 q h2 (hnT q h1)]
  have hsh : sh_ KC LC (si_ τ 1214 x 0) (gy_ (gn_ (gn_ (gn_ G 42 a1) 43 a2) 41 b) 54 e1) := by
    have h1 : sh_ KC LC (si_ τ 1214 x 0) G := sh_fq h.1 hfs
    have h2 := sh_gn2 (r := 42) (b := a1) h1 (fh_of h.1 hb42.1) (fq_kd hk hb42.2.1 (by decide)) (by decide) (fun _ => Eq.trans (hk.1.2.2.2.2 a1 (by rw [hb42.2.1]; decide)).2 hb42.2.2)
    have h3 := sh_gn2 (r := 43) (b := a2) h2 (fh_gn (fh_of h.1 hb43.1) (by omega)) (fq_kd hk hb43.2.1 (by decide)) (by decide) (fun _ => Eq.trans (hk.1.2.2.2.2 a2 (by rw [hb43.2.1]; decide)).2 hb43.2.2)
    have h4 := sh_gn2 (r := 41) (b := b) h3 (fh_gn (fh_gn (fh_of h.1 hb41.1) (by omega)) (by omega)) (fq_kd hk hb41.2 (by decide)) (by decide) (fun z => absurd rfl z)
    refine sh_gy h4 ?_ he (by decide) rfl
    rcases hee with ⟨q1, q2⟩ | q
    · exact Or.inr ⟨q1, q2⟩
    · exact Or.inl (fh_gn (fh_gn (fh_gn (fh_of h.1 (Nat.le_trans hf.1.1 q)) (by omega)) (by omega)) (by omega))
  refine ⟨rc_gen2 h hfs hsh (cg_c4 h.2.2.1) [0, 4, 10, 41, 42, 43, 54] (fun r hr => ?_) h.2.1.1 (fun q hq => ?_) (fun r i m hr h9 => ob_c4 _ _ _ _ _ _ hr h9) (fun r i hr hi => ?_), hfs⟩
  · have q : r ≠ 42 ∧ r ≠ 43 ∧ r ≠ 41 ∧ r ≠ 54 := ⟨fun z => hr (by rw [z]; decide), fun z => hr (by rw [z]; decide), fun z => hr (by rw [z]; decide), fun z => hr (by rw [z]; decide)⟩
    exact ⟨by simp [gy_, gn_, gc_, q], fun i => by simp [gy_, gn_, ga_, q]⟩
  · rcases hq with hq | hq | hq
    · exact Or.inl ⟨0, 0, by decide, rc_1 h (by decide), hq.trans h.2.1.1.symm⟩
    · exact Or.inl ⟨4, 0, by decide, rc_1 h (by decide), hq⟩
    · by_cases z : gc_ G 54 = 0
      · rw [if_pos z] at hq; exact Or.inr hq
      · rw [if_neg z] at hq
        exact Or.inl ⟨54, 0, by decide, Nat.pos_of_ne_zero z, hq⟩
  · have hao := ao_4 (ka := ka) (TX := TX) (A := (s3_ (aS A) 0, (fun j => if j ∈ ([61, 62, 63, 64, 65, 66, 67] : List Nat) then V j else aV A j), A.2.2)) (G1 := gy_ (gn_ (gn_ (gn_ G 42 a1) 43 a2) 41 b) 54 e1) (N1 := fun q => if q = 59 then N 59 + 1 else N q) (τ := τ) (a := ga_ G 4 0) (e1 := e1) hl he ⟨rfl, rfl⟩ (fun j hj => by
      have hj : j < N 59 + 1 := hj
      by_cases z : j = N 59
      · subst z; simp [gy_, gn_, ga_, gc_] ; simp [← hcnt41, gc_]
      · have z2 : ¬ j = G.1 41 := by rw [show G.1 41 = N 59 from hcnt41]; exact z
        simp [gy_, gn_, ga_, gc_, z, z2])
    simp only [List.mem_cons, List.not_mem_nil, or_false] at hr
    rcases hr with rfl | rfl | rfl | rfl | rfl | rfl | rfl
    · have : i = 0 := by
        have : i < gc_ G 0 := hi
        exact g0_ h (by decide) this
      subst this
      show ob_ ka TX _ _ _ 0 0 (ce_ (si_ τ 1214 x 0) (ga_ G 0 0))
      rw [h.2.1.1]
      have hxT : ¬ (x = ga_ G 4 0 ∨ x = (if gc_ G 54 = 0 then ka 200 else ga_ G 54 0)) := fun z => by
        rcases z with z | z
        · exact hx0 4 0 (rc_1 h (by decide)) (by decide) z.symm
        · exact hTE 0 0 (rc_1 h (by decide)) (by decide) (h.2.1.1.trans z)
      refine ob_0b h 0 _ (fun c => ?_) (fun c c1 => ?_) ?_ (fun r hr => ?_)
      · rw [fr_si, fq_fr hk (Nat.lt_of_lt_of_le hxl hf.1.1) hxT c, fq_fr hf hxl (fun z => z) c]
      · rw [fi_si, up2_c c1, fq_fi hk (Nat.lt_of_lt_of_le hxl hf.1.1) hxT c, fq_fi hf hxl (fun z => z) c]
      · rw [fi_si, up2_s]
      · have q : ∀ r, r ∈ ([1, 2, 3, 4, 5, 6, 7, 8, 9, 10, 14, 17] : List Nat) → r ≠ 42 ∧ r ≠ 43 ∧ r ≠ 41 ∧ r ≠ 54 := by decide
        have q1 := q r hr
        simp [gy_, gn_, ga_, q1]
    · have : i = 0 := by
        have : i < gc_ G 4 := hi
        exact g0_ h (by decide) this
      subst this
      show ob_ ka TX _ _ _ 4 0 (ce_ (si_ τ 1214 x 0) (ga_ G 4 0))
      rw [ce_si (hx0 4 0 (rc_1 h (by decide)) (by decide))]
      exact hao.1
    · have : i = 0 := by
        have : i < gc_ G 10 := hi
        exact g0_ h (by decide) this
      subst this
      show ob_ ka TX _ _ _ 10 0 (ce_ (si_ τ 1214 x 0) (ga_ G 10 0))
      rw [hold 10 0 (rc_1 h (by decide)) (by decide)]
      exact ob_10 h 0 (by decide) _
    · have hi' : i < gc_ G 41 + 1 := hi
      by_cases z : i = gc_ G 41
      · have eb : ga_ (gy_ (gn_ (gn_ (gn_ G 42 a1) 43 a2) 41 b) 54 e1) 41 i = b := by rw [z]; simp [gy_, gn_, ga_, gc_]
        rw [eb, hnew b hb41.1 hlt41]
        rw [hcnt41] at z
        subst z
        have hd := hp.2.2.2.2.2.2.2.2.2.1 (N 59) (Nat.le_refl _) hcap
        refine ⟨hs.1, hs.2.1, hs.2.2.1, hs.2.2.2.1, hs.2.2.2.2.1, ?_, ?_, ?_, ?_, ?_⟩
        · show fr_ s 805 b = some (ga_ (gy_ (gn_ (gn_ (gn_ G 42 a1) 43 a2) 41 b) 54 e1) 42 (N 59))
          rw [show ga_ (gy_ (gn_ (gn_ (gn_ G 42 a1) 43 a2) 41 b) 54 e1) 42 (N 59) = a1 from by rw [← hcnt42]; simp [gy_, gn_, ga_, gc_]]
          exact hs.2.2.2.2.2.2.2.1
        · show fr_ s 806 b = some (ga_ (gy_ (gn_ (gn_ (gn_ G 42 a1) 43 a2) 41 b) 54 e1) 43 (N 59))
          rw [show ga_ (gy_ (gn_ (gn_ (gn_ G 42 a1) 43 a2) 41 b) 54 e1) 43 (N 59) = a2 from by rw [← hcnt43]; simp [gy_, gn_, ga_, gc_]]
          exact hs.2.2.2.2.2.2.2.2.1
        · show fi_ s 807 b = nI (fn9_ (S0, V, A.2.2) (N 59))
          rw [hF]; exact hs.2.2.2.2.2.1
        · show fi_ s 809 b = aV A 68 (N 59)
          rw [hd]; exact hs.2.2.2.2.2.2.1
        · exact Or.inl hd
      · have eb : ga_ (gy_ (gn_ (gn_ (gn_ G 42 a1) 43 a2) 41 b) 54 e1) 41 i = ga_ G 41 i := by
          have z2 : ¬ i = G.1 41 := z
          simp [gy_, gn_, ga_, gc_, z2]
        have hio : i < gc_ G 41 := by omega
        have z3 : i ≠ N 59 := by rw [← hcnt41]; exact z
        rw [eb, hold 41 i hio (by decide)]
        have q := h.2.2.2 41 i hio
        have hfo : fn9_ (s3_ (aS A) 0, (fun j => if j ∈ ([61, 62, 63, 64, 65, 66, 67] : List Nat) then V j else aV A j), A.2.2) i = fn9_ A i := by
          have e0 := (hV.2 (3 * i) (by omega)).1
          have e1 := (hV.2 (3 * i + 1) (by omega)).1
          have e2 := (hV.2 (3 * i + 2) (by omega)).1
          show (if V 66 (3 * i) = -1 then 0 else if V 66 (3 * i + 1) = -1 then 1 else if V 66 (3 * i + 2) = -1 then 2 else 3) = _
          rw [e0, e1, e2]
          rfl
        obtain ⟨q0, q1, q2, q3, q4, q5, q6, q7, q8, q9⟩ := q
        refine ⟨q0.trans ?_, q1.trans ?_, q2.trans ?_, q3.trans ?_, q4.trans ?_, q5.trans ?_, q6.trans ?_, q7.trans ?_, q8, q9⟩
        · exact (hV.1 61 (by decide) i z3).symm
        · exact (hV.1 62 (by decide) i z3).symm
        · exact (hV.1 63 (by decide) i z3).symm
        · exact (hV.1 64 (by decide) i z3).symm
        · exact (hV.1 65 (by decide) i z3).symm
        · rw [show ga_ (gy_ (gn_ (gn_ (gn_ G 42 a1) 43 a2) 41 b) 54 e1) 42 i = ga_ G 42 i from by
            have z2 : ¬ i = G.1 42 := fun w => z3 (w.trans hcnt42)
            simp [gy_, gn_, ga_, gc_, z2]]
        · rw [show ga_ (gy_ (gn_ (gn_ (gn_ G 42 a1) 43 a2) 41 b) 54 e1) 43 i = ga_ G 43 i from by
            have z2 : ¬ i = G.1 43 := fun w => z3 (w.trans hcnt43)
            simp [gy_, gn_, ga_, gc_, z2]]
        · rw [hfo]
    · have hi' : i < gc_ G 42 + 1 := hi
      by_cases z : i = gc_ G 42
      · have eb : ga_ (gy_ (gn_ (gn_ (gn_ G 42 a1) 43 a2) 41 b) 54 e1) 42 i = a1 := by rw [z]; simp [gy_, gn_, ga_, gc_]
        rw [eb, hnew a1 hb42.1 hlt42]
        rw [hcnt42] at z
        subst z
        intro k hk
        have hk : k < fn9_ (S0, V, A.2.2) (N 59) := hk
        rw [hF] at hk
        exact hs.2.2.2.2.2.2.2.2.2.1 k hk
      · have eb : ga_ (gy_ (gn_ (gn_ (gn_ G 42 a1) 43 a2) 41 b) 54 e1) 42 i = ga_ G 42 i := by
          have z2 : ¬ i = G.1 42 := z
          simp [gy_, gn_, ga_, gc_, z2]
        have hio : i < gc_ G 42 := by omega
        have z3 : i ≠ N 59 := by rw [← hcnt42]; exact z
        rw [eb, hold 42 i hio (by decide)]
        have q := h.2.2.2 42 i hio
        have hfo : fn9_ (s3_ (aS A) 0, (fun j => if j ∈ ([61, 62, 63, 64, 65, 66, 67] : List Nat) then V j else aV A j), A.2.2) i = fn9_ A i := by
          have e0 := (hV.2 (3 * i) (by omega)).1
          have e1 := (hV.2 (3 * i + 1) (by omega)).1
          have e2 := (hV.2 (3 * i + 2) (by omega)).1
          show (if V 66 (3 * i) = -1 then 0 else if V 66 (3 * i + 1) = -1 then 1 else if V 66 (3 * i + 2) = -1 then 2 else 3) = _
          rw [e0, e1, e2]
          rfl
        intro k hk
        rw [hfo] at hk
        have hk3 : k < 3 := by
          rcases fn9_c A i with ⟨h, -⟩ | ⟨h, -⟩ | ⟨h, -⟩ | ⟨h, -⟩ <;> omega
        exact (q k hk).trans (hV.2 (3 * i + k) (by omega)).1.symm
    · have hi' : i < gc_ G 43 + 1 := hi
      by_cases z : i = gc_ G 43
      · have eb : ga_ (gy_ (gn_ (gn_ (gn_ G 42 a1) 43 a2) 41 b) 54 e1) 43 i = a2 := by rw [z]; simp [gy_, gn_, ga_, gc_]
        rw [eb, hnew a2 hb43.1 hlt43]
        rw [hcnt43] at z
        subst z
        intro k hk
        have hk : k < fn9_ (S0, V, A.2.2) (N 59) := hk
        rw [hF] at hk
        exact hs.2.2.2.2.2.2.2.2.2.2 k hk
      · have eb : ga_ (gy_ (gn_ (gn_ (gn_ G 42 a1) 43 a2) 41 b) 54 e1) 43 i = ga_ G 43 i := by
          have z2 : ¬ i = G.1 43 := z
          simp [gy_, gn_, ga_, gc_, z2]
        have hio : i < gc_ G 43 := by omega
        have z3 : i ≠ N 59 := by rw [← hcnt43]; exact z
        rw [eb, hold 43 i hio (by decide)]
        have q := h.2.2.2 43 i hio
        have hfo : fn9_ (s3_ (aS A) 0, (fun j => if j ∈ ([61, 62, 63, 64, 65, 66, 67] : List Nat) then V j else aV A j), A.2.2) i = fn9_ A i := by
          have e0 := (hV.2 (3 * i) (by omega)).1
          have e1 := (hV.2 (3 * i + 1) (by omega)).1
          have e2 := (hV.2 (3 * i + 2) (by omega)).1
          show (if V 66 (3 * i) = -1 then 0 else if V 66 (3 * i + 1) = -1 then 1 else if V 66 (3 * i + 2) = -1 then 2 else 3) = _
          rw [e0, e1, e2]
          rfl
        intro k hk
        rw [hfo] at hk
        have hk3 : k < 3 := by
          rcases fn9_c A i with ⟨h, -⟩ | ⟨h, -⟩ | ⟨h, -⟩ | ⟨h, -⟩ <;> omega
        exact (q k hk).trans (hV.2 (3 * i + k) (by omega)).2.symm
    · have : i = 0 := by
        have : i < 1 := hi
        omega
      subst this
      show ob_ ka TX _ _ _ 54 0 (ce_ (si_ τ 1214 x 0) e1)
      rw [ce_si (fun z => by
        rcases hee with ⟨q1, q2⟩ | q
        · exact hx0 54 0 q1 (by decide) (q2.symm.trans z)
        · have := hf.1.1
          omega)]
      exact hao.2
theorem pv_c4 {A : AS} {N : Nat → Nat} {S : Nat → Int32} {V : Nat → Nat → Int32} (h : pv_ A N) (hb : N 6 ≤ 5257439) (hV : (∀ j, j ∈ ([61, 62, 63, 64, 65] : List Nat) → ∀ i, i ≠ N 59 → V j i = aV A j i) ∧ (∀ i, i < 3 * N 59 → V 66 i = aV A 66 i ∧ V 67 i = aV A 67 i)) (h1 : V 61 (N 59) = -1 ∨ ∃ p, p < N 5 ∧ V 61 (N 59) = nI p) (h2 : ∃ d, d ≤ td_ N ∧ V 63 (N 59) = nI d) (h3 : ∃ s, s < 5 ∧ V 64 (N 59) = nI s) (h4 : V 65 (N 59) = nI (N 6)) (h5 : ∀ j, j < 3 → V 66 (3 * N 59 + j) = -1 ∨ ∃ k, k < 10 ∧ V 66 (3 * N 59 + j) = nI k) (h6 : V 66 (3 * N 59) = -1 → V 66 (3 * N 59 + 1) = -1) (h7 : V 66 (3 * N 59 + 1) = -1 → V 66 (3 * N 59 + 2) = -1) : pv_ (S, (fun j => if j ∈ ([61, 62, 63, 64, 65, 66, 67] : List Nat) then V j else aV A j), A.2.2) (fun q => if q = 59 then N 59 + 1 else N q) := by
  obtain ⟨p1, p2, p3, p4, p5, p6, p7, d1, d2, d3, d4⟩ := h
  refine ⟨p1, p2, fun r hr => ?_, p4, p5, p6, p7, d1, d2, fun r hr hr2 => d3 r (Nat.le_of_succ_le hr) hr2, d4⟩
  have hr : r < N 59 + 1 := hr
  show (V 61 r = -1 ∨ ∃ p, p < N 5 ∧ V 61 r = nI p) ∧ (∃ d, d ≤ td_ N ∧ V 63 r = nI d) ∧ (∃ s, s < 5 ∧ V 64 r = nI s) ∧ (∃ t, t ≤ N 6 ∧ V 65 r = nI t) ∧ (∀ q, q ≤ r → V 65 q ≤ V 65 r) ∧ (∀ j, j < 3 → V 66 (3 * r + j) = -1 ∨ ∃ k, k < 10 ∧ V 66 (3 * r + j) = nI k) ∧ (V 66 (3 * r) = -1 → V 66 (3 * r + 1) = -1) ∧ (V 66 (3 * r + 1) = -1 → V 66 (3 * r + 2) = -1)
  by_cases z : r = N 59
  · subst z
    refine ⟨h1, h2, h3, ⟨N 6, Nat.le_refl _, h4⟩, fun q hq => ?_, h5, h6, h7⟩
    by_cases z : q = N 59
    · subst z; exact Int32.le_refl _
    · rw [hV.1 65 (by decide) q z, h4]
      obtain ⟨-, -, -, ⟨t, ht, e⟩, -⟩ := p3 q (by omega)
      rw [e]
      exact nI_le ht (by omega)
  · have hr2 : r < N 59 := by omega
    rw [hV.1 61 (by decide) r z, hV.1 63 (by decide) r z, hV.1 64 (by decide) r z, hV.1 65 (by decide) r z, (hV.2 (3 * r) (by omega)).1, (hV.2 (3 * r + 1) (by omega)).1, (hV.2 (3 * r + 2) (by omega)).1]
    obtain ⟨q1, q2, q3, q4, q5, q6, q7, q8⟩ := p3 r hr2
    refine ⟨q1, q2, q3, q4, fun q hq => ?_, fun j hj => ?_, q7, q8⟩
    · rw [hV.1 65 (by decide) q (by omega)]; exact q5 q hq
    · rw [(hV.2 (3 * r + j) (by omega)).1]; exact q6 j hj
end C67
