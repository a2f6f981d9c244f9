/-! CALLS: one more edition. Written by wip/b/mk99zzc.py. -/
section C7
variable {ka : Nat → Nat} {TX : Nat → Nat → (Nat → Int32) → Nat → (Nat → Int32) → Prop} {x y o N0 : Nat}
theorem ob_c7 {A : AS} {G : GH} {N : Nat → Nat} {r i : Nat} {m : CE} (S : Nat → Int32) (a1 a2 b e1 : Nat)  (E D F : Nat → Nat → Int32) (hd : ¬ r ∈ ([0, 7, 10, 46, 47, 48, 57] : List Nat)) (h : ob_ ka TX A G N r i m) : ob_ ka TX (S, aV A, aP A, aB A, aL A, aR A, aM A, E, D, F) (gy_ (gn_ (gn_ (gn_ G 47 a1) 48 a2) 46 b) 57 e1) (fun q => if q = 71 then N 71 + 1 else N q) r i m := by
  match r, hd, h with
  | 0, hd, h => exact absurd (by decide) hd
  | 1, hd, h => exact h
  | 2, hd, h => exact h
  | 3, hd, h => exact h
  | 4, hd, h => exact h
  | 5, hd, h => exact h
  | 6, hd, h => exact h
  | 7, hd, h => exact absurd (by decide) hd
  | 8, hd, h => exact h
  | 9, hd, h => exact h
  | 10, hd, h => exact absurd (by decide) hd
  | 11, hd, h => exact h
  | 12, hd, h => exact h
  | 13, hd, h => exact h
  | 14, hd, h => exact h
  | 15, hd, h => exact h
  | 16, hd, h => exact h
  | 17, hd, h => exact h
  | 18, hd, h => exact h
  | 19, hd, h => exact h
  | 20, hd, h => exact h
  | 21, hd, h => exact h
  | 22, hd, h => exact h
  | 23, hd, h => exact h
  | 24, hd, h => exact h
  | 25, hd, h => exact h
  | 26, hd, h => exact h
  | 27, hd, h => exact h
  | 28, hd, h => exact h
  | 29, hd, h => exact h
  | 30, hd, h => exact h
  | 31, hd, h => exact h
  | 32, hd, h => exact h
  | 33, hd, h => exact h
  | 34, hd, h => exact h
  | 35, hd, h => exact h
  | 36, hd, h => exact h
  | 37, hd, h => exact h
  | 38, hd, h => exact h
  | 39, hd, h => exact h
  | 40, hd, h => exact h
  | 41, hd, h => exact h
  | 42, hd, h => exact h
  | 43, hd, h => exact h
  | 44, hd, h => exact h
  | 45, hd, h => exact h
  | 46, hd, h => exact absurd (by decide) hd
  | 47, hd, h => exact absurd (by decide) hd
  | 48, hd, h => exact absurd (by decide) hd
  | 49, hd, h => exact h
  | 50, hd, h => exact h
  | 51, hd, h => exact h
  | 52, hd, h => exact h
  | 53, hd, h => exact h
  | 54, hd, h => exact h
  | 55, hd, h => exact h
  | 56, hd, h => exact h
  | 57, hd, h => exact absurd (by decide) hd
  | 58, hd, h => exact h
  | r + 59, hd, h => exact h
theorem cg_c7 {G : GH} {N : Nat → Nat} {a1 a2 b e1 : Nat} (h : cg_ G N) : cg_ (gy_ (gn_ (gn_ (gn_ G 47 a1) 48 a2) 46 b) 57 e1) (fun q => if q = 71 then N 71 + 1 else N q) := by
  obtain ⟨h0, h30, h31, h32, h33, h34, h35, h36, h37, h38, h39, h40, h41, h42, h43, h44, h45, h46, h47, h48⟩ := h
  refine ⟨fun r hr => ?_, h30, h31, h32, h33, h34, h35, h36, h37, h38, h39, h40, h41, h42, h43, h44, h45, ?_, ?_, ?_⟩
  · have h9 : ∀ r, r ∈ ([0, 1, 2, 3, 4, 5, 6, 7, 8, 9, 10, 11, 12, 13, 14, 15, 16, 17, 18, 19, 20, 21, 22] : List Nat) → r ≠ 47 ∧ r ≠ 48 ∧ r ≠ 46 ∧ r ≠ 57 := by decide
    have := h9 r hr
    show gc_ (gy_ (gn_ (gn_ (gn_ G 47 a1) 48 a2) 46 b) 57 e1) r = 1
    refine Eq.trans ?_ (h0 r hr)
    simp [gy_, gn_, gc_, this]
  · show gc_ (gy_ (gn_ (gn_ (gn_ G 47 a1) 48 a2) 46 b) 57 e1) 46 = (fun q => if q = 71 then N 71 + 1 else N q) 71
    simp [gy_, gn_, gc_] at *
    omega
  · show gc_ (gy_ (gn_ (gn_ (gn_ G 47 a1) 48 a2) 46 b) 57 e1) 47 = (fun q => if q = 71 then N 71 + 1 else N q) 71
    simp [gy_, gn_, gc_] at *
    omega
  · show gc_ (gy_ (gn_ (gn_ (gn_ G 47 a1) 48 a2) 46 b) 57 e1) 48 = (fun q => if q = 71 then N 71 + 1 else N q) 71
    simp [gy_, gn_, gc_] at *
    omega
theorem rc_c7 {σ s τ : TH} {G : GH} {A : AS} {N : Nat → Nat} {a1 a2 b e1 : Nat}  {E D F : Nat → Nat → Int32} (h : rc_ ka TX σ x G A N) (hp : pv_ A N) (hcap : N 71 < 80) (hE : ∀ i, i < N 71 → (∀ c, E c i = aE A c i) ∧ D i = aD A i ∧ F i = aF A i) (hf : fq_ (fun _ => False) σ s) (hb47 : fh_ G a1 ∧ kd_ s a1 = 20 ∧ ln_ s a1 = 10) (hb48 : fh_ G a2 ∧ kd_ s a2 = 20 ∧ ln_ s a2 = 10) (hb46 : fh_ G b ∧ kd_ s b = 3) (hdist : a1 ≠ a2 ∧ a1 ≠ b ∧ a2 ≠ b) (hs : fi_ s 200 b = E 1300 (N 71) ∧ fi_ s 201 b = E 1301 (N 71) ∧ fi_ s 202 b = E 1302 (N 71) ∧ fi_ s 203 b = E 1303 (N 71) ∧ fi_ s 204 b = E 1304 (N 71) ∧ fi_ s 205 b = E 1305 (N 71) ∧ fi_ s 206 b = E 1306 (N 71) ∧ fi_ s 207 b = E 1308 (N 71) ∧ fr_ s 208 b = some a1 ∧ fr_ s 209 b = some a2 ∧ (∀ k, k < 10 → E 1306 (N 71) &&& ((1 : Int32) <<< nI k) ≠ 0 → ai_ s a1 k = D (N 71) k) ∧ ∀ k, k < 10 → E 1306 (N 71) &&& ((1 : Int32) <<< nI k) ≠ 0 → ai_ s a2 k = if E 1307 (N 71) &&& ((1 : Int32) <<< nI k) ≠ 0 then F (N 71) k else D (N 71) k) (hk : fq_ (fun q => q = ga_ G 7 0 ∨ q = (if gc_ G 57 = 0 then ka 200 else ga_ G 57 0)) s τ) (he : kd_ τ e1 = 24) (hee : (0 < gc_ G 57 ∧ e1 = ga_ G 57 0) ∨ nx_ s ≤ e1) (hl : ls_ ka τ (ga_ G 7 0) e1 (N 71 + 1) (fun i => if i = N 71 then b else ga_ G 46 i)) : rc_ ka TX (si_ τ 1214 x 0) x (gy_ (gn_ (gn_ (gn_ G 47 a1) 48 a2) 46 b) 57 e1) (s3_ (aS A) 0, aV A, aP A, aB A, aL A, aR A, aM A, E, D, F) (fun q => if q = 71 then N 71 + 1 else N q) ∧ fq_ (fun q => q = x ∨ q = ga_ G 7 0 ∨ q = (if gc_ G 57 = 0 then ka 200 else ga_ G 57 0)) σ (si_ τ 1214 x 0) := by
  have hlt47 : a1 < nx_ s := kd_ltn hf.2.1 hb47.2.1 (by decide)
  have hcnt47 : gc_ G 47 = N 71 := by
    have := h.2.2.1
    unfold cg_ at this
    simp only [this]
  have hlt48 : a2 < nx_ s := kd_ltn hf.2.1 hb48.2.1 (by decide)
  have hcnt48 : gc_ G 48 = N 71 := by
    have := h.2.2.1
    unfold cg_ at this
    simp only [this]
  have hlt46 : b < nx_ s := kd_ltn hf.2.1 hb46.2 (by decide)
  have hcnt46 : gc_ G 46 = N 71 := by
    have := h.2.2.1
    unfold cg_ at this
    simp only [this]
  have hfs : fq_ (fun q => q = x ∨ q = ga_ G 7 0 ∨ q = (if gc_ G 57 = 0 then ka 200 else ga_ G 57 0)) σ (si_ τ 1214 x 0) := fq_tr (fq_tr (fq_w hf (fun _ z => z.elim)) (fq_w hk (fun _ z => Or.inr z))) (fq_si hk.2.1 (Or.inl rfl))
  have hx0 : ∀ r i, i < gc_ G r → r ≠ 0 → ga_ G r i ≠ x := fun r i hi hr => rc_nx h hi hr
  have hxl : x < nx_ σ := kd_ltn h.1.1 (rc_x h) (by decide)
  have hll : ga_ G 7 0 < nx_ σ := sh_lt h.1 (rc_1 h (by decide))
  have hEl : (if gc_ G 57 = 0 then ka 200 else ga_ G 57 0) < nx_ σ := by
    by_cases z : gc_ G 57 = 0
    · rw [if_pos z]; exact h.2.1.2.2
    · rw [if_neg z]; exact sh_lt h.1 (Nat.pos_of_ne_zero z)
  have hTE : ∀ r i, i < gc_ G r → r ≠ 57 → ga_ G r i ≠ (if gc_ G 57 = 0 then ka 200 else ga_ G 57 0) := fun r i hi hr => by
    by_cases z : gc_ G 57 = 0
    · rw [if_pos z]; exact rc_ka h hi
    · rw [if_neg z]; exact sh_ne h.1 hi (Nat.pos_of_ne_zero z) (Or.inl hr)
  have hnT : ∀ q, fh_ G q → kd_ s q ≠ 0 → ¬ (q = ga_ G 7 0 ∨ q = (if gc_ G 57 = 0 then ka 200 else ga_ G 57 0)) := fun q hq hq0 z => by
    rcases z with z | z
    · exact hq 7 0 (rc_1 h (by decide)) z.symm
    · by_cases w : gc_ G 57 = 0
      · rw [if_pos w] at z
        rw [z] at hq0
        exact hq0 (fq_k0 hf h.1.1 h.2.1.2.2 h.2.1.2.1)
      · rw [if_neg w] at z
        exact hq 57 0 (Nat.pos_of_ne_zero w) z.symm
  have hold : ∀ r i, i < gc_ G r → ¬ r ∈ ([0, 7, 57] : List Nat) → ce_ (si_ τ 1214 x 0) (ga_ G r i) = ce_ σ (ga_ G r i) := fun r i hi hr => rc_ce h hfs hi (fun z => by
    rcases z with z | z | z
    · exact hx0 r i hi (fun q => hr (by rw [q]; decide)) z
    · exact sh_ne h.1 hi (rc_1 h (by decide)) (Or.inl (fun q => hr (by rw [q]; decide))) z
    · exact hTE r i hi (fun q => hr (by rw [q]; decide)) z)
  have hnew : ∀ q, fh_ G q → kd_ s q ≠ 0 → q < nx_ s → ce_ (si_ τ 1214 x 0) q = ce_ s q := fun q h1 h0 h2 => by
    rw [ce_si (fun z => h1 0 0 (rc_1 h (by decide)) (h.2.1.1.trans z.symm)), hk.2.2 q h2 (hnT q h1 h0)]
  have hsh : sh_ KC LC (si_ τ 1214 x 0) (gy_ (gn_ (gn_ (gn_ G 47 a1) 48 a2) 46 b) 57 e1) := by
    have h1 : sh_ KC LC (si_ τ 1214 x 0) G := sh_fq h.1 hfs
    have h2 := sh_gn2 (r := 47) (b := a1) h1 hb47.1 (fq_kd hk hb47.2.1 (by decide)) (by decide) (fun _ => Eq.trans (hk.1.2.2.2.2 a1 (by rw [hb47.2.1]; decide)).2 hb47.2.2)
    have h3 := sh_gn2 (r := 48) (b := a2) h2 (fh_gn hb48.1 (by omega)) (fq_kd hk hb48.2.1 (by decide)) (by decide) (fun _ => Eq.trans (hk.1.2.2.2.2 a2 (by rw [hb48.2.1]; decide)).2 hb48.2.2)
    have h4 := sh_gn2 (r := 46) (b := b) h3 (fh_gn (fh_gn hb46.1 (by omega)) (by omega)) (fq_kd hk hb46.2 (by decide)) (by decide) (fun z => absurd rfl z)
    refine sh_gy h4 ?_ he (by decide) rfl
    rcases hee with ⟨q1, q2⟩ | q
    · exact Or.inr ⟨q1, q2⟩
    · exact Or.inl (fh_gn (fh_gn (fh_gn (fh_of h.1 (Nat.le_trans hf.1.1 q)) (by omega)) (by omega)) (by omega))
  refine ⟨rc_gen2 h hfs hsh (cg_c7 h.2.2.1) [0, 7, 10, 46, 47, 48, 57] (fun r hr => ?_) h.2.1.1 (fun q hq => ?_) (fun r i m hr h9 => ob_c7 _ _ _ _ _ _ _ _ hr h9) (fun r i hr hi => ?_), hfs⟩
  · have q : r ≠ 47 ∧ r ≠ 48 ∧ r ≠ 46 ∧ r ≠ 57 := ⟨fun z => hr (by rw [z]; decide), fun z => hr (by rw [z]; decide), fun z => hr (by rw [z]; decide), fun z => hr (by rw [z]; decide)⟩
    exact ⟨by simp [gy_, gn_, gc_, q], fun i => by simp [gy_, gn_, ga_, q]⟩
  · rcases hq with hq | hq | hq
    · exact Or.inl ⟨0, 0, by decide, rc_1 h (by decide), hq.trans h.2.1.1.symm⟩
    · exact Or.inl ⟨7, 0, by decide, rc_1 h (by decide), hq⟩
    · by_cases z : gc_ G 57 = 0
      · rw [if_pos z] at hq; exact Or.inr hq
      · rw [if_neg z] at hq
        exact Or.inl ⟨57, 0, by decide, Nat.pos_of_ne_zero z, hq⟩
  · have hao := ao_7 (ka := ka) (TX := TX) (A := (s3_ (aS A) 0, aV A, aP A, aB A, aL A, aR A, aM A, E, D, F)) (G1 := gy_ (gn_ (gn_ (gn_ G 47 a1) 48 a2) 46 b) 57 e1) (N1 := fun q => if q = 71 then N 71 + 1 else N q) (τ := τ) (a := ga_ G 7 0) (e1 := e1) hl he ⟨rfl, rfl⟩ (fun j hj => by
      have hj : j < N 71 + 1 := hj
      by_cases z : j = N 71
      · subst z; simp [gy_, gn_, ga_, gc_] ; simp [← hcnt46, gc_]
      · have z2 : ¬ j = G.1 46 := by rw [show G.1 46 = N 71 from hcnt46]; exact z
        simp [gy_, gn_, ga_, gc_, z, z2])
    simp only [List.mem_cons, List.not_mem_nil, or_false] at hr
    rcases hr with rfl | rfl | rfl | rfl | rfl | rfl | rfl
    · have : i = 0 := by
        have : i < gc_ G 0 := hi
        exact g0_ h (by decide) this
      subst this
      show ob_ ka TX _ _ _ 0 0 (ce_ (si_ τ 1214 x 0) (ga_ G 0 0))
      rw [h.2.1.1]
      have hxT : ¬ (x = ga_ G 7 0 ∨ x = (if gc_ G 57 = 0 then ka 200 else ga_ G 57 0)) := fun z => by
        rcases z with z | z
        · exact hx0 7 0 (rc_1 h (by decide)) (by decide) z.symm
        · exact hTE 0 0 (rc_1 h (by decide)) (by decide) (h.2.1.1.trans z)
      refine ob_0b h 0 _ (fun c => ?_) (fun c c1 => ?_) ?_ (fun r hr => ?_)
      · rw [fr_si, fq_fr hk (Nat.lt_of_lt_of_le hxl hf.1.1) hxT c, fq_fr hf hxl (fun z => z) c]
      · rw [fi_si, up2_c c1, fq_fi hk (Nat.lt_of_lt_of_le hxl hf.1.1) hxT c, fq_fi hf hxl (fun z => z) c]
      · rw [fi_si, up2_s]
      · have q : ∀ r, r ∈ ([1, 2, 3, 4, 5, 6, 7, 8, 9, 10, 14, 17] : List Nat) → r ≠ 47 ∧ r ≠ 48 ∧ r ≠ 46 ∧ r ≠ 57 := by decide
        have q1 := q r hr
        simp [gy_, gn_, ga_, q1]
    · have : i = 0 := by
        have : i < gc_ G 7 := hi
        exact g0_ h (by decide) this
      subst this
      show ob_ ka TX _ _ _ 7 0 (ce_ (si_ τ 1214 x 0) (ga_ G 7 0))
      rw [ce_si (hx0 7 0 (rc_1 h (by decide)) (by decide))]
      exact hao.1
    · have : i = 0 := by
        have : i < gc_ G 10 := hi
        exact g0_ h (by decide) this
      subst this
      show ob_ ka TX _ _ _ 10 0 (ce_ (si_ τ 1214 x 0) (ga_ G 10 0))
      rw [hold 10 0 (rc_1 h (by decide)) (by decide)]
      exact ob_10 h 0 (by decide) _
    · have hi' : i < gc_ G 46 + 1 := hi
      by_cases z : i = gc_ G 46
      · have eb : ga_ (gy_ (gn_ (gn_ (gn_ G 47 a1) 48 a2) 46 b) 57 e1) 46 i = b := by rw [z]; simp [gy_, gn_, ga_, gc_]
        rw [eb, hnew b hb46.1 (by rw [hb46.2]; decide) hlt46]
        rw [hcnt46] at z
        subst z
        refine ⟨hs.1, hs.2.1, hs.2.2.1, hs.2.2.2.1, hs.2.2.2.2.1, hs.2.2.2.2.2.1, hs.2.2.2.2.2.2.1, hs.2.2.2.2.2.2.2.1, ?_, ?_⟩
        · show fr_ s 208 b = some (ga_ (gy_ (gn_ (gn_ (gn_ G 47 a1) 48 a2) 46 b) 57 e1) 47 (N 71))
          rw [show ga_ (gy_ (gn_ (gn_ (gn_ G 47 a1) 48 a2) 46 b) 57 e1) 47 (N 71) = a1 from by rw [← hcnt47]; simp [gy_, gn_, ga_, gc_]]
          exact hs.2.2.2.2.2.2.2.2.1
        · show fr_ s 209 b = some (ga_ (gy_ (gn_ (gn_ (gn_ G 47 a1) 48 a2) 46 b) 57 e1) 48 (N 71))
          rw [show ga_ (gy_ (gn_ (gn_ (gn_ G 47 a1) 48 a2) 46 b) 57 e1) 48 (N 71) = a2 from by rw [← hcnt48]; simp [gy_, gn_, ga_, gc_]]
          exact hs.2.2.2.2.2.2.2.2.2.1
      · have eb : ga_ (gy_ (gn_ (gn_ (gn_ G 47 a1) 48 a2) 46 b) 57 e1) 46 i = ga_ G 46 i := by
          have z2 : ¬ i = G.1 46 := z
          simp [gy_, gn_, ga_, gc_, z2]
        have hio : i < gc_ G 46 := by omega
        have z3 : i ≠ N 71 := by rw [← hcnt46]; exact z
        rw [eb, hold 46 i hio (by decide)]
        have q := h.2.2.2 46 i hio
        have hE1 := (hE i (by omega)).1
        obtain ⟨q0, q1, q2, q3, q4, q5, q6, q7, q8, q9⟩ := q
        refine ⟨q0.trans (hE1 1300).symm, q1.trans (hE1 1301).symm, q2.trans (hE1 1302).symm, q3.trans (hE1 1303).symm, q4.trans (hE1 1304).symm, q5.trans (hE1 1305).symm, q6.trans (hE1 1306).symm, q7.trans (hE1 1308).symm, q8.trans ?_, q9.trans ?_⟩
        · rw [show ga_ (gy_ (gn_ (gn_ (gn_ G 47 a1) 48 a2) 46 b) 57 e1) 47 i = ga_ G 47 i from by
            have z2 : ¬ i = G.1 47 := fun w => z3 (w.trans hcnt47)
            simp [gy_, gn_, ga_, gc_, z2]]
        · rw [show ga_ (gy_ (gn_ (gn_ (gn_ G 47 a1) 48 a2) 46 b) 57 e1) 48 i = ga_ G 48 i from by
            have z2 : ¬ i = G.1 48 := fun w => z3 (w.trans hcnt48)
            simp [gy_, gn_, ga_, gc_, z2]]
    · have hi' : i < gc_ G 47 + 1 := hi
      by_cases z : i = gc_ G 47
      · have eb : ga_ (gy_ (gn_ (gn_ (gn_ G 47 a1) 48 a2) 46 b) 57 e1) 47 i = a1 := by rw [z]; simp [gy_, gn_, ga_, gc_]
        rw [eb, hnew a1 hb47.1 (by rw [hb47.2.1]; decide) hlt47]
        rw [hcnt47] at z
        subst z
        exact hs.2.2.2.2.2.2.2.2.2.2.1
      · have eb : ga_ (gy_ (gn_ (gn_ (gn_ G 47 a1) 48 a2) 46 b) 57 e1) 47 i = ga_ G 47 i := by
          have z2 : ¬ i = G.1 47 := z
          simp [gy_, gn_, ga_, gc_, z2]
        have hio : i < gc_ G 47 := by omega
        have z3 : i ≠ N 71 := by rw [← hcnt47]; exact z
        rw [eb, hold 47 i hio (by decide)]
        have q := h.2.2.2 47 i hio
        intro k hk0 hb
        have hE1 := hE i (by omega)
        have hb : E 1306 i &&& ((1 : Int32) <<< nI k) ≠ 0 := hb
        rw [hE1.1 1306] at hb
        exact (q k hk0 hb).trans (congrFun hE1.2.1 k).symm
    · have hi' : i < gc_ G 48 + 1 := hi
      by_cases z : i = gc_ G 48
      · have eb : ga_ (gy_ (gn_ (gn_ (gn_ G 47 a1) 48 a2) 46 b) 57 e1) 48 i = a2 := by rw [z]; simp [gy_, gn_, ga_, gc_]
        rw [eb, hnew a2 hb48.1 (by rw [hb48.2.1]; decide) hlt48]
        rw [hcnt48] at z
        subst z
        exact hs.2.2.2.2.2.2.2.2.2.2.2
      · have eb : ga_ (gy_ (gn_ (gn_ (gn_ G 47 a1) 48 a2) 46 b) 57 e1) 48 i = ga_ G 48 i := by
          have z2 : ¬ i = G.1 48 := z
          simp [gy_, gn_, ga_, gc_, z2]
        have hio : i < gc_ G 48 := by omega
        have z3 : i ≠ N 71 := by rw [← hcnt48]; exact z
        rw [eb, hold 48 i hio (by decide)]
        have q := h.2.2.2 48 i hio
        intro k hk0 hb
        have hE1 := hE i (by omega)
        have hb : E 1306 i &&& ((1 : Int32) <<< nI k) ≠ 0 := hb
        rw [hE1.1 1306] at hb
        refine (q k hk0 hb).trans ?_
        show (if aE A 1307 i &&& ((1 : Int32) <<< nI k) ≠ 0 then aF A i k else aD A i k) = if E 1307 i &&& ((1 : Int32) <<< nI k) ≠ 0 then F i k else D i k
        rw [hE1.1 1307, hE1.2.1, hE1.2.2]
    · have : i = 0 := by
        have : i < 1 := hi
        omega
      subst this
      show ob_ ka TX _ _ _ 57 0 (ce_ (si_ τ 1214 x 0) e1)
      rw [ce_si (fun z => by
        rcases hee with ⟨q1, q2⟩ | q
        · exact hx0 57 0 q1 (by decide) (q2.symm.trans z)
        · have := hf.1.1
          omega)]
      exact hao.2
theorem pv_c7 {A : AS} {N : Nat → Nat} {S : Nat → Int32} {E D F : Nat → Nat → Int32} {p : Nat} (h : pv_ A N) (hE : ∀ i, i < N 71 → (∀ c, E c i = aE A c i) ∧ D i = aD A i ∧ F i = aF A i) (hp : p < N 5) (e0 : E 1300 (N 71) = nI p) (e6 : ∀ k, k < 10 → E 1306 (N 71) &&& ((1 : Int32) <<< nI k) ≠ 0 → lt9_ A N p k ≠ none) : pv_ (S, aV A, aP A, aB A, aL A, aR A, aM A, E, D, F) (fun q => if q = 71 then N 71 + 1 else N q) := by
  obtain ⟨h1, h2, h3, h4, h5, h6, h7, d1, d2, d3, d4, d5, d6⟩ := h
  refine ⟨h1, h2, h3, h4, fun e he => ?_, h6, h7, d1, d2, d3, d4, d5, d6⟩
  have he : e < N 71 + 1 := he
  by_cases z : e = N 71
  · subst z
    exact ⟨p, ⟨hp, e0⟩, e6⟩
  · obtain ⟨p2, ⟨q1, q2⟩, q3⟩ := h5 e (by omega)
    have hE1 := (hE e (by omega)).1
    refine ⟨p2, ⟨q1, (hE1 1300).trans q2⟩, fun k hk hb => q3 k hk ?_⟩
    have hb : E 1306 e &&& ((1 : Int32) <<< nI k) ≠ 0 := hb
    rw [hE1 1306] at hb
    exact hb
theorem pv_77 {A : AS} {N : Nat → Nat} {j : Nat} (v : Int32) (hj : j < N 69) (h : pv_ A N) : pv_ (A.1, up2_ (aV A) 77 j v, A.2.2) N := by
  obtain ⟨h1, h2, h3, h4, h5, h6, h7, d1, d2, d3, d4, d5, d6⟩ := h
  refine ⟨h1, h2, h3, h4, h5, h6, h7, d1, d2, d3, fun i hi hi2 => ?_, d5, d6⟩
  show up2_ (aV A) 77 j v 77 i = 0
  rw [up2_n (by omega)]
  exact d4 i hi hi2
end C7
theorem mk_editionC {c : TH} (hw : wf_ c) (n0 v8 : Int32) : ∃ s, f_X1_init (nw_ c 3 0 10) (nx_ c) n0 v8 = some ((), s) ∧ np_ c s 3 (fun q => if q = 201 then v8 else if q = 200 then n0 else if q = 207 then 0 else if q = 206 then 0 else if q = 205 then 0 else if q = 204 then -2 else if q = 203 then 0 else if q = 202 then 0 else 0) (fun q => if q = 209 then some (nx_ c + 2) else if q = 208 then some (nx_ c + 1) else none) 3 30 (fun j => if j = 2 then some (20, 10) else if j = 1 then some (20, 10) else none) := by
  have h := np_0 hw 3 10 (by decide)
  unfold f_X1_init
  generalize nw_ c 3 0 10 = s at h ⊢
  rw [gt_t (np_kd h)]
  rw [lt_e]
  replace h := np_si h 202 0
  generalize si_ s 202 (nx_ c) 0 = s at h ⊢
  rw [lt_e]
  replace h := np_si h 203 0
  generalize si_ s 203 (nx_ c) 0 = s at h ⊢
  rw [lt_e]
  replace h := np_si h 204 (-2)
  generalize si_ s 204 (nx_ c) (-2) = s at h ⊢
  rw [lt_e]
  replace h := np_si h 205 0
  generalize si_ s 205 (nx_ c) 0 = s at h ⊢
  rw [lt_e]
  replace h := np_si h 206 0
  generalize si_ s 206 (nx_ c) 0 = s at h ⊢
  rw [lt_e]
  replace h := np_si h 207 0
  generalize si_ s 207 (nx_ c) 0 = s at h ⊢
  rw [gt_t ⟨by decide, by decide, np_z h⟩, lt_e, lt_e]
  (try rw [show (10 : Int32).toNatClampNeg = 10 from by decide])
  have e1 := np_nx h
  rw [e1]
  replace h := np_nw h 20 10 (by decide)
  generalize nw_ s 20 10 10 = s at h ⊢
  clear e1
  rw [lt_e]
  replace h := np_sr h 208 (some (nx_ c + 1))
  generalize sr_ s 208 (nx_ c) (some (nx_ c + 1)) = s at h ⊢
  rw [gt_t ⟨by decide, by decide, np_z h⟩, lt_e, lt_e]
  (try rw [show (10 : Int32).toNatClampNeg = 10 from by decide])
  have e2 := np_nx h
  rw [e2]
  replace h := np_nw h 20 10 (by decide)
  generalize nw_ s 20 10 10 = s at h ⊢
  clear e2
  rw [lt_e]
  replace h := np_sr h 209 (some (nx_ c + 2))
  generalize sr_ s 209 (nx_ c) (some (nx_ c + 2)) = s at h ⊢
  rw [lt_e]
  replace h := np_si h 200 n0
  generalize si_ s 200 (nx_ c) n0 = s at h ⊢
  rw [lt_e]
  replace h := np_si h 201 v8
  generalize si_ s 201 (nx_ c) v8 = s at h ⊢
  exact ⟨s, rfl, h⟩
theorem mk_editionM {c : TH} (hw : wf_ c) : ∃ s, f_X12_init (nw_ c 14 0 11) (nx_ c) = some ((), s) ∧ np_ c s 14 (fun _ => 0) (fun q => if q = 1310 then some (nx_ c + 2) else if q = 1309 then some (nx_ c + 1) else none) 3 31 (fun j => if j = 2 then some (20, 10) else if j = 1 then some (20, 10) else none) := by
  have h := np_0 hw 14 11 (by decide)
  unfold f_X12_init
  generalize nw_ c 14 0 11 = s at h ⊢
  rw [gt_t ⟨by decide, by decide, np_z h⟩, lt_e, lt_e]
  (try rw [show (10 : Int32).toNatClampNeg = 10 from by decide])
  have e1 := np_nx h
  rw [e1]
  replace h := np_nw h 20 10 (by decide)
  generalize nw_ s 20 10 10 = s at h ⊢
  clear e1
  rw [gt_t (np_kd h)]
  rw [lt_e]
  replace h := np_sr h 1309 (some (nx_ c + 1))
  generalize sr_ s 1309 (nx_ c) (some (nx_ c + 1)) = s at h ⊢
  rw [gt_t ⟨by decide, by decide, np_z h⟩, lt_e, lt_e]
  (try rw [show (10 : Int32).toNatClampNeg = 10 from by decide])
  have e2 := np_nx h
  rw [e2]
  replace h := np_nw h 20 10 (by decide)
  generalize nw_ s 20 10 10 = s at h ⊢
  clear e2
  rw [lt_e]
  replace h := np_sr h 1310 (some (nx_ c + 2))
  generalize sr_ s 1310 (nx_ c) (some (nx_ c + 2)) = s at h ⊢
  exact ⟨s, rfl, h⟩
