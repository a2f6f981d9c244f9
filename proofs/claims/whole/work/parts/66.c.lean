/-! CALLS: person. Written by wip/b/mk66.py. -/
theorem kd_nwe {σ : TH} {k n w q : Nat} : kd_ (nw_ σ k n w) q = if q = nx_ σ then k else kd_ σ q := rfl
theorem ln_nwe {σ : TH} {k n w q : Nat} : ln_ (nw_ σ k n w) q = if q = nx_ σ then n else ln_ σ q := rfl
theorem fi_nwe {σ : TH} {k n w c q : Nat} : fi_ (nw_ σ k n w) c q = if q = nx_ σ then 0 else fi_ σ c q := rfl
theorem fr_nwe {σ : TH} {k n w c q : Nat} : fr_ (nw_ σ k n w) c q = if q = nx_ σ then none else fr_ σ c q := rfl
theorem ai_nwe {σ : TH} {k n w q i : Nat} : ai_ (nw_ σ k n w) q i = if q = nx_ σ then 0 else ai_ σ q i := rfl
theorem ar_nwe {σ : TH} {k n w q i : Nat} : ar_ (nw_ σ k n w) q i = if q = nx_ σ then none else ar_ σ q i := rfl
theorem nx_nwe {σ : TH} {k n w : Nat} : nx_ (nw_ σ k n w) = nx_ σ + 1 := rfl
theorem sl_nwe {σ : TH} {k n w : Nat} : sl_ (nw_ σ k n w) = sl_ σ + w := rfl
theorem pv_np {A : AS} {N : Nat → Nat} (h : pvP A N) (hN : N 5 < 2 ^ 31) (k : Nat) (hk : k < N 47) : ¬ aP A 1400 k = nI (N 5) := fun e => by
  obtain ⟨⟨p, hp, e1⟩, -⟩ := h k hk
  rw [e1] at e
  have := (nI_eq (by omega) hN).mp e
  omega
theorem st_new {A : AS} {N : Nat → Nat} (h : pvP A N) (hN : N 5 < 2 ^ 31) : st_ A N (N 5) = 0 := by
  unfold st_
  rw [cn_cong (q2 := fun _ => false) _ (fun k hk => by simpa using pv_np h hN k hk)]
  have : ∀ n, cn_ (fun _ => false) n = 0 := by
    intro n
    induction n with
    | zero => rfl
    | succ n ih => simp [cn_, ih]
  exact this _
theorem lt_new {A : AS} {N : Nat → Nat} (h : pvT A N) (hN : N 5 < 2 ^ 31) (k : Nat) : lt9_ A N (N 5) k = none := by
  unfold lt9_
  cases e : la_ (tq_ A (nI (N 5)) (nI k)) (N 17) with
  | none => rfl
  | some t =>
    obtain ⟨h1, h2, -⟩ := la_some e
    obtain ⟨⟨p, hp, e1⟩, -⟩ := h t h1
    have h4 : aV A 20 t = nI (N 5) ∧ aV A 21 t = nI k := by simpa [tq_] using h2
    rw [e1] at h4
    have := (nI_eq (by omega) hN).mp h4.1
    omega
section C66
variable {ka : Nat → Nat} {TX : Nat → Nat → (Nat → Int32) → Nat → (Nat → Int32) → Prop} {x y o N0 : Nat}
theorem ob_c2 {A : AS} {G : GH} {N : Nat → Nat} {r i : Nat} {m : CE} (S : Nat → Int32) (a1 a2 a3 a4 b e1 : Nat) (v8 v9 v10 v11 : Int32) (hd : ¬ r ∈ ([0, 2, 10, 31, 32, 33, 34, 35, 52, 58] : List Nat)) (h : ob_ ka TX A G N r i m) : ob_ ka TX (S, up2_ (up2_ (up2_ (up2_ (up2_ (aV A) 8 (N 5) v8) 9 (N 5) v9) 10 (N 5) v10) 11 (N 5) v11) 12 (N 5) (-2), A.2.2) (gy_ (gn_ (gn_ (gn_ (gn_ (gn_ G 32 a1) 33 a2) 34 a3) 35 a4) 31 b) 52 e1) (fun q => if q = 5 then N 5 + 1 else N q) r i m := by
  match r, hd, h with
  | 0, hd, h => exact absurd (by decide) hd
  | 1, hd, h => exact h
  | 2, hd, h => exact absurd (by decide) hd
  | 3, hd, h => exact h
  | 4, hd, h => exact h
  | 5, hd, h => exact h
  | 6, hd, h => exact h
  | 7, hd, h => exact h
  | 8, hd, h => exact h
  | 9, hd, h => exact h
  | 10, hd, h => exact absurd (by decide) hd
  | 11, hd, h => exact h
  | 12, hd, h => exact h
  | 13, hd, h => exact h
  | 14, hd, h => exact h
  | 15, hd, h => exact h
  | 16, hd, h => exact h
  | 17, hd, h => exact h
  | 18, hd, h => exact h
  | 19, hd, h => exact h
  | 20, hd, h => exact h
  | 21, hd, h => exact h
  | 22, hd, h => exact h
  | 23, hd, h => exact h
  | 24, hd, h => exact h
  | 25, hd, h => exact h
  | 26, hd, h => exact h
  | 27, hd, h => exact h
  | 28, hd, h => exact h
  | 29, hd, h => exact h
  | 30, hd, h => exact h
  | 31, hd, h => exact absurd (by decide) hd
  | 32, hd, h => exact absurd (by decide) hd
  | 33, hd, h => exact absurd (by decide) hd
  | 34, hd, h => exact absurd (by decide) hd
  | 35, hd, h => exact absurd (by decide) hd
  | 36, hd, h => exact h
  | 37, hd, h => exact h
  | 38, hd, h => exact h
  | 39, hd, h => exact h
  | 40, hd, h => exact h
  | 41, hd, h => exact h
  | 42, hd, h => exact h
  | 43, hd, h => exact h
  | 44, hd, h => exact h
  | 45, hd, h => exact h
  | 46, hd, h => exact h
  | 47, hd, h => exact h
  | 48, hd, h => exact h
  | 49, hd, h => exact h
  | 50, hd, h => exact h
  | 51, hd, h => exact h
  | 52, hd, h => exact absurd (by decide) hd
  | 53, hd, h => exact h
  | 54, hd, h => exact h
  | 55, hd, h => exact h
  | 56, hd, h => exact h
  | 57, hd, h => exact h
  | 58, hd, h => exact absurd (by decide) hd
  | r + 59, hd, h => exact h
theorem cg_c2 {G : GH} {N : Nat → Nat} {a1 a2 a3 a4 b e1 : Nat} (h : cg_ G N) : cg_ (gy_ (gn_ (gn_ (gn_ (gn_ (gn_ G 32 a1) 33 a2) 34 a3) 35 a4) 31 b) 52 e1) (fun q => if q = 5 then N 5 + 1 else N q) := by
  obtain ⟨h0, h30, h31, h32, h33, h34, h35, h36, h37, h38, h39, h40, h41, h42, h43, h44, h45, h46, h47, h48⟩ := h
  refine ⟨fun r hr => ?_, h30, ?_, ?_, ?_, ?_, ?_, h36, h37, h38, h39, h40, h41, h42, h43, h44, h45, h46, h47, h48⟩
  · have h9 : ∀ r, r ∈ ([0, 1, 2, 3, 4, 5, 6, 7, 8, 9, 10, 11, 12, 13, 14, 15, 16, 17, 18, 19, 20, 21, 22] : List Nat) → r ≠ 32 ∧ r ≠ 33 ∧ r ≠ 34 ∧ r ≠ 35 ∧ r ≠ 31 ∧ r ≠ 52 := by decide
    have := h9 r hr
    show gc_ (gy_ (gn_ (gn_ (gn_ (gn_ (gn_ G 32 a1) 33 a2) 34 a3) 35 a4) 31 b) 52 e1) r = 1
    refine Eq.trans ?_ (h0 r hr)
    simp [gy_, gn_, gc_, this]
  · show gc_ (gy_ (gn_ (gn_ (gn_ (gn_ (gn_ G 32 a1) 33 a2) 34 a3) 35 a4) 31 b) 52 e1) 31 = (fun q => if q = 5 then N 5 + 1 else N q) 5
    simp [gy_, gn_, gc_] at *
    omega
  · show gc_ (gy_ (gn_ (gn_ (gn_ (gn_ (gn_ G 32 a1) 33 a2) 34 a3) 35 a4) 31 b) 52 e1) 32 = (fun q => if q = 5 then N 5 + 1 else N q) 5
    simp [gy_, gn_, gc_] at *
    omega
  · show gc_ (gy_ (gn_ (gn_ (gn_ (gn_ (gn_ G 32 a1) 33 a2) 34 a3) 35 a4) 31 b) 52 e1) 33 = (fun q => if q = 5 then N 5 + 1 else N q) 5
    simp [gy_, gn_, gc_] at *
    omega
  · show gc_ (gy_ (gn_ (gn_ (gn_ (gn_ (gn_ G 32 a1) 33 a2) 34 a3) 35 a4) 31 b) 52 e1) 34 = (fun q => if q = 5 then N 5 + 1 else N q) 5
    simp [gy_, gn_, gc_] at *
    omega
  · show gc_ (gy_ (gn_ (gn_ (gn_ (gn_ (gn_ G 32 a1) 33 a2) 34 a3) 35 a4) 31 b) 52 e1) 35 = (fun q => if q = 5 then N 5 + 1 else N q) 5
    simp [gy_, gn_, gc_] at *
    omega
theorem rc_c2 {σ s τ : TH} {G : GH} {A : AS} {N : Nat → Nat} {a1 a2 a3 a4 b e1 : Nat} {v8 v9 v10 v11 : Int32} (h : rc_ ka TX σ x G A N) (hp : pv_ A N) (hcap : N 5 < 30)  (hf : fq_ (fun _ => False) σ s) (hb32 : nx_ σ ≤ a1 ∧ kd_ s a1 = 25 ∧ ln_ s a1 = 10) (hb33 : nx_ σ ≤ a2 ∧ kd_ s a2 = 26 ∧ ln_ s a2 = 14) (hb34 : nx_ σ ≤ a3 ∧ kd_ s a3 = 20 ∧ ln_ s a3 = 14) (hb35 : nx_ σ ≤ a4 ∧ kd_ s a4 = 20 ∧ ln_ s a4 = 14) (hb31 : nx_ σ ≤ b ∧ kd_ s b = 4) (hdist : a1 ≠ a2 ∧ a1 ≠ a3 ∧ a1 ≠ a4 ∧ a1 ≠ b ∧ a2 ≠ a3 ∧ a2 ≠ a4 ∧ a2 ≠ b ∧ a3 ≠ a4 ∧ a3 ≠ b ∧ a4 ≠ b) (hs : fi_ s 300 b = nI (N 5) ∧ fi_ s 301 b = v8 ∧ fi_ s 302 b = v9 ∧ fi_ s 303 b = v10 ∧ fi_ s 304 b = v11 ∧ fi_ s 305 b = -2 ∧ fi_ s 306 b = 0 ∧ fi_ s 307 b = 0 ∧ fi_ s 313 b = nI 0 ∧ fr_ s 309 b = some a1 ∧ fr_ s 310 b = some a2 ∧ fr_ s 311 b = some a3 ∧ fr_ s 312 b = some a4 ∧ ∀ k, ar_ s a1 k = none) (hk : fq_ (fun q => q = ga_ G 2 0 ∨ q = (if gc_ G 52 = 0 then ka 200 else ga_ G 52 0)) s τ) (he : kd_ τ e1 = 24) (hee : (0 < gc_ G 52 ∧ e1 = ga_ G 52 0) ∨ nx_ s ≤ e1) (hl : ls_ ka τ (ga_ G 2 0) e1 (N 5 + 1) (fun i => if i = N 5 then b else ga_ G 31 i)) : rc_ ka TX (si_ τ 1214 x 0) x (gy_ (gn_ (gn_ (gn_ (gn_ (gn_ G 32 a1) 33 a2) 34 a3) 35 a4) 31 b) 52 e1) (s3_ (aS A) 0, up2_ (up2_ (up2_ (up2_ (up2_ (aV A) 8 (N 5) v8) 9 (N 5) v9) 10 (N 5) v10) 11 (N 5) v11) 12 (N 5) (-2), A.2.2) (fun q => if q = 5 then N 5 + 1 else N q) ∧ fq_ (fun q => q = x ∨ q = ga_ G 2 0 ∨ q = (if gc_ G 52 = 0 then ka 200 else ga_ G 52 0)) σ (si_ τ 1214 x 0) := by
  have hlt32 : a1 < nx_ s := kd_ltn hf.2.1 hb32.2.1 (by decide)
  have hcnt32 : gc_ G 32 = N 5 := by
    have := h.2.2.1
    unfold cg_ at this
    simp only [this]
  have hlt33 : a2 < nx_ s := kd_ltn hf.2.1 hb33.2.1 (by decide)
  have hcnt33 : gc_ G 33 = N 5 := by
    have := h.2.2.1
    unfold cg_ at this
    simp only [this]
  have hlt34 : a3 < nx_ s := kd_ltn hf.2.1 hb34.2.1 (by decide)
  have hcnt34 : gc_ G 34 = N 5 := by
    have := h.2.2.1
    unfold cg_ at this
    simp only [this]
  have hlt35 : a4 < nx_ s := kd_ltn hf.2.1 hb35.2.1 (by decide)
  have hcnt35 : gc_ G 35 = N 5 := by
    have := h.2.2.1
    unfold cg_ at this
    simp only [this]
  have hlt31 : b < nx_ s := kd_ltn hf.2.1 hb31.2 (by decide)
  have hcnt31 : gc_ G 31 = N 5 := by
    have := h.2.2.1
    unfold cg_ at this
    simp only [this]
  have hfs : fq_ (fun q => q = x ∨ q = ga_ G 2 0 ∨ q = (if gc_ G 52 = 0 then ka 200 else ga_ G 52 0)) σ (si_ τ 1214 x 0) := fq_tr (fq_tr (fq_w hf (fun _ z => z.elim)) (fq_w hk (fun _ z => Or.inr z))) (fq_si hk.2.1 (Or.inl rfl))
  have hx0 : ∀ r i, i < gc_ G r → r ≠ 0 → ga_ G r i ≠ x := fun r i hi hr => rc_nx h hi hr
  have hxl : x < nx_ σ := kd_ltn h.1.1 (rc_x h) (by decide)
  have hll : ga_ G 2 0 < nx_ σ := sh_lt h.1 (rc_1 h (by decide))
  have hEl : (if gc_ G 52 = 0 then ka 200 else ga_ G 52 0) < nx_ σ := by
    by_cases z : gc_ G 52 = 0
    · rw [if_pos z]; exact h.2.1.2.2
    · rw [if_neg z]; exact sh_lt h.1 (Nat.pos_of_ne_zero z)
  have hTE : ∀ r i, i < gc_ G r → r ≠ 52 → ga_ G r i ≠ (if gc_ G 52 = 0 then ka 200 else ga_ G 52 0) := fun r i hi hr => by
    by_cases z : gc_ G 52 = 0
    · rw [if_pos z]; exact rc_ka h hi
    · rw [if_neg z]; exact sh_ne h.1 hi (Nat.pos_of_ne_zero z) (Or.inl hr)
  have hnT : ∀ q, nx_ σ ≤ q → ¬ (q = ga_ G 2 0 ∨ q = (if gc_ G 52 = 0 then ka 200 else ga_ G 52 0)) := fun q hq z => by
    rcases z with z | z
    · omega
    · omega
  have hold : ∀ r i, i < gc_ G r → ¬ r ∈ ([0, 2, 52] : List Nat) → ce_ (si_ τ 1214 x 0) (ga_ G r i) = ce_ σ (ga_ G r i) := fun r i hi hr => rc_ce h hfs hi (fun z => by
    rcases z with z | z | z
    · exact hx0 r i hi (fun q => hr (by rw [q]; decide)) z
    · exact sh_ne h.1 hi (rc_1 h (by decide)) (Or.inl (fun q => hr (by rw [q]; decide))) z
    · exact hTE r i hi (fun q => hr (by rw [q]; decide)) z)
  have hnew : ∀ q, nx_ σ ≤ q → q < nx_ s → ce_ (si_ τ 1214 x 0) q = ce_ s q := fun q h1 h2 => by
    rw [ce_si (show q ≠ x by omega), hk.2.2 q h2 (hnT q h1)]
  have hsh : sh_ KC LC (si_ τ 1214 x 0) (gy_ (gn_ (gn_ (gn_ (gn_ (gn_ G 32 a1) 33 a2) 34 a3) 35 a4) 31 b) 52 e1) := by
    have h1 : sh_ KC LC (si_ τ 1214 x 0) G := sh_fq h.1 hfs
    have h2 := sh_gn2 (r := 32) (b := a1) h1 (fh_of h.1 hb32.1) (fq_kd hk hb32.2.1 (by decide)) (by decide) (fun _ => Eq.trans (hk.1.2.2.2.2 a1 (by rw [hb32.2.1]; decide)).2 hb32.2.2)
    have h3 := sh_gn2 (r := 33) (b := a2) h2 (fh_gn (fh_of h.1 hb33.1) (by omega)) (fq_kd hk hb33.2.1 (by decide)) (by decide) (fun _ => Eq.trans (hk.1.2.2.2.2 a2 (by rw [hb33.2.1]; decide)).2 hb33.2.2)
    have h4 := sh_gn2 (r := 34) (b := a3) h3 (fh_gn (fh_gn (fh_of h.1 hb34.1) (by omega)) (by omega)) (fq_kd hk hb34.2.1 (by decide)) (by decide) (fun _ => Eq.trans (hk.1.2.2.2.2 a3 (by rw [hb34.2.1]; decide)).2 hb34.2.2)
    have h5 := sh_gn2 (r := 35) (b := a4) h4 (fh_gn (fh_gn (fh_gn (fh_of h.1 hb35.1) (by omega)) (by omega)) (by omega)) (fq_kd hk hb35.2.1 (by decide)) (by decide) (fun _ => Eq.trans (hk.1.2.2.2.2 a4 (by rw [hb35.2.1]; decide)).2 hb35.2.2)
    have h6 := sh_gn2 (r := 31) (b := b) h5 (fh_gn (fh_gn (fh_gn (fh_gn (fh_of h.1 hb31.1) (by omega)) (by omega)) (by omega)) (by omega)) (fq_kd hk hb31.2 (by decide)) (by decide) (fun z => absurd rfl z)
    refine sh_gy h6 ?_ he (by decide) rfl
    rcases hee with ⟨q1, q2⟩ | q
    · exact Or.inr ⟨q1, q2⟩
    · exact Or.inl (fh_gn (fh_gn (fh_gn (fh_gn (fh_gn (fh_of h.1 (Nat.le_trans hf.1.1 q)) (by omega)) (by omega)) (by omega)) (by omega)) (by omega))
  refine ⟨rc_gen2 h hfs hsh (cg_c2 h.2.2.1) [0, 2, 10, 31, 32, 33, 34, 35, 52, 58] (fun r hr => ?_) h.2.1.1 (fun q hq => ?_) (fun r i m hr h9 => ob_c2 _ _ _ _ _ _ _ _ _ _ _ hr h9) (fun r i hr hi => ?_), hfs⟩
  · have q : r ≠ 32 ∧ r ≠ 33 ∧ r ≠ 34 ∧ r ≠ 35 ∧ r ≠ 31 ∧ r ≠ 52 := ⟨fun z => hr (by rw [z]; decide), fun z => hr (by rw [z]; decide), fun z => hr (by rw [z]; decide), fun z => hr (by rw [z]; decide), fun z => hr (by rw [z]; decide), fun z => hr (by rw [z]; decide)⟩
    exact ⟨by simp [gy_, gn_, gc_, q], fun i => by simp [gy_, gn_, ga_, q]⟩
  · rcases hq with hq | hq | hq
    · exact Or.inl ⟨0, 0, by decide, rc_1 h (by decide), hq.trans h.2.1.1.symm⟩
    · exact Or.inl ⟨2, 0, by decide, rc_1 h (by decide), hq⟩
    · by_cases z : gc_ G 52 = 0
      · rw [if_pos z] at hq; exact Or.inr hq
      · rw [if_neg z] at hq
        exact Or.inl ⟨52, 0, by decide, Nat.pos_of_ne_zero z, hq⟩
  · have hao := ao_2 (ka := ka) (TX := TX) (A := (s3_ (aS A) 0, up2_ (up2_ (up2_ (up2_ (up2_ (aV A) 8 (N 5) v8) 9 (N 5) v9) 10 (N 5) v10) 11 (N 5) v11) 12 (N 5) (-2), A.2.2)) (G1 := gy_ (gn_ (gn_ (gn_ (gn_ (gn_ G 32 a1) 33 a2) 34 a3) 35 a4) 31 b) 52 e1) (N1 := fun q => if q = 5 then N 5 + 1 else N q) (τ := τ) (a := ga_ G 2 0) (e1 := e1) hl he ⟨rfl, rfl⟩ (fun j hj => by
      have hj : j < N 5 + 1 := hj
      by_cases z : j = N 5
      · subst z; simp [gy_, gn_, ga_, gc_] ; simp [← hcnt31, gc_]
      · have z2 : ¬ j = G.1 31 := by rw [show G.1 31 = N 5 from hcnt31]; exact z
        simp [gy_, gn_, ga_, gc_, z, z2])
    simp only [List.mem_cons, List.not_mem_nil, or_false] at hr
    rcases hr with rfl | rfl | rfl | rfl | rfl | rfl | rfl | rfl | rfl | rfl
    · have : i = 0 := by
        have : i < gc_ G 0 := hi
        exact g0_ h (by decide) this
      subst this
      show ob_ ka TX _ _ _ 0 0 (ce_ (si_ τ 1214 x 0) (ga_ G 0 0))
      rw [h.2.1.1]
      have hxT : ¬ (x = ga_ G 2 0 ∨ x = (if gc_ G 52 = 0 then ka 200 else ga_ G 52 0)) := fun z => by
        rcases z with z | z
        · exact hx0 2 0 (rc_1 h (by decide)) (by decide) z.symm
        · exact hTE 0 0 (rc_1 h (by decide)) (by decide) (h.2.1.1.trans z)
      refine ob_0b h 0 _ (fun c => ?_) (fun c c1 => ?_) ?_ (fun r hr => ?_)
      · rw [fr_si, fq_fr hk (Nat.lt_of_lt_of_le hxl hf.1.1) hxT c, fq_fr hf hxl (fun z => z) c]
      · rw [fi_si, up2_c c1, fq_fi hk (Nat.lt_of_lt_of_le hxl hf.1.1) hxT c, fq_fi hf hxl (fun z => z) c]
      · rw [fi_si, up2_s]
      · have q : ∀ r, r ∈ ([1, 2, 3, 4, 5, 6, 7, 8, 9, 10, 14, 17] : List Nat) → r ≠ 32 ∧ r ≠ 33 ∧ r ≠ 34 ∧ r ≠ 35 ∧ r ≠ 31 ∧ r ≠ 52 := by decide
        have q1 := q r hr
        simp [gy_, gn_, ga_, q1]
    · have : i = 0 := by
        have : i < gc_ G 2 := hi
        exact g0_ h (by decide) this
      subst this
      show ob_ ka TX _ _ _ 2 0 (ce_ (si_ τ 1214 x 0) (ga_ G 2 0))
      rw [ce_si (hx0 2 0 (rc_1 h (by decide)) (by decide))]
      exact hao.1
    · have : i = 0 := by
        have : i < gc_ G 10 := hi
        exact g0_ h (by decide) this
      subst this
      show ob_ ka TX _ _ _ 10 0 (ce_ (si_ τ 1214 x 0) (ga_ G 10 0))
      rw [hold 10 0 (rc_1 h (by decide)) (by decide)]
      exact ob_10 h 0 (by decide) _
    · have hi' : i < gc_ G 31 + 1 := hi
      by_cases z : i = gc_ G 31
      · have eb : ga_ (gy_ (gn_ (gn_ (gn_ (gn_ (gn_ G 32 a1) 33 a2) 34 a3) 35 a4) 31 b) 52 e1) 31 i = b := by rw [z]; simp [gy_, gn_, ga_, gc_]
        rw [eb, hnew b hb31.1 hlt31]
        rw [hcnt31] at z
        subst z
        have hd := hp.2.2.2.2.2.2.2.2.1 (N 5) (Nat.le_refl _) hcap
        refine ⟨hs.1, ?_, ?_, ?_, ?_, ?_, ?_, ?_, ?_, ?_, ?_, ?_, ?_, ?_, ?_⟩
        · show fi_ s 301 b = up2_ (aV A) 8 (N 5) v8 8 (N 5)
          rw [up2_s]; exact hs.2.1
        · show fi_ s 302 b = up2_ (up2_ (aV A) 8 (N 5) v8) 9 (N 5) v9 9 (N 5)
          rw [up2_s]; exact hs.2.2.1
        · show fi_ s 303 b = up2_ (up2_ (up2_ (aV A) 8 (N 5) v8) 9 (N 5) v9) 10 (N 5) v10 10 (N 5)
          rw [up2_s]; exact hs.2.2.2.1
        · show fi_ s 304 b = up2_ (up2_ (up2_ (up2_ (aV A) 8 (N 5) v8) 9 (N 5) v9) 10 (N 5) v10) 11 (N 5) v11 11 (N 5)
          rw [up2_s]; exact hs.2.2.2.2.1
        · show fi_ s 305 b = up2_ (up2_ (up2_ (up2_ (up2_ (aV A) 8 (N 5) v8) 9 (N 5) v9) 10 (N 5) v10) 11 (N 5) v11) 12 (N 5) (-2) 12 (N 5)
          rw [up2_s]; exact hs.2.2.2.2.2.1
        · exact Eq.trans hs.2.2.2.2.2.2.1 (hd.2.2.1).symm
        · exact Eq.trans hs.2.2.2.2.2.2.2.1 (hd.1).symm
        · show fi_ s 313 b = nI (st_ A N (N 5))
          rw [st_new hp.2.2.2.1 (by omega)]; exact hs.2.2.2.2.2.2.2.2.1
        · show fr_ s 309 b = some (ga_ (gy_ (gn_ (gn_ (gn_ (gn_ (gn_ G 32 a1) 33 a2) 34 a3) 35 a4) 31 b) 52 e1) 32 (N 5))
          rw [show ga_ (gy_ (gn_ (gn_ (gn_ (gn_ (gn_ G 32 a1) 33 a2) 34 a3) 35 a4) 31 b) 52 e1) 32 (N 5) = a1 from by rw [← hcnt32]; simp [gy_, gn_, ga_, gc_]]
          exact hs.2.2.2.2.2.2.2.2.2.1
        · show fr_ s 310 b = some (ga_ (gy_ (gn_ (gn_ (gn_ (gn_ (gn_ G 32 a1) 33 a2) 34 a3) 35 a4) 31 b) 52 e1) 33 (N 5))
          rw [show ga_ (gy_ (gn_ (gn_ (gn_ (gn_ (gn_ G 32 a1) 33 a2) 34 a3) 35 a4) 31 b) 52 e1) 33 (N 5) = a2 from by rw [← hcnt33]; simp [gy_, gn_, ga_, gc_]]
          exact hs.2.2.2.2.2.2.2.2.2.2.1
        · show fr_ s 311 b = some (ga_ (gy_ (gn_ (gn_ (gn_ (gn_ (gn_ G 32 a1) 33 a2) 34 a3) 35 a4) 31 b) 52 e1) 34 (N 5))
          rw [show ga_ (gy_ (gn_ (gn_ (gn_ (gn_ (gn_ G 32 a1) 33 a2) 34 a3) 35 a4) 31 b) 52 e1) 34 (N 5) = a3 from by rw [← hcnt34]; simp [gy_, gn_, ga_, gc_]]
          exact hs.2.2.2.2.2.2.2.2.2.2.2.1
        · show fr_ s 312 b = some (ga_ (gy_ (gn_ (gn_ (gn_ (gn_ (gn_ G 32 a1) 33 a2) 34 a3) 35 a4) 31 b) 52 e1) 35 (N 5))
          rw [show ga_ (gy_ (gn_ (gn_ (gn_ (gn_ (gn_ G 32 a1) 33 a2) 34 a3) 35 a4) 31 b) 52 e1) 35 (N 5) = a4 from by rw [← hcnt35]; simp [gy_, gn_, ga_, gc_]]
          exact hs.2.2.2.2.2.2.2.2.2.2.2.2.1
        · show aV A 15 (N 5) = bi_ (0 ≤ up2_ (up2_ (up2_ (up2_ (up2_ (aV A) 8 (N 5) v8) 9 (N 5) v9) 10 (N 5) v10) 11 (N 5) v11) 12 (N 5) (-2) 12 (N 5))
          rw [up2_s, hd.2.1]; rfl
        · exact Or.inl hd.2.2.1
      · have eb : ga_ (gy_ (gn_ (gn_ (gn_ (gn_ (gn_ G 32 a1) 33 a2) 34 a3) 35 a4) 31 b) 52 e1) 31 i = ga_ G 31 i := by
          have z2 : ¬ i = G.1 31 := z
          simp [gy_, gn_, ga_, gc_, z2]
        have hio : i < gc_ G 31 := by omega
        have z3 : i ≠ N 5 := by rw [← hcnt31]; exact z
        rw [eb, hold 31 i hio (by decide)]
        have q := h.2.2.2 31 i hio
        obtain ⟨q0, q1, q2, q3, q4, q5, q6, q7, q8, q9, q10, q11, q12, q13, q14⟩ := q
        refine ⟨q0, q1.trans ?_, q2.trans ?_, q3.trans ?_, q4.trans ?_, q5.trans ?_, q6, q7, q8, q9.trans ?_, q10.trans ?_, q11.trans ?_, q12.trans ?_, ?_, q14⟩
        · show aV A 8 i = up2_ (aV A) 8 (N 5) v8 8 i
          rw [up2_n z3]
        · show aV A 9 i = up2_ (up2_ (aV A) 8 (N 5) v8) 9 (N 5) v9 9 i
          rw [up2_n z3]
          rfl
        · show aV A 10 i = up2_ (up2_ (up2_ (aV A) 8 (N 5) v8) 9 (N 5) v9) 10 (N 5) v10 10 i
          rw [up2_n z3]
          rfl
        · show aV A 11 i = up2_ (up2_ (up2_ (up2_ (aV A) 8 (N 5) v8) 9 (N 5) v9) 10 (N 5) v10) 11 (N 5) v11 11 i
          rw [up2_n z3]
          rfl
        · show aV A 12 i = up2_ (up2_ (up2_ (up2_ (up2_ (aV A) 8 (N 5) v8) 9 (N 5) v9) 10 (N 5) v10) 11 (N 5) v11) 12 (N 5) (-2) 12 i
          rw [up2_n z3]
          rfl
        · rw [show ga_ (gy_ (gn_ (gn_ (gn_ (gn_ (gn_ G 32 a1) 33 a2) 34 a3) 35 a4) 31 b) 52 e1) 32 i = ga_ G 32 i from by
            have z2 : ¬ i = G.1 32 := fun w => z3 (w.trans hcnt32)
            simp [gy_, gn_, ga_, gc_, z2]]
        · rw [show ga_ (gy_ (gn_ (gn_ (gn_ (gn_ (gn_ G 32 a1) 33 a2) 34 a3) 35 a4) 31 b) 52 e1) 33 i = ga_ G 33 i from by
            have z2 : ¬ i = G.1 33 := fun w => z3 (w.trans hcnt33)
            simp [gy_, gn_, ga_, gc_, z2]]
        · rw [show ga_ (gy_ (gn_ (gn_ (gn_ (gn_ (gn_ G 32 a1) 33 a2) 34 a3) 35 a4) 31 b) 52 e1) 34 i = ga_ G 34 i from by
            have z2 : ¬ i = G.1 34 := fun w => z3 (w.trans hcnt34)
            simp [gy_, gn_, ga_, gc_, z2]]
        · rw [show ga_ (gy_ (gn_ (gn_ (gn_ (gn_ (gn_ G 32 a1) 33 a2) 34 a3) 35 a4) 31 b) 52 e1) 35 i = ga_ G 35 i from by
            have z2 : ¬ i = G.1 35 := fun w => z3 (w.trans hcnt35)
            simp [gy_, gn_, ga_, gc_, z2]]
        · show aV A 15 i = bi_ (0 ≤ up2_ (up2_ (up2_ (up2_ (up2_ (aV A) 8 (N 5) v8) 9 (N 5) v9) 10 (N 5) v10) 11 (N 5) v11) 12 (N 5) (-2) 12 i)
          rw [up2_n z3]
          exact q13
    · have hi' : i < gc_ G 32 + 1 := hi
      by_cases z : i = gc_ G 32
      · have eb : ga_ (gy_ (gn_ (gn_ (gn_ (gn_ (gn_ G 32 a1) 33 a2) 34 a3) 35 a4) 31 b) 52 e1) 32 i = a1 := by rw [z]; simp [gy_, gn_, ga_, gc_]
        rw [eb, hnew a1 hb32.1 hlt32]
        rw [hcnt32] at z
        subst z
        intro k hk
        have hd := (hp.2.2.2.2.2.2.2.2.1 (N 5) (Nat.le_refl _) hcap).2.2.2 k hk
        have hn := lt_new hp.1 (by omega) k
        show ar_ s a1 k = (lt9_ A N (N 5) k).map (ga_ G 36) ∧ (aV A 19 (10 * N 5 + k) = -1 ↔ lt9_ A N (N 5) k = none)
        rw [hn]
        exact ⟨hs.2.2.2.2.2.2.2.2.2.2.2.2.2 k, fun _ => rfl, fun _ => hd⟩
      · have eb : ga_ (gy_ (gn_ (gn_ (gn_ (gn_ (gn_ G 32 a1) 33 a2) 34 a3) 35 a4) 31 b) 52 e1) 32 i = ga_ G 32 i := by
          have z2 : ¬ i = G.1 32 := z
          simp [gy_, gn_, ga_, gc_, z2]
        have hio : i < gc_ G 32 := by omega
        have z3 : i ≠ N 5 := by rw [← hcnt32]; exact z
        rw [eb, hold 32 i hio (by decide)]
        have q := h.2.2.2 32 i hio
        exact q
    · have hi' : i < gc_ G 33 + 1 := hi
      by_cases z : i = gc_ G 33
      · have eb : ga_ (gy_ (gn_ (gn_ (gn_ (gn_ (gn_ G 32 a1) 33 a2) 34 a3) 35 a4) 31 b) 52 e1) 33 i = a2 := by rw [z]; simp [gy_, gn_, ga_, gc_]
        rw [eb, hnew a2 hb33.1 hlt33]
        rw [hcnt33] at z
        subst z
        intro k hk he
        exact absurd he (pv_np hp.2.2.2.1 (by omega) k hk)
      · have eb : ga_ (gy_ (gn_ (gn_ (gn_ (gn_ (gn_ G 32 a1) 33 a2) 34 a3) 35 a4) 31 b) 52 e1) 33 i = ga_ G 33 i := by
          have z2 : ¬ i = G.1 33 := z
          simp [gy_, gn_, ga_, gc_, z2]
        have hio : i < gc_ G 33 := by omega
        have z3 : i ≠ N 5 := by rw [← hcnt33]; exact z
        rw [eb, hold 33 i hio (by decide)]
        have q := h.2.2.2 33 i hio
        exact q
    · have hi' : i < gc_ G 34 + 1 := hi
      by_cases z : i = gc_ G 34
      · have eb : ga_ (gy_ (gn_ (gn_ (gn_ (gn_ (gn_ G 32 a1) 33 a2) 34 a3) 35 a4) 31 b) 52 e1) 34 i = a3 := by rw [z]; simp [gy_, gn_, ga_, gc_]
        rw [eb, hnew a3 hb34.1 hlt34]
        rw [hcnt34] at z
        subst z
        intro k hk he
        exact absurd he (pv_np hp.2.2.2.1 (by omega) k hk)
      · have eb : ga_ (gy_ (gn_ (gn_ (gn_ (gn_ (gn_ G 32 a1) 33 a2) 34 a3) 35 a4) 31 b) 52 e1) 34 i = ga_ G 34 i := by
          have z2 : ¬ i = G.1 34 := z
          simp [gy_, gn_, ga_, gc_, z2]
        have hio : i < gc_ G 34 := by omega
        have z3 : i ≠ N 5 := by rw [← hcnt34]; exact z
        rw [eb, hold 34 i hio (by decide)]
        have q := h.2.2.2 34 i hio
        exact q
    · have hi' : i < gc_ G 35 + 1 := hi
      by_cases z : i = gc_ G 35
      · have eb : ga_ (gy_ (gn_ (gn_ (gn_ (gn_ (gn_ G 32 a1) 33 a2) 34 a3) 35 a4) 31 b) 52 e1) 35 i = a4 := by rw [z]; simp [gy_, gn_, ga_, gc_]
        rw [eb, hnew a4 hb35.1 hlt35]
        rw [hcnt35] at z
        subst z
        intro k hk he
        exact absurd he (pv_np hp.2.2.2.1 (by omega) k hk)
      · have eb : ga_ (gy_ (gn_ (gn_ (gn_ (gn_ (gn_ G 32 a1) 33 a2) 34 a3) 35 a4) 31 b) 52 e1) 35 i = ga_ G 35 i := by
          have z2 : ¬ i = G.1 35 := z
          simp [gy_, gn_, ga_, gc_, z2]
        have hio : i < gc_ G 35 := by omega
        have z3 : i ≠ N 5 := by rw [← hcnt35]; exact z
        rw [eb, hold 35 i hio (by decide)]
        have q := h.2.2.2 35 i hio
        exact q
    · have : i = 0 := by
        have : i < 1 := hi
        omega
      subst this
      show ob_ ka TX _ _ _ 52 0 (ce_ (si_ τ 1214 x 0) e1)
      rw [ce_si (fun z => by
        rcases hee with ⟨q1, q2⟩ | q
        · exact hx0 52 0 q1 (by decide) (q2.symm.trans z)
        · have := hf.1.1
          omega)]
      exact hao.2
    · have hio : i < gc_ G 58 := hi
      show ob_ ka TX _ _ _ 58 i (ce_ (si_ τ 1214 x 0) (ga_ G 58 i))
      rw [hold 58 i hio (by decide)]
      have q := h.2.2.2 58 i hio
      obtain ⟨q0, q1, q2, q3⟩ := q
      refine ⟨q0, q1, q2, fun j hj => ?_⟩
      obtain ⟨p, hp5, e⟩ := hp.2.2.2.2.2.2.1.1 j hj
      show xq_ (ce_ σ (ga_ G 58 i)) j = some (ga_ (gy_ (gn_ (gn_ (gn_ (gn_ (gn_ G 32 a1) 33 a2) 34 a3) 35 a4) 31 b) 52 e1) 31 (aV A 84 j).toNatClampNeg)
      rw [show ga_ (gy_ (gn_ (gn_ (gn_ (gn_ (gn_ G 32 a1) 33 a2) 34 a3) 35 a4) 31 b) 52 e1) 31 (aV A 84 j).toNatClampNeg = ga_ G 31 (aV A 84 j).toNatClampNeg from by
        have z2 : ¬ (aV A 84 j).toNatClampNeg = G.1 31 := by
          rw [e, nI_clamp (show p < 2 ^ 31 by omega), show G.1 31 = N 5 from hcnt31]
          omega
        simp [gy_, gn_, ga_, gc_, z2]]
      exact q3 j hj
theorem pv_c2 {A : AS} {N : Nat → Nat} {S : Nat → Int32} (h : pv_ A N) (hN : N 5 < 30) {v8 v9 v10 v11 : Int32} (h9 : 1 ≤ v9 ∧ v9 ≤ 36500) (h10 : 1 ≤ v10 ∧ v10 ≤ 100) : pv_ (S, up2_ (up2_ (up2_ (up2_ (up2_ (aV A) 8 (N 5) v8) 9 (N 5) v9) 10 (N 5) v10) 11 (N 5) v11) 12 (N 5) (-2), A.2.2) (fun q => if q = 5 then N 5 + 1 else N q) := by
  obtain ⟨h1, h2, h3, h4, h5, h6, h7, d1, d2, d3⟩ := h
  refine ⟨fun t ht => ?_, fun p hp => ?_, fun r hr => ?_, fun k hk => ?_, fun e he => ?_, h6, ⟨fun j hj => ?_, h7.2⟩, d1, fun p hp hp2 => ?_, d3⟩
  · obtain ⟨⟨p, hp, e1⟩, q⟩ := h1 t ht
    exact ⟨⟨p, Nat.lt_succ_of_lt hp, e1⟩, q⟩
  · have hp : p < N 5 + 1 := hp
    show (1 ≤ up2_ (up2_ (aV A) 8 (N 5) v8) 9 (N 5) v9 9 p ∧ up2_ (up2_ (aV A) 8 (N 5) v8) 9 (N 5) v9 9 p ≤ 36500) ∧ (1 ≤ up2_ (up2_ (up2_ (aV A) 8 (N 5) v8) 9 (N 5) v9) 10 (N 5) v10 10 p ∧ up2_ (up2_ (up2_ (aV A) 8 (N 5) v8) 9 (N 5) v9) 10 (N 5) v10 10 p ≤ 100) ∧ (up2_ (up2_ (up2_ (up2_ (up2_ (aV A) 8 (N 5) v8) 9 (N 5) v9) 10 (N 5) v10) 11 (N 5) v11) 12 (N 5) (-2) 12 p = -2 ∨ ∃ d, d ≤ td_ N ∧ up2_ (up2_ (up2_ (up2_ (up2_ (aV A) 8 (N 5) v8) 9 (N 5) v9) 10 (N 5) v10) 11 (N 5) v11) 12 (N 5) (-2) 12 p = nI d) ∧ st_ A N p ≤ 14
    by_cases z : p = N 5
    · subst z
      rw [up2_s, up2_s, up2_s, st_new h4 (by omega)]
      exact ⟨h9, h10, Or.inl rfl, by decide⟩
    · rw [up2_n z, up2_n z, up2_n z]
      exact h2 p (by omega)
  · obtain ⟨q1, q⟩ := h3 r hr
    refine ⟨?_, q⟩
    rcases q1 with q1 | ⟨p, hp, e⟩
    · exact Or.inl q1
    · exact Or.inr ⟨p, Nat.lt_succ_of_lt hp, e⟩
  · obtain ⟨⟨p, hp, e1⟩, q⟩ := h4 k hk
    exact ⟨⟨p, Nat.lt_succ_of_lt hp, e1⟩, q⟩
  · obtain ⟨p, ⟨hp, e1⟩, q⟩ := h5 e he
    exact ⟨p, ⟨Nat.lt_succ_of_lt hp, e1⟩, q⟩
  · obtain ⟨p, hp, e1⟩ := h7.1 j hj
    exact ⟨p, Nat.lt_succ_of_lt hp, e1⟩
  · exact d2 p (Nat.le_of_succ_le hp) hp2
theorem mk_person {c : TH} (hw : wf_ c) (n0 v8 v9 v10 v11 : Int32) : ∃ s, f_X2_init (nw_ c 4 0 14) (nx_ c) n0 v8 v9 v10 v11 = some ((), s) ∧ np_ c s 4 (fun q => if q = 304 then v11 else if q = 303 then v10 else if q = 302 then v9 else if q = 301 then v8 else if q = 300 then n0 else if q = 313 then 0 else if q = 308 then 0 else if q = 307 then 0 else if q = 306 then 0 else if q = 305 then -2 else 0) (fun q => if q = 312 then some (nx_ c + 4) else if q = 311 then some (nx_ c + 3) else if q = 310 then some (nx_ c + 2) else if q = 309 then some (nx_ c + 1) else none) 5 66 (fun j => if j = 4 then some (20, 14) else if j = 3 then some (20, 14) else if j = 2 then some (26, 14) else if j = 1 then some (25, 10) else none) := by
  have h := np_0 hw 4 14 (by decide)
  unfold f_X2_init
  generalize nw_ c 4 0 14 = s at h ⊢
  rw [gt_t (np_kd h)]
  rw [lt_e]
  replace h := np_si h 305 (-2)
  generalize si_ s 305 (nx_ c) (-2) = s at h ⊢
  rw [lt_e]
  replace h := np_si h 306 0
  generalize si_ s 306 (nx_ c) 0 = s at h ⊢
  rw [lt_e]
  replace h := np_si h 307 0
  generalize si_ s 307 (nx_ c) 0 = s at h ⊢
  rw [lt_e]
  replace h := np_si h 308 0
  generalize si_ s 308 (nx_ c) 0 = s at h ⊢
  rw [gt_t ⟨by decide, by decide, np_z h⟩, lt_e, lt_e]
  (try rw [show (10 : Int32).toNatClampNeg = 10 from by decide])
  have e1 := np_nx h
  rw [e1]
  replace h := np_nw h 25 10 (by decide)
  generalize nw_ s 25 10 10 = s at h ⊢
  clear e1
  rw [lt_e]
  replace h := np_sr h 309 (some (nx_ c + 1))
  generalize sr_ s 309 (nx_ c) (some (nx_ c + 1)) = s at h ⊢
  rw [gt_t ⟨by decide, by decide, np_z h⟩, lt_e, lt_e]
  (try rw [show (14 : Int32).toNatClampNeg = 14 from by decide])
  have e2 := np_nx h
  rw [e2]
  replace h := np_nw h 26 14 (by decide)
  generalize nw_ s 26 14 14 = s at h ⊢
  clear e2
  rw [lt_e]
  replace h := np_sr h 310 (some (nx_ c + 2))
  generalize sr_ s 310 (nx_ c) (some (nx_ c + 2)) = s at h ⊢
  rw [gt_t ⟨by decide, by decide, np_z h⟩, lt_e, lt_e]
  (try rw [show (14 : Int32).toNatClampNeg = 14 from by decide])
  have e3 := np_nx h
  rw [e3]
  replace h := np_nw h 20 14 (by decide)
  generalize nw_ s 20 14 14 = s at h ⊢
  clear e3
  rw [lt_e]
  replace h := np_sr h 311 (some (nx_ c + 3))
  generalize sr_ s 311 (nx_ c) (some (nx_ c + 3)) = s at h ⊢
  rw [gt_t ⟨by decide, by decide, np_z h⟩, lt_e, lt_e]
  (try rw [show (14 : Int32).toNatClampNeg = 14 from by decide])
  have e4 := np_nx h
  rw [e4]
  replace h := np_nw h 20 14 (by decide)
  generalize nw_ s 20 14 14 = s at h ⊢
  clear e4
  rw [lt_e]
  replace h := np_sr h 312 (some (nx_ c + 4))
  generalize sr_ s 312 (nx_ c) (some (nx_ c + 4)) = s at h ⊢
  rw [lt_e]
  replace h := np_si h 313 0
  generalize si_ s 313 (nx_ c) 0 = s at h ⊢
  rw [lt_e]
  replace h := np_si h 300 n0
  generalize si_ s 300 (nx_ c) n0 = s at h ⊢
  rw [lt_e]
  replace h := np_si h 301 v8
  generalize si_ s 301 (nx_ c) v8 = s at h ⊢
  rw [lt_e]
  replace h := np_si h 302 v9
  generalize si_ s 302 (nx_ c) v9 = s at h ⊢
  rw [lt_e]
  replace h := np_si h 303 v10
  generalize si_ s 303 (nx_ c) v10 = s at h ⊢
  rw [lt_e]
  replace h := np_si h 304 v11
  generalize si_ s 304 (nx_ c) v11 = s at h ⊢
  exact ⟨s, rfl, h⟩
theorem ok_person : St_person ka x y (inv_ ka TX pv_ x y o N0) := fun n c m a0 a1 a2 a3 hn hI => by
  obtain ⟨GC, GM, N, k1, k2, k3, k4, k5, k6, k7, k8⟩ := id hI
  have hN := (mo_n k1 (j := 5) (cj := 1605) (m := 30) (by decide)).2
  obtain ⟨e6, hN6⟩ := mo_n k1 (j := 6) (cj := 1606) (m := 5257439) (by decide)
  have hb : mr_ (bm_ m c) y GM (as_ m y GM) N := mr_bm (mr_of k1) (Nat.le_of_eq k5.1)
  have hx := rc_x k2
  obtain ⟨e4, hN4⟩ := mo_n k1 (j := 4) (cj := 1604) (m := 6) (by decide)
  obtain ⟨r1, r2⟩ := rc_r1201 k2
  have hl := rc_l2 k2 (by omega)
  have l1 := l_size hl
  have n0 : kd_ c (nx_ c) = 0 := wf_0 k2.1.1 (Nat.le_refl _)
  have hxn : x ≠ nx_ c := Nat.ne_of_lt (kd_ltn k2.1.1 hx (by decide))
  rcases rg_ a3 (n := N 4) (by omega) with ⟨w, hw0, e3⟩ | hout
  · obtain ⟨lw, p2, p3⟩ := k_living1 k2 hN4 hw0
    by_cases z : aV (as_ m y GM) 14 w = 0
    · rw [if_pos z, ← e3] at lw
      by_cases q : (0 ≤ a0 ∧ a0 ≤ 99) ∧ (1 ≤ a1 ∧ a1 ≤ 36500) ∧ (1 ≤ a2 ∧ a2 ≤ 100)
      · obtain ⟨q1, q2, q3⟩ := q
        by_cases q5 : N 5 = 30
        · have zz : ¬ nI (N 5) < 30 := by rw [q5]; decide
          subst e3
          refine ⟨-1, si_ c 1214 x 3, tr_ (si_ (bm_ m (si_ c 1214 x 3)) 1600 y 0) y 3, ?_, ?_, no_ pv_S hI 3 (by decide)⟩
          · simp [f_X11_person, gt_, lt_, nn_, oc_, bd_, hx, lw, k_within, bi_, q1, q2, q3, r1, r2, l1, zz, k_refused hx]
          · have h1 := mr_si (mr_bm (z := si_ c 1214 x 3) (mr_of k1) (Nat.le_of_eq k5.1)) (j := 0) (c := 1600) (by decide) 0
            unfold f_X15_person
            rw [gt_t (show kd_ (bm_ m (si_ c 1214 x 3)) y = 17 from mo_yb k1), lt_e]
            generalize si_ (bm_ m (si_ c 1214 x 3)) 1600 y 0 = σ at h1 ⊢
            have ec := (mo_n h1.1 (j := 5) (cj := 1605) (m := 30) (by decide)).1
            rw [q5] at ec
            have li := m_isLiving1 h1.1 hw0
            rw [mr_V h1 (j := 14) (by decide) w, z, bi_t rfl] at li
            simp [gt_, lt_, nn_, oc_, bd_, li, m_in, bi_, q1, q2, q3, ec, show nI 30 = 30 from rfl, m_refused (mo_y h1.1)]
        · have hlt : N 5 < 30 := by omega
          obtain ⟨s, hin, np⟩ := mk_person k2.1.1 (nI (N 5)) a0 a1 a2 a3
          have hs := np.1
          have hkb := np_kd np
          obtain ⟨-, hk1a, hk1b, -, hk1c⟩ := np.2.2.2.2.2 1 25 10 rfl
          obtain ⟨-, hk2a, hk2b, -, -⟩ := np.2.2.2.2.2 2 26 14 rfl
          obtain ⟨-, hk3a, hk3b, -, -⟩ := np.2.2.2.2.2 3 20 14 rfl
          obtain ⟨-, hk4a, hk4b, -, -⟩ := np.2.2.2.2.2 4 20 14 rfl
          have fF := np.2.2.1
          have fR := np.2.2.2.1
          have hfa : fi_ s 300 (nx_ c) = nI (N 5) ∧ fi_ s 301 (nx_ c) = a0 ∧ fi_ s 302 (nx_ c) = a1 ∧ fi_ s 303 (nx_ c) = a2 ∧ fi_ s 304 (nx_ c) = a3 ∧ fi_ s 305 (nx_ c) = -2 ∧ fi_ s 306 (nx_ c) = 0 ∧ fi_ s 307 (nx_ c) = 0 ∧ fi_ s 313 (nx_ c) = nI 0 ∧ fr_ s 309 (nx_ c) = some (nx_ c + 1) ∧ fr_ s 310 (nx_ c) = some (nx_ c + 2) ∧ fr_ s 311 (nx_ c) = some (nx_ c + 3) ∧ fr_ s 312 (nx_ c) = some (nx_ c + 4) ∧ ∀ k, ar_ s (nx_ c + 1) k = none := ⟨fF 300, fF 301, fF 302, fF 303, fF 304, fF 305, fF 306, fF 307, fF 313, fR 309, fR 310, fR 311, fR 312, hk1c⟩
          have hbn := np.2.2.2.2.1
          have hfrn : fr_ (nw_ c 4 0 14) 1201 x = some (ga_ GC 2 0) := by rw [fr_nwn hxn]; exact r1
          have hln : ls_ ka (nw_ c 4 0 14) (ga_ GC 2 0) (if gc_ GC 52 = 0 then ka 200 else ga_ GC 52 0) (N 5) (ga_ GC 31) := ls_fq hl k2.1.1 (fq_nw (T := fun _ => False) k2.1.1 (by decide)) (fun z => z) (fun z => z) k2.2.1.2.2
          subst e3
          obtain ⟨e1, τ, ad, fq2, bnd, ke1, hee, hl2⟩ := ad_2 k2 (by omega) hs ⟨Nat.le_refl _, hkb⟩
          obtain ⟨x1, x2, x3⟩ := ax_2 k2 hs fq2
          obtain ⟨w1, w2⟩ := rc_c2 k2 k3 hlt hs ⟨by omega, hk1a, hk1b⟩ ⟨by omega, hk2a, hk2b⟩ ⟨by omega, hk3a, hk3b⟩ ⟨by omega, hk4a, hk4b⟩ ⟨Nat.le_refl _, hkb⟩ (by omega) hfa fq2 ke1 hee hl2
          have h0 := mr_bm (z := si_ τ 1214 x 0) (mr_of k1) (by rw [k5.1]; exact w2.1.1)
          have h1 := mr_si h0 (j := 0) (c := 1600) (by decide) 0
          have hw := h0.1.1.1
          have hj4 : ∀ j, j ∈ DS → j ≠ 5 := by decide
          obtain ⟨m1, hm1⟩ : ∃ m1, m1 = tr_ (si_ (sa_ (sa_ (sa_ (sa_ (sa_ (si_ (bm_ m (si_ τ 1214 x 0)) 1600 y 0) (ga_ GM 8 0) (N 5) a0) (ga_ GM 9 0) (N 5) a1) (ga_ GM 10 0) (N 5) a2) (ga_ GM 11 0) (N 5) (nI w)) (ga_ GM 12 0) (N 5) (-2)) 1605 y (nI (N 5 + 1))) y 0 := ⟨_, rfl⟩
          have g1 : f_X15_person (bm_ m (si_ τ 1214 x 0)) y a0 a1 a2 (nI w) = some (nI (N 5), m1) := by
            rw [hm1]
            unfold f_X15_person
            rw [gt_t (show kd_ (bm_ m (si_ τ 1214 x 0)) y = 17 from mo_yb k1), lt_e]
            generalize si_ (bm_ m (si_ τ 1214 x 0)) 1600 y 0 = σ at h1 ⊢
            have hy := mo_y h1.1
            have ec := (mo_n h1.1 (j := 5) (cj := 1605) (m := 30) (by decide)).1
            have g1 : ¬ nI (N 5) < 0 := nI_pos (by omega)
            have g3 : (nI (N 5)).toNatClampNeg = N 5 := nI_clamp (by omega)
            have g4 : ¬ 30 ≤ N 5 := by omega
            have g6 : ¬ nI (N 5) = 30 := nI_cn (k := 30) rfl (by omega) (by omega) (by decide)
            obtain ⟨a8, b8, c8⟩ := mo_a h1.1 (j := 8) (cj := 1608) (K := 20) (n := 30) (by decide)
            obtain ⟨a9, b9, c9⟩ := mo_a h1.1 (j := 9) (cj := 1609) (K := 20) (n := 30) (by decide)
            obtain ⟨a10, b10, c10⟩ := mo_a h1.1 (j := 10) (cj := 1610) (K := 20) (n := 30) (by decide)
            obtain ⟨a11, b11, c11⟩ := mo_a h1.1 (j := 11) (cj := 1611) (K := 20) (n := 30) (by decide)
            obtain ⟨a12, b12, c12⟩ := mo_a h1.1 (j := 12) (cj := 1612) (K := 20) (n := 30) (by decide)
            have li := m_isLiving1 h1.1 hw0
            rw [mr_V h1 (j := 14) (by decide) w, z, bi_t rfl] at li
            simp [gt_, lt_, nn_, oc_, bd_, kd_si, ln_si, fi_si, fr_si, fl_si, ai_si, ar_si, al_si, ow_si, nx_si, sl_si, kd_sr, ln_sr, fi_sr, fr_sr, fl_sr, ai_sr, ar_sr, al_sr, ow_sr, nx_sr, sl_sr, kd_so, ln_so, fi_so, fr_so, fl_so, ai_so, ar_so, al_so, ow_so, nx_so, sl_so, kd_sa, ln_sa, fi_sa, fr_sa, fl_sa, ai_sa, ar_sa, al_sa, ow_sa, nx_sa, sl_sa, kd_sq, ln_sq, fi_sq, fr_sq, fl_sq, ai_sq, ar_sq, al_sq, ow_sq, nx_sq, sl_sq, kd_sj, ln_sj, fi_sj, fr_sj, fl_sj, ai_sj, ar_sj, al_sj, ow_sj, nx_sj, sl_sj, up2_e, li, m_in, bi_, q1, q2, q3, hy, ec, a8, b8, c8, a9, b9, c9, a10, b10, c10, a11, b11, c11, a12, b12, c12, g1, g3, g4, g6, m_done, nI_1, nI_pred]
          have g2 : fq_ (fun q => q = y ∨ q = ga_ GM 8 0 ∨ q = ga_ GM 9 0 ∨ q = ga_ GM 10 0 ∨ q = ga_ GM 11 0 ∨ q = ga_ GM 12 0) (bm_ m (si_ τ 1214 x 0)) m1 := by
            rw [hm1]
            exact fqt (fqi (fqa (fqa (fqa (fqa (fqa (fqi (fq_rf hw) (Or.inl rfl)) (Or.inr (Or.inl rfl))) (Or.inr (Or.inr (Or.inl rfl)))) (Or.inr (Or.inr (Or.inr (Or.inl rfl))))) (Or.inr (Or.inr (Or.inr (Or.inr (Or.inl rfl)))))) (Or.inr (Or.inr (Or.inr (Or.inr (Or.inr rfl)))))) (Or.inl rfl)) (Or.inl rfl)
          have g3 : mr_ m1 y GM (s3_ (aS (as_ m y GM)) 0, up2_ (up2_ (up2_ (up2_ (up2_ (aV (as_ m y GM)) 8 (N 5) a0) 9 (N 5) a1) 10 (N 5) a2) 11 (N 5) (nI w)) 12 (N 5) (-2), (as_ m y GM).2.2) (fun q => if q = 5 then N 5 + 1 else N q) := by
            rw [hm1]
            exact mr_S (mr_tr (mr_sn (mr_sa (mr_sa (mr_sa (mr_sa (mr_sa (h1) (j := 8) (by decide) (N 5) a0) (j := 9) (by decide) (N 5) a1) (j := 10) (by decide) (N 5) a2) (j := 11) (by decide) (N 5) (nI w)) (j := 12) (by decide) (N 5) (-2)) 5 1605 (N 5 + 1) (by decide) (by show N 5 + 1 ≤ 30; omega)) 0) _
          have g4 : ∀ j, j ∈ DS → fi_ m1 (1600 + j) y = s3_ (aS (as_ m y GM)) 0 j := fun j hj => by
            rw [hm1]
            exact s3_fi2 (σ := bm_ m (si_ τ 1214 x 0)) rfl rfl (hj4 j hj)
          have g5 : nx_ m1 = nx_ τ ∧ sl_ m1 = sl_ τ := by rw [hm1]; exact ⟨rfl, rfl⟩
          refine ⟨nI (N 5), si_ τ 1214 x 0, m1, ?_, g1, inv_fin hI w2 ⟨?_, ?_⟩ g2 ⟨?_, ?_⟩ g3 g4 w1 (pv_c2 k3 hlt q2 q3)⟩
          · unfold f_X11_person
            rw [gt_t hx, lw, bd_s, oc_s, k_within, bd_s, bi_t q1, if_neg (by decide), k_within, bd_s, bi_t q2, if_neg (by decide), k_within, bd_s, bi_t q3, if_neg (by decide), lt_e, r1, nn_s, gt_t r2, l1, bd_s, if_pos (show nI (N 5) < 30 from nI_c (k := 30) rfl hlt (by decide)), lt_e, r1, gt_t n0, lt_e, lt_e, lt_e, hfrn, nn_s, gt_t hln.1, l_size hln, bd_s, hin, bd_s, nn_s, gt_t (fq_kd hs r2 (by decide)), ad, bd_s, lt_e, x2, r1, nn_s, gt_t hl2.1, l_size hl2, bd_s, nI_pred, k_granted x1, bd_s]
          · show nx_ τ ≤ nx_ c + 400
            omega
          · show sl_ τ ≤ sl_ c + 6000
            omega
          · rw [g5.1]; exact Nat.le_add_right _ _
          · rw [g5.2]; exact Nat.le_add_right _ _
      · have qq : ¬ (0 ≤ a0 ∧ a0 ≤ 99) ∨ ¬ (1 ≤ a1 ∧ a1 ≤ 36500) ∨ ¬ (1 ≤ a2 ∧ a2 ≤ 100) := by
          by_cases z1 : 0 ≤ a0 ∧ a0 ≤ 99
          · by_cases z2 : 1 ≤ a1 ∧ a1 ≤ 36500
            · exact Or.inr (Or.inr (fun z3 => q ⟨z1, z2, z3⟩))
            · exact Or.inr (Or.inl z2)
          · exact Or.inl z1
        clear q
        subst e3
        refine ⟨-1, si_ c 1214 x 2, tr_ (si_ (bm_ m (si_ c 1214 x 2)) 1600 y 0) y 2, ?_, ?_, no_ pv_S hI 2 (by decide)⟩
        · unfold f_X11_person
          rw [gt_t hx, lw, bd_s, oc_s, k_within, bd_s]
          by_cases z1 : 0 ≤ a0 ∧ a0 ≤ 99
          · rw [bi_t z1, if_neg (by decide), k_within, bd_s]
            by_cases z2 : 1 ≤ a1 ∧ a1 ≤ 36500
            · rw [bi_t z2, if_neg (by decide), k_within, bd_s]
              have z3 : ¬ (1 ≤ a2 ∧ a2 ≤ 100) := by
                rcases qq with h | h | h
                · exact absurd z1 h
                · exact absurd z2 h
                · exact h
              rw [bi_f z3, if_pos rfl]
              simp [f_X11_person_b45, gt_, lt_, nn_, oc_, bd_, hx, k_refused hx]
            · rw [bi_f z2, if_pos rfl]
              simp [f_X11_person_b45, gt_, lt_, nn_, oc_, bd_, hx, k_refused hx]
          · rw [bi_f z1, if_pos rfl]
            simp [f_X11_person_b45, gt_, lt_, nn_, oc_, bd_, hx, k_refused hx]
        · have h1 := mr_si (mr_bm (z := si_ c 1214 x 2) (mr_of k1) (Nat.le_of_eq k5.1)) (j := 0) (c := 1600) (by decide) 0
          unfold f_X15_person
          rw [gt_t (show kd_ (bm_ m (si_ c 1214 x 2)) y = 17 from mo_yb k1), lt_e]
          generalize si_ (bm_ m (si_ c 1214 x 2)) 1600 y 0 = σ at h1 ⊢
          have hr := m_refused (mo_y h1.1) 2
          have hy := mo_y h1.1
          have li := m_isLiving1 h1.1 hw0
          rw [mr_V h1 (j := 14) (by decide) w, z, bi_t rfl] at li
          rw [li, bd_s, if_neg (by decide), m_in, bd_s]
          by_cases z1 : 0 ≤ a0 ∧ a0 ≤ 99
          · rw [bi_t z1, if_neg (by decide), m_in, bd_s]
            by_cases z2 : 1 ≤ a1 ∧ a1 ≤ 36500
            · rw [bi_t z2, if_neg (by decide), m_in, bd_s]
              have z3 : ¬ (1 ≤ a2 ∧ a2 ≤ 100) := by
                rcases qq with h | h | h
                · exact absurd z1 h
                · exact absurd z2 h
                · exact h
              rw [bi_f z3, if_pos rfl]
              simp [f_X15_person_b50, gt_, lt_, nn_, oc_, bd_, hy, hr]
            · rw [bi_f z2, if_pos rfl]
              simp [f_X15_person_b50, gt_, lt_, nn_, oc_, bd_, hy, hr]
          · rw [bi_f z1, if_pos rfl]
            simp [f_X15_person_b50, gt_, lt_, nn_, oc_, bd_, hy, hr]
    · rw [if_neg z] at lw
      subst e3
      refine ⟨-1, si_ c 1214 x 1, tr_ (si_ (bm_ m (si_ c 1214 x 1)) 1600 y 0) y 1, ?_, ?_, no_ pv_S hI 1 (by decide)⟩
      · simp [f_X11_person, gt_, lt_, nn_, oc_, bd_, hx, lw, k_refused hx]
      · have h1 := mr_si (mr_bm (z := si_ c 1214 x 1) (mr_of k1) (Nat.le_of_eq k5.1)) (j := 0) (c := 1600) (by decide) 0
        unfold f_X15_person
        rw [gt_t (show kd_ (bm_ m (si_ c 1214 x 1)) y = 17 from mo_yb k1), lt_e]
        generalize si_ (bm_ m (si_ c 1214 x 1)) 1600 y 0 = σ at h1 ⊢
        have li := m_isLiving1 h1.1 hw0
        rw [mr_V h1 (j := 14) (by decide) w, bi_f z] at li
        simp [gt_, lt_, nn_, oc_, bd_, li, m_refused (mo_y h1.1)]
  · skip
    refine ⟨-1, si_ c 1214 x 1, tr_ (si_ (bm_ m (si_ c 1214 x 1)) 1600 y 0) y 1, ?_, ?_, no_ pv_S hI 1 (by decide)⟩
    · simp [f_X11_person, gt_, lt_, nn_, oc_, bd_, hx, k_living0 k2 hN4 hout, k_refused hx]
    · have h1 := mr_si (mr_bm (z := si_ c 1214 x 1) (mr_of k1) (Nat.le_of_eq k5.1)) (j := 0) (c := 1600) (by decide) 0
      unfold f_X15_person
      rw [gt_t (show kd_ (bm_ m (si_ c 1214 x 1)) y = 17 from mo_yb k1), lt_e]
      generalize si_ (bm_ m (si_ c 1214 x 1)) 1600 y 0 = σ at h1 ⊢
      simp [gt_, lt_, nn_, oc_, bd_, m_isLiving0 h1.1 hout, m_refused (mo_y h1.1)]
end C66
