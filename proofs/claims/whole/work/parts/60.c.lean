/-! CALLS that make one more: writer, picture, ask. Written by wip/b/mk60.py. -/
section FQN
variable {T : Nat → Prop} {σ τ : TH} {a c i : Nat}
theorem fq_sin {v : Int32} (h : fq_ T σ τ) (ha : nx_ σ ≤ a) : fq_ T σ (si_ τ c a v) := ⟨tl_tr h.1 (tl_si _ _ _ _), h.2.1, fun q hq hT => (ce_si (by omega)).trans (h.2.2 q hq hT)⟩
theorem fq_srn {v : Option Nat} (h : fq_ T σ τ) (ha : nx_ σ ≤ a) : fq_ T σ (sr_ τ c a v) := ⟨tl_tr h.1 (tl_sr _ _ _ _), h.2.1, fun q hq hT => (ce_sr (by omega)).trans (h.2.2 q hq hT)⟩
theorem fq_san {v : Int32} (h : fq_ T σ τ) (ha : nx_ σ ≤ a) : fq_ T σ (sa_ τ a i v) := ⟨tl_tr h.1 (tl_sa _ _ _ _), h.2.1, fun q hq hT => (ce_sa (by omega)).trans (h.2.2 q hq hT)⟩
theorem fq_sqn {v : Option Nat} (h : fq_ T σ τ) (ha : nx_ σ ≤ a) : fq_ T σ (sq_ τ a i v) := ⟨tl_tr h.1 (tl_sq _ _ _ _), h.2.1, fun q hq hT => (ce_sq (by omega)).trans (h.2.2 q hq hT)⟩
theorem fq_nwn {k n w : Nat} (h : fq_ T σ τ) (hk : k ≠ 0) : fq_ T σ (nw_ τ k n w) := fq_tr h (fq_nw h.2.1 hk)
end FQN
/-- kinds known in σ stand in τ -/
theorem fq_kd {T : Nat → Prop} {σ τ : TH} (h : fq_ T σ τ) {q k : Nat} (hq : kd_ σ q = k) (hk : k ≠ 0) : kd_ τ q = k := by
  rw [(h.1.2.2.2.2 q (by rw [hq]; exact hk)).1]; exact hq
theorem fq_fr {T : Nat → Prop} {σ τ : TH} (h : fq_ T σ τ) {q : Nat} (hq : q < nx_ σ) (hT : ¬ T q) (c : Nat) : fr_ τ c q = fr_ σ c q := congrFun (congrArg (fun z => z.2.2.1) (h.2.2 q hq hT)) c
theorem fq_fi {T : Nat → Prop} {σ τ : TH} (h : fq_ T σ τ) {q : Nat} (hq : q < nx_ σ) (hT : ¬ T q) (c : Nat) : fi_ τ c q = fi_ σ c q := congrFun (congrArg (fun z => z.2.1) (h.2.2 q hq hT)) c
theorem kd_ltn {σ : TH} (hw : wf_ σ) {q k : Nat} (hq : kd_ σ q = k) (hk : k ≠ 0) : q < nx_ σ := (hw.2 q (hw.1 q (by rw [hq]; exact hk))).1
theorem nI_c {n : Nat} {c : Int32} {k : Nat} (e : c = nI k) (h : n < k) (hk : k < 2 ^ 31) : nI n < c := by rw [e]; exact nI_lt h hk
theorem nI_cn {n : Nat} {c : Int32} {k : Nat} (e : c = nI k) (h : n ≠ k) (hn : n < 2 ^ 31) (hk : k < 2 ^ 31) : ¬ nI n = c := by rw [e]; exact fun z => h ((nI_eq hn hk).mp z)
section C60
variable {ka : Nat → Nat} {TX : Nat → Nat → (Nat → Int32) → Nat → (Nat → Int32) → Prop} {x y o N0 : Nat}
theorem ob_c1 {A : AS} {G : GH} {N : Nat → Nat} {r i : Nat} {m : CE} (S : Nat → Int32) (b e1 : Nat) (v7 : Int32) (hd : ¬ r ∈ ([0, 1, 10, 30, 51] : List Nat)) (h : ob_ ka TX A G N r i m) : ob_ ka TX (S, up2_ (aV A) 7 (N 4) v7, A.2.2) (gy_ (gn_ G 30 b) 51 e1) (fun q => if q = 4 then N 4 + 1 else N q) r i m := by
  match r, hd, h with
  | 0, hd, h => exact absurd (by decide) hd
  | 1, hd, h => exact absurd (by decide) hd
  | 2, hd, h => exact h
  | 3, hd, h => exact h
  | 4, hd, h => exact h
  | 5, hd, h => exact h
  | 6, hd, h => exact h
  | 7, hd, h => exact h
  | 8, hd, h => exact h
  | 9, hd, h => exact h
  | 10, hd, h => exact absurd (by decide) hd
  | 11, hd, h => exact h
  | 12, hd, h => exact h
  | 13, hd, h => exact h
  | 14, hd, h => exact h
  | 15, hd, h => exact h
  | 16, hd, h => exact h
  | 17, hd, h => exact h
  | 18, hd, h => exact h
  | 19, hd, h => exact h
  | 20, hd, h => exact h
  | 21, hd, h => exact h
  | 22, hd, h => exact h
  | 23, hd, h => exact h
  | 24, hd, h => exact h
  | 25, hd, h => exact h
  | 26, hd, h => exact h
  | 27, hd, h => exact h
  | 28, hd, h => exact h
  | 29, hd, h => exact h
  | 30, hd, h => exact absurd (by decide) hd
  | 31, hd, h => exact h
  | 32, hd, h => exact h
  | 33, hd, h => exact h
  | 34, hd, h => exact h
  | 35, hd, h => exact h
  | 36, hd, h => exact h
  | 37, hd, h => exact h
  | 38, hd, h => exact h
  | 39, hd, h => exact h
  | 40, hd, h => exact h
  | 41, hd, h => exact h
  | 42, hd, h => exact h
  | 43, hd, h => exact h
  | 44, hd, h => exact h
  | 45, hd, h => exact h
  | 46, hd, h => exact h
  | 47, hd, h => exact h
  | 48, hd, h => exact h
  | 49, hd, h => exact h
  | 50, hd, h => exact h
  | 51, hd, h => exact absurd (by decide) hd
  | 52, hd, h => exact h
  | 53, hd, h => exact h
  | 54, hd, h => exact h
  | 55, hd, h => exact h
  | 56, hd, h => exact h
  | 57, hd, h => exact h
  | 58, hd, h => exact h
  | r + 59, hd, h => exact h
theorem cg_c1 {G : GH} {N : Nat → Nat} {b e1 : Nat} (h : cg_ G N) : cg_ (gy_ (gn_ G 30 b) 51 e1) (fun q => if q = 4 then N 4 + 1 else N q) := by
  obtain ⟨h0, h30, h31, h32, h33, h34, h35, h36, h37, h38, h39, h40, h41, h42, h43, h44, h45, h46, h47, h48⟩ := h
  refine ⟨fun r hr => ?_, ?_, h31, h32, h33, h34, h35, h36, h37, h38, h39, h40, h41, h42, h43, h44, h45, h46, h47, h48⟩
  · have h9 : ∀ r, r ∈ ([0, 1, 2, 3, 4, 5, 6, 7, 8, 9, 10, 11, 12, 13, 14, 15, 16, 17, 18, 19, 20, 21, 22] : List Nat) → r ≠ 30 ∧ r ≠ 51 := by decide
    have := h9 r hr
    show gc_ (gy_ (gn_ G 30 b) 51 e1) r = 1
    refine Eq.trans ?_ (h0 r hr)
    simp [gy_, gn_, gc_, this]
  · show gc_ (gy_ (gn_ G 30 b) 51 e1) 30 = (fun q => if q = 4 then N 4 + 1 else N q) 4
    simp [gy_, gn_, gc_] at *
    omega
theorem rc_c1 {σ s τ : TH} {G : GH} {A : AS} {N : Nat → Nat} {b e1 : Nat} {v7 : Int32} (h : rc_ ka TX σ x G A N) (hD : pvD A N) (hcap : N 4 < 6) (hf : fq_ (fun _ => False) σ s) (hb : nx_ σ ≤ b ∧ kd_ s b = 12) (hs : fi_ s 1100 b = v7 ∧ fi_ s 1101 b = 1) (hk : fq_ (fun q => q = ga_ G 1 0 ∨ q = (if gc_ G 51 = 0 then ka 200 else ga_ G 51 0)) s τ) (he : kd_ τ e1 = 24) (hee : (0 < gc_ G 51 ∧ e1 = ga_ G 51 0) ∨ nx_ s ≤ e1) (hl : ls_ ka τ (ga_ G 1 0) e1 (N 4 + 1) (fun i => if i = N 4 then b else ga_ G 30 i)) : rc_ ka TX (si_ τ 1214 x 0) x (gy_ (gn_ G 30 b) 51 e1) (s3_ (aS A) 0, up2_ (aV A) 7 (N 4) v7, A.2.2) (fun q => if q = 4 then N 4 + 1 else N q) ∧ fq_ (fun q => q = x ∨ q = ga_ G 1 0 ∨ q = (if gc_ G 51 = 0 then ka 200 else ga_ G 51 0)) σ (si_ τ 1214 x 0) := by
  have hbs : b < nx_ s := kd_ltn hf.2.1 hb.2 (by decide)
  have hcnt : gc_ G 30 = N 4 := by
    have := h.2.2.1
    unfold cg_ at this
    simp only [this]
  have hne : e1 ≠ b := by
    rcases hee with ⟨q1, q2⟩ | q
    · rw [q2]; have := sh_lt h.1 q1; omega
    · omega
  have hfs : fq_ (fun q => q = x ∨ q = ga_ G 1 0 ∨ q = (if gc_ G 51 = 0 then ka 200 else ga_ G 51 0)) σ (si_ τ 1214 x 0) := fq_tr (fq_tr (fq_w hf (fun _ z => z.elim)) (fq_w hk (fun _ z => Or.inr z))) (fq_si hk.2.1 (Or.inl rfl))
  have hx0 : ∀ r i, i < gc_ G r → r ≠ 0 → ga_ G r i ≠ x := fun r i hi hr => rc_nx h hi hr
  have hxl : x < nx_ σ := kd_ltn h.1.1 (rc_x h) (by decide)
  have hll : ga_ G 1 0 < nx_ σ := sh_lt h.1 (rc_1 h (by decide))
  have hEl : (if gc_ G 51 = 0 then ka 200 else ga_ G 51 0) < nx_ σ := by
    by_cases z : gc_ G 51 = 0
    · rw [if_pos z]; exact h.2.1.2.2
    · rw [if_neg z]; exact sh_lt h.1 (Nat.pos_of_ne_zero z)
  have hTE : ∀ r i, i < gc_ G r → r ≠ 51 → ga_ G r i ≠ (if gc_ G 51 = 0 then ka 200 else ga_ G 51 0) := fun r i hi hr => by
    by_cases z : gc_ G 51 = 0
    · rw [if_pos z]; exact rc_ka h hi
    · rw [if_neg z]; exact sh_ne h.1 hi (Nat.pos_of_ne_zero z) (Or.inl hr)
  have hsh : sh_ KC LC (si_ τ 1214 x 0) (gy_ (gn_ G 30 b) 51 e1) := by
    have h1 : sh_ KC LC (si_ τ 1214 x 0) G := sh_fq h.1 hfs
    have h2 := sh_gn2 (r := 30) (b := b) h1 (fh_of h.1 hb.1) (fq_kd hk hb.2 (by decide)) (by decide) (fun z => absurd rfl z)
    refine sh_gy h2 ?_ he (by decide) rfl
    rcases hee with ⟨q1, q2⟩ | q
    · exact Or.inr ⟨q1, q2⟩
    · exact Or.inl (fh_gn (fh_of h.1 (Nat.le_trans hf.1.1 q)) hne.symm)
  refine ⟨rc_gen2 h hfs hsh (cg_c1 h.2.2.1) [0, 1, 10, 30, 51] (fun r hr => ?_) h.2.1.1 (fun q hq => ?_) (fun r i m hr h9 => ob_c1 _ b e1 _ hr h9) (fun r i hr hi => ?_), hfs⟩
  · have q1 : r ≠ 30 := fun z => hr (by rw [z]; decide)
    have q2 : r ≠ 51 := fun z => hr (by rw [z]; decide)
    exact ⟨by simp [gy_, gn_, gc_, q1, q2], fun i => by simp [gy_, gn_, ga_, q1, q2]⟩
  · rcases hq with hq | hq | hq
    · exact Or.inl ⟨0, 0, by decide, rc_1 h (by decide), hq.trans h.2.1.1.symm⟩
    · exact Or.inl ⟨1, 0, by decide, rc_1 h (by decide), hq⟩
    · by_cases z : gc_ G 51 = 0
      · rw [if_pos z] at hq; exact Or.inr hq
      · rw [if_neg z] at hq
        exact Or.inl ⟨51, 0, by decide, Nat.pos_of_ne_zero z, hq⟩
  · have hao := ao_1 (ka := ka) (TX := TX) (A := (s3_ (aS A) 0, up2_ (aV A) 7 (N 4) v7, A.2.2)) (G1 := gy_ (gn_ G 30 b) 51 e1) (N1 := fun q => if q = 4 then N 4 + 1 else N q) (τ := τ) (a := ga_ G 1 0) (e1 := e1) hl he ⟨rfl, rfl⟩ (fun j hj => by
      have hj : j < N 4 + 1 := hj
      by_cases z : j = N 4
      · subst z; simp [gy_, gn_, ga_, gc_] ; simp [← hcnt, gc_]
      · have z2 : ¬ j = G.1 30 := by rw [show G.1 30 = N 4 from hcnt]; exact z
        simp [gy_, gn_, ga_, gc_, z, z2])
    simp only [List.mem_cons, List.not_mem_nil, or_false] at hr
    rcases hr with rfl | rfl | rfl | rfl | rfl
    · have : i = 0 := by
        have : i < gc_ G 0 := hi
        exact g0_ h (by decide) this
      subst this
      show ob_ ka TX _ _ _ 0 0 (ce_ (si_ τ 1214 x 0) (ga_ G 0 0))
      rw [h.2.1.1]
      refine ob_0b h 0 _ (fun c => ?_) (fun c c1 => ?_) ?_ (fun r hr => ?_)
      · rw [fr_si, fq_fr hk (Nat.lt_of_lt_of_le hxl hf.1.1) (fun z => ?_) c, fq_fr hf hxl (fun z => z) c]
        rcases z with z | z
        · exact hx0 1 0 (rc_1 h (by decide)) (by decide) z.symm
        · exact hTE 0 0 (rc_1 h (by decide)) (by decide) (h.2.1.1.trans z)
      · rw [fi_si, up2_c c1, fq_fi hk (Nat.lt_of_lt_of_le hxl hf.1.1) (fun z => ?_) c, fq_fi hf hxl (fun z => z) c]
        rcases z with z | z
        · exact hx0 1 0 (rc_1 h (by decide)) (by decide) z.symm
        · exact hTE 0 0 (rc_1 h (by decide)) (by decide) (h.2.1.1.trans z)
      · rw [fi_si, up2_s]
      · have q : ∀ r, r ∈ ([1, 2, 3, 4, 5, 6, 7, 8, 9, 10, 14, 17] : List Nat) → r ≠ 30 ∧ r ≠ 51 := by decide
        obtain ⟨q1, q2⟩ := q r hr
        simp [gy_, gn_, ga_, q1, q2]
    · have : i = 0 := by
        have : i < gc_ G 1 := hi
        exact g0_ h (by decide) this
      subst this
      show ob_ ka TX _ _ _ 1 0 (ce_ (si_ τ 1214 x 0) (ga_ G 1 0))
      rw [ce_si (hx0 1 0 (rc_1 h (by decide)) (by decide))]
      exact hao.1
    · have : i = 0 := by
        have : i < gc_ G 10 := hi
        exact g0_ h (by decide) this
      subst this
      show ob_ ka TX _ _ _ 10 0 (ce_ (si_ τ 1214 x 0) (ga_ G 10 0))
      rw [rc_ce h hfs (rc_1 h (by decide)) (fun z => ?_)]
      · exact ob_10 h 0 (by decide) _
      · rcases z with z | z | z
        · exact hx0 10 0 (rc_1 h (by decide)) (by decide) z
        · exact sh_ne h.1 (rc_1 h (by decide)) (rc_1 h (by decide)) (Or.inl (by decide)) z
        · exact hTE 10 0 (rc_1 h (by decide)) (by decide) z
    · have hi' : i < gc_ G 30 + 1 := hi
      by_cases z : i = gc_ G 30
      · have eb : ga_ (gy_ (gn_ G 30 b) 51 e1) 30 i = b := by rw [z]; simp [gy_, gn_, ga_, gc_]
        have hbl : b ≠ ga_ G 1 0 := by omega
        have hbE : b ≠ (if gc_ G 51 = 0 then ka 200 else ga_ G 51 0) := by omega
        rw [eb, ce_si (show b ≠ x by omega), hk.2.2 b hbs (fun q => q.elim hbl hbE)]
        rw [hcnt] at z
        subst z
        refine ⟨?_, ?_, ?_⟩
        · exact hs.1.trans (up2_s).symm
        · show fi_ s 1101 b = bi_ (aV A 14 (N 4) = 0)
          rw [hs.2, hD.1 (N 4) (Nat.le_refl _) hcap]; rfl
        · exact Or.inl (hD.1 (N 4) (Nat.le_refl _) hcap)
      · have eb : ga_ (gy_ (gn_ G 30 b) 51 e1) 30 i = ga_ G 30 i := by
          have z2 : ¬ i = G.1 30 := z
          simp [gy_, gn_, ga_, gc_, z2]
        have hio : i < gc_ G 30 := by omega
        have z3 : i ≠ N 4 := by rw [← hcnt]; exact z
        rw [eb, rc_ce h hfs hio (fun z => ?_)]
        · have q := h.2.2.2 30 i hio
          refine ⟨q.1.trans ?_, q.2⟩
          exact (up2_n z3).symm
        · rcases z with z | z | z
          · exact hx0 30 i hio (by decide) z
          · exact sh_ne h.1 hio (rc_1 h (by decide)) (Or.inl (by decide)) z
          · exact hTE 30 i hio (by decide) z
    · have : i = 0 := by
        have : i < 1 := hi
        omega
      subst this
      show ob_ ka TX _ _ _ 51 0 (ce_ (si_ τ 1214 x 0) e1)
      rw [ce_si (fun z => by
        rcases hee with ⟨q1, q2⟩ | q
        · exact hx0 51 0 q1 (by decide) (q2.symm.trans z)
        · have := hf.1.1
          omega)]
      exact hao.2
end C60
