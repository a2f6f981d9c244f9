/-! CALLS that make one more: writer, picture, ask. Written by wip/b/mk60.py. -/
section FQN
variable {T : Nat → Prop} {σ τ : TH} {a c i : Nat}
theorem fq_sin {v : Int32} (h : fq_ T σ τ) (ha : nx_ σ ≤ a) : fq_ T σ (si_ τ c a v) := ⟨tl_tr h.1 (tl_si _ _ _ _), h.2.1, fun q hq hT => (ce_si (by omega)).trans (h.2.2 q hq hT)⟩
theorem fq_srn {v : Option Nat} (h : fq_ T σ τ) (ha : nx_ σ ≤ a) : fq_ T σ (sr_ τ c a v) := ⟨tl_tr h.1 (tl_sr _ _ _ _), h.2.1, fun q hq hT => (ce_sr (by omega)).trans (h.2.2 q hq hT)⟩
theorem fq_san {v : Int32} (h : fq_ T σ τ) (ha : nx_ σ ≤ a) : fq_ T σ (sa_ τ a i v) := ⟨tl_tr h.1 (tl_sa _ _ _ _), h.2.1, fun q hq hT => (ce_sa (by omega)).trans (h.2.2 q hq hT)⟩
theorem fq_sqn {v : Option Nat} (h : fq_ T σ τ) (ha : nx_ σ ≤ a) : fq_ T σ (sq_ τ a i v) := ⟨tl_tr h.1 (tl_sq _ _ _ _), h.2.1, fun q hq hT => (ce_sq (by omega)).trans (h.2.2 q hq hT)⟩
theorem fqi {v : Int32} (h : fq_ T σ τ) (ha : T a) : fq_ T σ (si_ τ c a v) := fq_tr h (fq_si h.2.1 ha)
theorem fqr {v : Option Nat} (h : fq_ T σ τ) (ha : T a) : fq_ T σ (sr_ τ c a v) := fq_tr h (fq_sr h.2.1 ha)
theorem fqa {v : Int32} (h : fq_ T σ τ) (ha : T a) : fq_ T σ (sa_ τ a i v) := fq_tr h (fq_sa h.2.1 ha)
theorem fqq {v : Option Nat} (h : fq_ T σ τ) (ha : T a) : fq_ T σ (sq_ τ a i v) := fq_tr h (fq_sq h.2.1 ha)
theorem fqo {v : Int64} (h : fq_ T σ τ) (ha : T a) : fq_ T σ (so_ τ c a v) := fq_tr h (fq_so h.2.1 ha)
theorem fqt {v : Int32} (h : fq_ T σ τ) (ha : T a) : fq_ T σ (tr_ τ a v) := fqi (fqi h ha) ha
theorem fq_nwn {k n w : Nat} (h : fq_ T σ τ) (hk : k ≠ 0) : fq_ T σ (nw_ τ k n w) := fq_tr h (fq_nw h.2.1 hk)
end FQN
/-- kinds known in σ stand in τ -/
theorem fq_kd {T : Nat → Prop} {σ τ : TH} (h : fq_ T σ τ) {q k : Nat} (hq : kd_ σ q = k) (hk : k ≠ 0) : kd_ τ q = k := by
  rw [(h.1.2.2.2.2 q (by rw [hq]; exact hk)).1]; exact hq
theorem fq_fr {T : Nat → Prop} {σ τ : TH} (h : fq_ T σ τ) {q : Nat} (hq : q < nx_ σ) (hT : ¬ T q) (c : Nat) : fr_ τ c q = fr_ σ c q := congrFun (congrArg (fun z => z.2.2.1) (h.2.2 q hq hT)) c
theorem fq_fi {T : Nat → Prop} {σ τ : TH} (h : fq_ T σ τ) {q : Nat} (hq : q < nx_ σ) (hT : ¬ T q) (c : Nat) : fi_ τ c q = fi_ σ c q := congrFun (congrArg (fun z => z.2.1) (h.2.2 q hq hT)) c
theorem kd_ltn {σ : TH} (hw : wf_ σ) {q k : Nat} (hq : kd_ σ q = k) (hk : k ≠ 0) : q < nx_ σ := (hw.2 q (hw.1 q (by rw [hq]; exact hk))).1
theorem nI_c {n : Nat} {c : Int32} {k : Nat} (e : c = nI k) (h : n < k) (hk : k < 2 ^ 31) : nI n < c := by rw [e]; exact nI_lt h hk
theorem nI_cn {n : Nat} {c : Int32} {k : Nat} (e : c = nI k) (h : n ≠ k) (hn : n < 2 ^ 31) (hk : k < 2 ^ 31) : ¬ nI n = c := by rw [e]; exact fun z => h ((nI_eq hn hk).mp z)
section C60
variable {ka : Nat → Nat} {TX : Nat → Nat → (Nat → Int32) → Nat → (Nat → Int32) → Prop} {x y o N0 : Nat}
theorem ob_c1 {A : AS} {G : GH} {N : Nat → Nat} {r i : Nat} {m : CE} (S : Nat → Int32) (b e1 : Nat) (v7 : Int32) (hd : ¬ r ∈ ([0, 1, 10, 30, 51] : List Nat)) (h : ob_ ka TX A G N r i m) : ob_ ka TX (S, up2_ (aV A) 7 (N 4) v7, A.2.2) (gy_ (gn_ G 30 b) 51 e1) (fun q => if q = 4 then N 4 + 1 else N q) r i m := by
  match r, hd, h with
  | 0, hd, h => exact absurd (by decide) hd
  | 1, hd, h => exact absurd (by decide) hd
  | 2, hd, h => exact h
  | 3, hd, h => exact h
  | 4, hd, h => exact h
  | 5, hd, h => exact h
  | 6, hd, h => exact h
  | 7, hd, h => exact h
  | 8, hd, h => exact h
  | 9, hd, h => exact h
  | 10, hd, h => exact absurd (by decide) hd
  | 11, hd, h => exact h
  | 12, hd, h => exact h
  | 13, hd, h => exact h
  | 14, hd, h => exact h
  | 15, hd, h => exact h
  | 16, hd, h => exact h
  | 17, hd, h => exact h
  | 18, hd, h => exact h
  | 19, hd, h => exact h
  | 20, hd, h => exact h
  | 21, hd, h => exact h
  | 22, hd, h => exact h
  | 23, hd, h => exact h
  | 24, hd, h => exact h
  | 25, hd, h => exact h
  | 26, hd, h => exact h
  | 27, hd, h => exact h
  | 28, hd, h => exact h
  | 29, hd, h => exact h
  | 30, hd, h => exact absurd (by decide) hd
  | 31, hd, h => exact h
  | 32, hd, h => exact h
  | 33, hd, h => exact h
  | 34, hd, h => exact h
  | 35, hd, h => exact h
  | 36, hd, h => exact h
  | 37, hd, h => exact h
  | 38, hd, h => exact h
  | 39, hd, h => exact h
  | 40, hd, h => exact h
  | 41, hd, h => exact h
  | 42, hd, h => exact h
  | 43, hd, h => exact h
  | 44, hd, h => exact h
  | 45, hd, h => exact h
  | 46, hd, h => exact h
  | 47, hd, h => exact h
  | 48, hd, h => exact h
  | 49, hd, h => exact h
  | 50, hd, h => exact h
  | 51, hd, h => exact absurd (by decide) hd
  | 52, hd, h => exact h
  | 53, hd, h => exact h
  | 54, hd, h => exact h
  | 55, hd, h => exact h
  | 56, hd, h => exact h
  | 57, hd, h => exact h
  | 58, hd, h => exact h
  | r + 59, hd, h => exact h
theorem cg_c1 {G : GH} {N : Nat → Nat} {b e1 : Nat} (h : cg_ G N) : cg_ (gy_ (gn_ G 30 b) 51 e1) (fun q => if q = 4 then N 4 + 1 else N q) := by
  obtain ⟨h0, h30, h31, h32, h33, h34, h35, h36, h37, h38, h39, h40, h41, h42, h43, h44, h45, h46, h47, h48⟩ := h
  refine ⟨fun r hr => ?_, ?_, h31, h32, h33, h34, h35, h36, h37, h38, h39, h40, h41, h42, h43, h44, h45, h46, h47, h48⟩
  · have h9 : ∀ r, r ∈ ([0, 1, 2, 3, 4, 5, 6, 7, 8, 9, 10, 11, 12, 13, 14, 15, 16, 17, 18, 19, 20, 21, 22] : List Nat) → r ≠ 30 ∧ r ≠ 51 := by decide
    have := h9 r hr
    show gc_ (gy_ (gn_ G 30 b) 51 e1) r = 1
    refine Eq.trans ?_ (h0 r hr)
    simp [gy_, gn_, gc_, this]
  · show gc_ (gy_ (gn_ G 30 b) 51 e1) 30 = (fun q => if q = 4 then N 4 + 1 else N q) 4
    simp [gy_, gn_, gc_] at *
    omega
theorem rc_c1 {σ s τ : TH} {G : GH} {A : AS} {N : Nat → Nat} {b e1 : Nat} {v7 : Int32} (h : rc_ ka TX σ x G A N) (hD : pvD A N) (hcap : N 4 < 6) (hf : fq_ (fun _ => False) σ s) (hb : nx_ σ ≤ b ∧ kd_ s b = 12) (hs : fi_ s 1100 b = v7 ∧ fi_ s 1101 b = 1) (hk : fq_ (fun q => q = ga_ G 1 0 ∨ q = (if gc_ G 51 = 0 then ka 200 else ga_ G 51 0)) s τ) (he : kd_ τ e1 = 24) (hee : (0 < gc_ G 51 ∧ e1 = ga_ G 51 0) ∨ nx_ s ≤ e1) (hl : ls_ ka τ (ga_ G 1 0) e1 (N 4 + 1) (fun i => if i = N 4 then b else ga_ G 30 i)) : rc_ ka TX (si_ τ 1214 x 0) x (gy_ (gn_ G 30 b) 51 e1) (s3_ (aS A) 0, up2_ (aV A) 7 (N 4) v7, A.2.2) (fun q => if q = 4 then N 4 + 1 else N q) ∧ fq_ (fun q => q = x ∨ q = ga_ G 1 0 ∨ q = (if gc_ G 51 = 0 then ka 200 else ga_ G 51 0)) σ (si_ τ 1214 x 0) := by
  have hbs : b < nx_ s := kd_ltn hf.2.1 hb.2 (by decide)
  have hcnt : gc_ G 30 = N 4 := by
    have := h.2.2.1
    unfold cg_ at this
    simp only [this]
  have hne : e1 ≠ b := by
    rcases hee with ⟨q1, q2⟩ | q
    · rw [q2]; have := sh_lt h.1 q1; omega
    · omega
  have hfs : fq_ (fun q => q = x ∨ q = ga_ G 1 0 ∨ q = (if gc_ G 51 = 0 then ka 200 else ga_ G 51 0)) σ (si_ τ 1214 x 0) := fq_tr (fq_tr (fq_w hf (fun _ z => z.elim)) (fq_w hk (fun _ z => Or.inr z))) (fq_si hk.2.1 (Or.inl rfl))
  have hx0 : ∀ r i, i < gc_ G r → r ≠ 0 → ga_ G r i ≠ x := fun r i hi hr => rc_nx h hi hr
  have hxl : x < nx_ σ := kd_ltn h.1.1 (rc_x h) (by decide)
  have hll : ga_ G 1 0 < nx_ σ := sh_lt h.1 (rc_1 h (by decide))
  have hEl : (if gc_ G 51 = 0 then ka 200 else ga_ G 51 0) < nx_ σ := by
    by_cases z : gc_ G 51 = 0
    · rw [if_pos z]; exact h.2.1.2.2
    · rw [if_neg z]; exact sh_lt h.1 (Nat.pos_of_ne_zero z)
  have hTE : ∀ r i, i < gc_ G r → r ≠ 51 → ga_ G r i ≠ (if gc_ G 51 = 0 then ka 200 else ga_ G 51 0) := fun r i hi hr => by
    by_cases z : gc_ G 51 = 0
    · rw [if_pos z]; exact rc_ka h hi
    · rw [if_neg z]; exact sh_ne h.1 hi (Nat.pos_of_ne_zero z) (Or.inl hr)
  have hsh : sh_ KC LC (si_ τ 1214 x 0) (gy_ (gn_ G 30 b) 51 e1) := by
    have h1 : sh_ KC LC (si_ τ 1214 x 0) G := sh_fq h.1 hfs
    have h2 := sh_gn2 (r := 30) (b := b) h1 (fh_of h.1 hb.1) (fq_kd hk hb.2 (by decide)) (by decide) (fun z => absurd rfl z)
    refine sh_gy h2 ?_ he (by decide) rfl
    rcases hee with ⟨q1, q2⟩ | q
    · exact Or.inr ⟨q1, q2⟩
    · exact Or.inl (fh_gn (fh_of h.1 (Nat.le_trans hf.1.1 q)) hne.symm)
  refine ⟨rc_gen2 h hfs hsh (cg_c1 h.2.2.1) [0, 1, 10, 30, 51] (fun r hr => ?_) h.2.1.1 (fun q hq => ?_) (fun r i m hr h9 => ob_c1 _ b e1 _ hr h9) (fun r i hr hi => ?_), hfs⟩
  · have q1 : r ≠ 30 := fun z => hr (by rw [z]; decide)
    have q2 : r ≠ 51 := fun z => hr (by rw [z]; decide)
    exact ⟨by simp [gy_, gn_, gc_, q1, q2], fun i => by simp [gy_, gn_, ga_, q1, q2]⟩
  · rcases hq with hq | hq | hq
    · exact Or.inl ⟨0, 0, by decide, rc_1 h (by decide), hq.trans h.2.1.1.symm⟩
    · exact Or.inl ⟨1, 0, by decide, rc_1 h (by decide), hq⟩
    · by_cases z : gc_ G 51 = 0
      · rw [if_pos z] at hq; exact Or.inr hq
      · rw [if_neg z] at hq
        exact Or.inl ⟨51, 0, by decide, Nat.pos_of_ne_zero z, hq⟩
  · have hao := ao_1 (ka := ka) (TX := TX) (A := (s3_ (aS A) 0, up2_ (aV A) 7 (N 4) v7, A.2.2)) (G1 := gy_ (gn_ G 30 b) 51 e1) (N1 := fun q => if q = 4 then N 4 + 1 else N q) (τ := τ) (a := ga_ G 1 0) (e1 := e1) hl he ⟨rfl, rfl⟩ (fun j hj => by
      have hj : j < N 4 + 1 := hj
      by_cases z : j = N 4
      · subst z; simp [gy_, gn_, ga_, gc_] ; simp [← hcnt, gc_]
      · have z2 : ¬ j = G.1 30 := by rw [show G.1 30 = N 4 from hcnt]; exact z
        simp [gy_, gn_, ga_, gc_, z, z2])
    simp only [List.mem_cons, List.not_mem_nil, or_false] at hr
    rcases hr with rfl | rfl | rfl | rfl | rfl
    · have : i = 0 := by
        have : i < gc_ G 0 := hi
        exact g0_ h (by decide) this
      subst this
      show ob_ ka TX _ _ _ 0 0 (ce_ (si_ τ 1214 x 0) (ga_ G 0 0))
      rw [h.2.1.1]
      refine ob_0b h 0 _ (fun c => ?_) (fun c c1 => ?_) ?_ (fun r hr => ?_)
      · rw [fr_si, fq_fr hk (Nat.lt_of_lt_of_le hxl hf.1.1) (fun z => ?_) c, fq_fr hf hxl (fun z => z) c]
        rcases z with z | z
        · exact hx0 1 0 (rc_1 h (by decide)) (by decide) z.symm
        · exact hTE 0 0 (rc_1 h (by decide)) (by decide) (h.2.1.1.trans z)
      · rw [fi_si, up2_c c1, fq_fi hk (Nat.lt_of_lt_of_le hxl hf.1.1) (fun z => ?_) c, fq_fi hf hxl (fun z => z) c]
        rcases z with z | z
        · exact hx0 1 0 (rc_1 h (by decide)) (by decide) z.symm
        · exact hTE 0 0 (rc_1 h (by decide)) (by decide) (h.2.1.1.trans z)
      · rw [fi_si, up2_s]
      · have q : ∀ r, r ∈ ([1, 2, 3, 4, 5, 6, 7, 8, 9, 10, 14, 17] : List Nat) → r ≠ 30 ∧ r ≠ 51 := by decide
        obtain ⟨q1, q2⟩ := q r hr
        simp [gy_, gn_, ga_, q1, q2]
    · have : i = 0 := by
        have : i < gc_ G 1 := hi
        exact g0_ h (by decide) this
      subst this
      show ob_ ka TX _ _ _ 1 0 (ce_ (si_ τ 1214 x 0) (ga_ G 1 0))
      rw [ce_si (hx0 1 0 (rc_1 h (by decide)) (by decide))]
      exact hao.1
    · have : i = 0 := by
        have : i < gc_ G 10 := hi
        exact g0_ h (by decide) this
      subst this
      show ob_ ka TX _ _ _ 10 0 (ce_ (si_ τ 1214 x 0) (ga_ G 10 0))
      rw [rc_ce h hfs (rc_1 h (by decide)) (fun z => ?_)]
      · exact ob_10 h 0 (by decide) _
      · rcases z with z | z | z
        · exact hx0 10 0 (rc_1 h (by decide)) (by decide) z
        · exact sh_ne h.1 (rc_1 h (by decide)) (rc_1 h (by decide)) (Or.inl (by decide)) z
        · exact hTE 10 0 (rc_1 h (by decide)) (by decide) z
    · have hi' : i < gc_ G 30 + 1 := hi
      by_cases z : i = gc_ G 30
      · have eb : ga_ (gy_ (gn_ G 30 b) 51 e1) 30 i = b := by rw [z]; simp [gy_, gn_, ga_, gc_]
        have hbl : b ≠ ga_ G 1 0 := by omega
        have hbE : b ≠ (if gc_ G 51 = 0 then ka 200 else ga_ G 51 0) := by omega
        rw [eb, ce_si (show b ≠ x by omega), hk.2.2 b hbs (fun q => q.elim hbl hbE)]
        rw [hcnt] at z
        subst z
        refine ⟨?_, ?_, ?_⟩
        · exact hs.1.trans (up2_s).symm
        · show fi_ s 1101 b = bi_ (aV A 14 (N 4) = 0)
          rw [hs.2, hD.1 (N 4) (Nat.le_refl _) hcap]; rfl
        · exact Or.inl (hD.1 (N 4) (Nat.le_refl _) hcap)
      · have eb : ga_ (gy_ (gn_ G 30 b) 51 e1) 30 i = ga_ G 30 i := by
          have z2 : ¬ i = G.1 30 := z
          simp [gy_, gn_, ga_, gc_, z2]
        have hio : i < gc_ G 30 := by omega
        have z3 : i ≠ N 4 := by rw [← hcnt]; exact z
        rw [eb, rc_ce h hfs hio (fun z => ?_)]
        · have q := h.2.2.2 30 i hio
          refine ⟨q.1.trans ?_, q.2⟩
          exact (up2_n z3).symm
        · rcases z with z | z | z
          · exact hx0 30 i hio (by decide) z
          · exact sh_ne h.1 hio (rc_1 h (by decide)) (Or.inl (by decide)) z
          · exact hTE 30 i hio (by decide) z
    · have : i = 0 := by
        have : i < 1 := hi
        omega
      subst this
      show ob_ ka TX _ _ _ 51 0 (ce_ (si_ τ 1214 x 0) e1)
      rw [ce_si (fun z => by
        rcases hee with ⟨q1, q2⟩ | q
        · exact hx0 51 0 q1 (by decide) (q2.symm.trans z)
        · have := hf.1.1
          omega)]
      exact hao.2
theorem ob_c5 {A : AS} {G : GH} {N : Nat → Nat} {r i : Nat} {m : CE} (S : Nat → Int32) (b e1 : Nat) (v72 v73 v74 v75 v76 : Int32) (hd : ¬ r ∈ ([0, 5, 10, 44, 55] : List Nat)) (h : ob_ ka TX A G N r i m) : ob_ ka TX (S, up2_ (up2_ (up2_ (up2_ (up2_ (aV A) 72 (N 69) v72) 73 (N 69) v73) 74 (N 69) v74) 75 (N 69) v75) 76 (N 69) v76, A.2.2) (gy_ (gn_ G 44 b) 55 e1) (fun q => if q = 69 then N 69 + 1 else N q) r i m := by
  match r, hd, h with
  | 0, hd, h => exact absurd (by decide) hd
  | 1, hd, h => exact h
  | 2, hd, h => exact h
  | 3, hd, h => exact h
  | 4, hd, h => exact h
  | 5, hd, h => exact absurd (by decide) hd
  | 6, hd, h => exact h
  | 7, hd, h => exact h
  | 8, hd, h => exact h
  | 9, hd, h => exact h
  | 10, hd, h => exact absurd (by decide) hd
  | 11, hd, h => exact h
  | 12, hd, h => exact h
  | 13, hd, h => exact h
  | 14, hd, h => exact h
  | 15, hd, h => exact h
  | 16, hd, h => exact h
  | 17, hd, h => exact h
  | 18, hd, h => exact h
  | 19, hd, h => exact h
  | 20, hd, h => exact h
  | 21, hd, h => exact h
  | 22, hd, h => exact h
  | 23, hd, h => exact h
  | 24, hd, h => exact h
  | 25, hd, h => exact h
  | 26, hd, h => exact h
  | 27, hd, h => exact h
  | 28, hd, h => exact h
  | 29, hd, h => exact h
  | 30, hd, h => exact h
  | 31, hd, h => exact h
  | 32, hd, h => exact h
  | 33, hd, h => exact h
  | 34, hd, h => exact h
  | 35, hd, h => exact h
  | 36, hd, h => exact h
  | 37, hd, h => exact h
  | 38, hd, h => exact h
  | 39, hd, h => exact h
  | 40, hd, h => exact h
  | 41, hd, h => exact h
  | 42, hd, h => exact h
  | 43, hd, h => exact h
  | 44, hd, h => exact absurd (by decide) hd
  | 45, hd, h => exact h
  | 46, hd, h => exact h
  | 47, hd, h => exact h
  | 48, hd, h => exact h
  | 49, hd, h => exact h
  | 50, hd, h => exact h
  | 51, hd, h => exact h
  | 52, hd, h => exact h
  | 53, hd, h => exact h
  | 54, hd, h => exact h
  | 55, hd, h => exact absurd (by decide) hd
  | 56, hd, h => exact h
  | 57, hd, h => exact h
  | 58, hd, h => exact h
  | r + 59, hd, h => exact h
theorem cg_c5 {G : GH} {N : Nat → Nat} {b e1 : Nat} (h : cg_ G N) : cg_ (gy_ (gn_ G 44 b) 55 e1) (fun q => if q = 69 then N 69 + 1 else N q) := by
  obtain ⟨h0, h30, h31, h32, h33, h34, h35, h36, h37, h38, h39, h40, h41, h42, h43, h44, h45, h46, h47, h48⟩ := h
  refine ⟨fun r hr => ?_, h30, h31, h32, h33, h34, h35, h36, h37, h38, h39, h40, h41, h42, h43, ?_, h45, h46, h47, h48⟩
  · have h9 : ∀ r, r ∈ ([0, 1, 2, 3, 4, 5, 6, 7, 8, 9, 10, 11, 12, 13, 14, 15, 16, 17, 18, 19, 20, 21, 22] : List Nat) → r ≠ 44 ∧ r ≠ 55 := by decide
    have := h9 r hr
    show gc_ (gy_ (gn_ G 44 b) 55 e1) r = 1
    refine Eq.trans ?_ (h0 r hr)
    simp [gy_, gn_, gc_, this]
  · show gc_ (gy_ (gn_ G 44 b) 55 e1) 44 = (fun q => if q = 69 then N 69 + 1 else N q) 69
    simp [gy_, gn_, gc_] at *
    omega
theorem rc_c5 {σ s τ : TH} {G : GH} {A : AS} {N : Nat → Nat} {b e1 : Nat} {v72 v73 v74 v75 v76 : Int32} (h : rc_ ka TX σ x G A N) (hD : pvD A N) (hcap : N 69 < 40) (hf : fq_ (fun _ => False) σ s) (hb : nx_ σ ≤ b ∧ kd_ s b = 5) (hs : fi_ s 400 b = v72 ∧ fi_ s 401 b = v73 ∧ fi_ s 402 b = v74 ∧ fi_ s 403 b = v75 ∧ fi_ s 404 b = v76 ∧ fi_ s 405 b = 0) (hk : fq_ (fun q => q = ga_ G 5 0 ∨ q = (if gc_ G 55 = 0 then ka 200 else ga_ G 55 0)) s τ) (he : kd_ τ e1 = 24) (hee : (0 < gc_ G 55 ∧ e1 = ga_ G 55 0) ∨ nx_ s ≤ e1) (hl : ls_ ka τ (ga_ G 5 0) e1 (N 69 + 1) (fun i => if i = N 69 then b else ga_ G 44 i)) : rc_ ka TX (si_ τ 1214 x 0) x (gy_ (gn_ G 44 b) 55 e1) (s3_ (aS A) 0, up2_ (up2_ (up2_ (up2_ (up2_ (aV A) 72 (N 69) v72) 73 (N 69) v73) 74 (N 69) v74) 75 (N 69) v75) 76 (N 69) v76, A.2.2) (fun q => if q = 69 then N 69 + 1 else N q) ∧ fq_ (fun q => q = x ∨ q = ga_ G 5 0 ∨ q = (if gc_ G 55 = 0 then ka 200 else ga_ G 55 0)) σ (si_ τ 1214 x 0) := by
  have hbs : b < nx_ s := kd_ltn hf.2.1 hb.2 (by decide)
  have hcnt : gc_ G 44 = N 69 := by
    have := h.2.2.1
    unfold cg_ at this
    simp only [this]
  have hne : e1 ≠ b := by
    rcases hee with ⟨q1, q2⟩ | q
    · rw [q2]; have := sh_lt h.1 q1; omega
    · omega
  have hfs : fq_ (fun q => q = x ∨ q = ga_ G 5 0 ∨ q = (if gc_ G 55 = 0 then ka 200 else ga_ G 55 0)) σ (si_ τ 1214 x 0) := fq_tr (fq_tr (fq_w hf (fun _ z => z.elim)) (fq_w hk (fun _ z => Or.inr z))) (fq_si hk.2.1 (Or.inl rfl))
  have hx0 : ∀ r i, i < gc_ G r → r ≠ 0 → ga_ G r i ≠ x := fun r i hi hr => rc_nx h hi hr
  have hxl : x < nx_ σ := kd_ltn h.1.1 (rc_x h) (by decide)
  have hll : ga_ G 5 0 < nx_ σ := sh_lt h.1 (rc_1 h (by decide))
  have hEl : (if gc_ G 55 = 0 then ka 200 else ga_ G 55 0) < nx_ σ := by
    by_cases z : gc_ G 55 = 0
    · rw [if_pos z]; exact h.2.1.2.2
    · rw [if_neg z]; exact sh_lt h.1 (Nat.pos_of_ne_zero z)
  have hTE : ∀ r i, i < gc_ G r → r ≠ 55 → ga_ G r i ≠ (if gc_ G 55 = 0 then ka 200 else ga_ G 55 0) := fun r i hi hr => by
    by_cases z : gc_ G 55 = 0
    · rw [if_pos z]; exact rc_ka h hi
    · rw [if_neg z]; exact sh_ne h.1 hi (Nat.pos_of_ne_zero z) (Or.inl hr)
  have hsh : sh_ KC LC (si_ τ 1214 x 0) (gy_ (gn_ G 44 b) 55 e1) := by
    have h1 : sh_ KC LC (si_ τ 1214 x 0) G := sh_fq h.1 hfs
    have h2 := sh_gn2 (r := 44) (b := b) h1 (fh_of h.1 hb.1) (fq_kd hk hb.2 (by decide)) (by decide) (fun z => absurd rfl z)
    refine sh_gy h2 ?_ he (by decide) rfl
    rcases hee with ⟨q1, q2⟩ | q
    · exact Or.inr ⟨q1, q2⟩
    · exact Or.inl (fh_gn (fh_of h.1 (Nat.le_trans hf.1.1 q)) hne.symm)
  refine ⟨rc_gen2 h hfs hsh (cg_c5 h.2.2.1) [0, 5, 10, 44, 55] (fun r hr => ?_) h.2.1.1 (fun q hq => ?_) (fun r i m hr h9 => ob_c5 _ b e1 _ _ _ _ _ hr h9) (fun r i hr hi => ?_), hfs⟩
  · have q1 : r ≠ 44 := fun z => hr (by rw [z]; decide)
    have q2 : r ≠ 55 := fun z => hr (by rw [z]; decide)
    exact ⟨by simp [gy_, gn_, gc_, q1, q2], fun i => by simp [gy_, gn_, ga_, q1, q2]⟩
  · rcases hq with hq | hq | hq
    · exact Or.inl ⟨0, 0, by decide, rc_1 h (by decide), hq.trans h.2.1.1.symm⟩
    · exact Or.inl ⟨5, 0, by decide, rc_1 h (by decide), hq⟩
    · by_cases z : gc_ G 55 = 0
      · rw [if_pos z] at hq; exact Or.inr hq
      · rw [if_neg z] at hq
        exact Or.inl ⟨55, 0, by decide, Nat.pos_of_ne_zero z, hq⟩
  · have hao := ao_5 (ka := ka) (TX := TX) (A := (s3_ (aS A) 0, up2_ (up2_ (up2_ (up2_ (up2_ (aV A) 72 (N 69) v72) 73 (N 69) v73) 74 (N 69) v74) 75 (N 69) v75) 76 (N 69) v76, A.2.2)) (G1 := gy_ (gn_ G 44 b) 55 e1) (N1 := fun q => if q = 69 then N 69 + 1 else N q) (τ := τ) (a := ga_ G 5 0) (e1 := e1) hl he ⟨rfl, rfl⟩ (fun j hj => by
      have hj : j < N 69 + 1 := hj
      by_cases z : j = N 69
      · subst z; simp [gy_, gn_, ga_, gc_] ; simp [← hcnt, gc_]
      · have z2 : ¬ j = G.1 44 := by rw [show G.1 44 = N 69 from hcnt]; exact z
        simp [gy_, gn_, ga_, gc_, z, z2])
    simp only [List.mem_cons, List.not_mem_nil, or_false] at hr
    rcases hr with rfl | rfl | rfl | rfl | rfl
    · have : i = 0 := by
        have : i < gc_ G 0 := hi
        exact g0_ h (by decide) this
      subst this
      show ob_ ka TX _ _ _ 0 0 (ce_ (si_ τ 1214 x 0) (ga_ G 0 0))
      rw [h.2.1.1]
      refine ob_0b h 0 _ (fun c => ?_) (fun c c1 => ?_) ?_ (fun r hr => ?_)
      · rw [fr_si, fq_fr hk (Nat.lt_of_lt_of_le hxl hf.1.1) (fun z => ?_) c, fq_fr hf hxl (fun z => z) c]
        rcases z with z | z
        · exact hx0 5 0 (rc_1 h (by decide)) (by decide) z.symm
        · exact hTE 0 0 (rc_1 h (by decide)) (by decide) (h.2.1.1.trans z)
      · rw [fi_si, up2_c c1, fq_fi hk (Nat.lt_of_lt_of_le hxl hf.1.1) (fun z => ?_) c, fq_fi hf hxl (fun z => z) c]
        rcases z with z | z
        · exact hx0 5 0 (rc_1 h (by decide)) (by decide) z.symm
        · exact hTE 0 0 (rc_1 h (by decide)) (by decide) (h.2.1.1.trans z)
      · rw [fi_si, up2_s]
      · have q : ∀ r, r ∈ ([1, 2, 3, 4, 5, 6, 7, 8, 9, 10, 14, 17] : List Nat) → r ≠ 44 ∧ r ≠ 55 := by decide
        obtain ⟨q1, q2⟩ := q r hr
        simp [gy_, gn_, ga_, q1, q2]
    · have : i = 0 := by
        have : i < gc_ G 5 := hi
        exact g0_ h (by decide) this
      subst this
      show ob_ ka TX _ _ _ 5 0 (ce_ (si_ τ 1214 x 0) (ga_ G 5 0))
      rw [ce_si (hx0 5 0 (rc_1 h (by decide)) (by decide))]
      exact hao.1
    · have : i = 0 := by
        have : i < gc_ G 10 := hi
        exact g0_ h (by decide) this
      subst this
      show ob_ ka TX _ _ _ 10 0 (ce_ (si_ τ 1214 x 0) (ga_ G 10 0))
      rw [rc_ce h hfs (rc_1 h (by decide)) (fun z => ?_)]
      · exact ob_10 h 0 (by decide) _
      · rcases z with z | z | z
        · exact hx0 10 0 (rc_1 h (by decide)) (by decide) z
        · exact sh_ne h.1 (rc_1 h (by decide)) (rc_1 h (by decide)) (Or.inl (by decide)) z
        · exact hTE 10 0 (rc_1 h (by decide)) (by decide) z
    · have hi' : i < gc_ G 44 + 1 := hi
      by_cases z : i = gc_ G 44
      · have eb : ga_ (gy_ (gn_ G 44 b) 55 e1) 44 i = b := by rw [z]; simp [gy_, gn_, ga_, gc_]
        have hbl : b ≠ ga_ G 5 0 := by omega
        have hbE : b ≠ (if gc_ G 55 = 0 then ka 200 else ga_ G 55 0) := by omega
        rw [eb, ce_si (show b ≠ x by omega), hk.2.2 b hbs (fun q => q.elim hbl hbE)]
        rw [hcnt] at z
        subst z
        refine ⟨?_, ?_, ?_, ?_, ?_, ?_⟩
        · show fi_ s 400 b = up2_ (aV A) 72 (N 69) v72 72 (N 69)
          rw [up2_s]; exact hs.1
        · show fi_ s 401 b = up2_ (up2_ (aV A) 72 (N 69) v72) 73 (N 69) v73 73 (N 69)
          rw [up2_s]; exact hs.2.1
        · show fi_ s 402 b = up2_ (up2_ (up2_ (aV A) 72 (N 69) v72) 73 (N 69) v73) 74 (N 69) v74 74 (N 69)
          rw [up2_s]; exact hs.2.2.1
        · show fi_ s 403 b = up2_ (up2_ (up2_ (up2_ (aV A) 72 (N 69) v72) 73 (N 69) v73) 74 (N 69) v74) 75 (N 69) v75 75 (N 69)
          rw [up2_s]; exact hs.2.2.2.1
        · show fi_ s 404 b = up2_ (up2_ (up2_ (up2_ (up2_ (aV A) 72 (N 69) v72) 73 (N 69) v73) 74 (N 69) v74) 75 (N 69) v75) 76 (N 69) v76 76 (N 69)
          rw [up2_s]; exact hs.2.2.2.2.1
        · show fi_ s 405 b = aV A 77 (N 69)
          rw [hD.2.2.2.1 (N 69) (Nat.le_refl _) hcap]; exact hs.2.2.2.2.2
      · have eb : ga_ (gy_ (gn_ G 44 b) 55 e1) 44 i = ga_ G 44 i := by
          have z2 : ¬ i = G.1 44 := z
          simp [gy_, gn_, ga_, gc_, z2]
        have hio : i < gc_ G 44 := by omega
        have z3 : i ≠ N 69 := by rw [← hcnt]; exact z
        rw [eb, rc_ce h hfs hio (fun z => ?_)]
        · have q := h.2.2.2 44 i hio
          obtain ⟨q0, q1, q2, q3, q4, q5⟩ := q
          refine ⟨q0.trans ?_, q1.trans ?_, q2.trans ?_, q3.trans ?_, q4.trans ?_, q5⟩
          · show aV A 72 i = up2_ (aV A) 72 (N 69) v72 72 i
            rw [up2_n z3]
          · show aV A 73 i = up2_ (up2_ (aV A) 72 (N 69) v72) 73 (N 69) v73 73 i
            rw [up2_n z3]
            rfl
          · show aV A 74 i = up2_ (up2_ (up2_ (aV A) 72 (N 69) v72) 73 (N 69) v73) 74 (N 69) v74 74 i
            rw [up2_n z3]
            rfl
          · show aV A 75 i = up2_ (up2_ (up2_ (up2_ (aV A) 72 (N 69) v72) 73 (N 69) v73) 74 (N 69) v74) 75 (N 69) v75 75 i
            rw [up2_n z3]
            rfl
          · show aV A 76 i = up2_ (up2_ (up2_ (up2_ (up2_ (aV A) 72 (N 69) v72) 73 (N 69) v73) 74 (N 69) v74) 75 (N 69) v75) 76 (N 69) v76 76 i
            rw [up2_n z3]
            rfl
        · rcases z with z | z | z
          · exact hx0 44 i hio (by decide) z
          · exact sh_ne h.1 hio (rc_1 h (by decide)) (Or.inl (by decide)) z
          · exact hTE 44 i hio (by decide) z
    · have : i = 0 := by
        have : i < 1 := hi
        omega
      subst this
      show ob_ ka TX _ _ _ 55 0 (ce_ (si_ τ 1214 x 0) e1)
      rw [ce_si (fun z => by
        rcases hee with ⟨q1, q2⟩ | q
        · exact hx0 55 0 q1 (by decide) (q2.symm.trans z)
        · have := hf.1.1
          omega)]
      exact hao.2
theorem ob_c6 {A : AS} {G : GH} {N : Nat → Nat} {r i : Nat} {m : CE} (S : Nat → Int32) (b e1 : Nat) (v78 v79 v80 : Int32) (hd : ¬ r ∈ ([0, 6, 10, 45, 56] : List Nat)) (h : ob_ ka TX A G N r i m) : ob_ ka TX (S, up2_ (up2_ (up2_ (aV A) 78 (N 70) v78) 79 (N 70) v79) 80 (N 70) v80, A.2.2) (gy_ (gn_ G 45 b) 56 e1) (fun q => if q = 70 then N 70 + 1 else N q) r i m := by
  match r, hd, h with
  | 0, hd, h => exact absurd (by decide) hd
  | 1, hd, h => exact h
  | 2, hd, h => exact h
  | 3, hd, h => exact h
  | 4, hd, h => exact h
  | 5, hd, h => exact h
  | 6, hd, h => exact absurd (by decide) hd
  | 7, hd, h => exact h
  | 8, hd, h => exact h
  | 9, hd, h => exact h
  | 10, hd, h => exact absurd (by decide) hd
  | 11, hd, h => exact h
  | 12, hd, h => exact h
  | 13, hd, h => exact h
  | 14, hd, h => exact h
  | 15, hd, h => exact h
  | 16, hd, h => exact h
  | 17, hd, h => exact h
  | 18, hd, h => exact h
  | 19, hd, h => exact h
  | 20, hd, h => exact h
  | 21, hd, h => exact h
  | 22, hd, h => exact h
  | 23, hd, h => exact h
  | 24, hd, h => exact h
  | 25, hd, h => exact h
  | 26, hd, h => exact h
  | 27, hd, h => exact h
  | 28, hd, h => exact h
  | 29, hd, h => exact h
  | 30, hd, h => exact h
  | 31, hd, h => exact h
  | 32, hd, h => exact h
  | 33, hd, h => exact h
  | 34, hd, h => exact h
  | 35, hd, h => exact h
  | 36, hd, h => exact h
  | 37, hd, h => exact h
  | 38, hd, h => exact h
  | 39, hd, h => exact h
  | 40, hd, h => exact h
  | 41, hd, h => exact h
  | 42, hd, h => exact h
  | 43, hd, h => exact h
  | 44, hd, h => exact h
  | 45, hd, h => exact absurd (by decide) hd
  | 46, hd, h => exact h
  | 47, hd, h => exact h
  | 48, hd, h => exact h
  | 49, hd, h => exact h
  | 50, hd, h => exact h
  | 51, hd, h => exact h
  | 52, hd, h => exact h
  | 53, hd, h => exact h
  | 54, hd, h => exact h
  | 55, hd, h => exact h
  | 56, hd, h => exact absurd (by decide) hd
  | 57, hd, h => exact h
  | 58, hd, h => exact h
  | r + 59, hd, h => exact h
theorem cg_c6 {G : GH} {N : Nat → Nat} {b e1 : Nat} (h : cg_ G N) : cg_ (gy_ (gn_ G 45 b) 56 e1) (fun q => if q = 70 then N 70 + 1 else N q) := by
  obtain ⟨h0, h30, h31, h32, h33, h34, h35, h36, h37, h38, h39, h40, h41, h42, h43, h44, h45, h46, h47, h48⟩ := h
  refine ⟨fun r hr => ?_, h30, h31, h32, h33, h34, h35, h36, h37, h38, h39, h40, h41, h42, h43, h44, ?_, h46, h47, h48⟩
  · have h9 : ∀ r, r ∈ ([0, 1, 2, 3, 4, 5, 6, 7, 8, 9, 10, 11, 12, 13, 14, 15, 16, 17, 18, 19, 20, 21, 22] : List Nat) → r ≠ 45 ∧ r ≠ 56 := by decide
    have := h9 r hr
    show gc_ (gy_ (gn_ G 45 b) 56 e1) r = 1
    refine Eq.trans ?_ (h0 r hr)
    simp [gy_, gn_, gc_, this]
  · show gc_ (gy_ (gn_ G 45 b) 56 e1) 45 = (fun q => if q = 70 then N 70 + 1 else N q) 70
    simp [gy_, gn_, gc_] at *
    omega
theorem rc_c6 {σ s τ : TH} {G : GH} {A : AS} {N : Nat → Nat} {b e1 : Nat} {v78 v79 v80 : Int32} (h : rc_ ka TX σ x G A N) (hD : pvD A N) (hcap : N 70 < 60) (hf : fq_ (fun _ => False) σ s) (hb : nx_ σ ≤ b ∧ kd_ s b = 7) (hs : fi_ s 600 b = v78 ∧ fi_ s 601 b = v79 ∧ fi_ s 602 b = 0 ∧ fi_ s 603 b = 0 ∧ v80 = -1) (hk : fq_ (fun q => q = ga_ G 6 0 ∨ q = (if gc_ G 56 = 0 then ka 200 else ga_ G 56 0)) s τ) (he : kd_ τ e1 = 24) (hee : (0 < gc_ G 56 ∧ e1 = ga_ G 56 0) ∨ nx_ s ≤ e1) (hl : ls_ ka τ (ga_ G 6 0) e1 (N 70 + 1) (fun i => if i = N 70 then b else ga_ G 45 i)) : rc_ ka TX (si_ τ 1214 x 0) x (gy_ (gn_ G 45 b) 56 e1) (s3_ (aS A) 0, up2_ (up2_ (up2_ (aV A) 78 (N 70) v78) 79 (N 70) v79) 80 (N 70) v80, A.2.2) (fun q => if q = 70 then N 70 + 1 else N q) ∧ fq_ (fun q => q = x ∨ q = ga_ G 6 0 ∨ q = (if gc_ G 56 = 0 then ka 200 else ga_ G 56 0)) σ (si_ τ 1214 x 0) := by
  have hbs : b < nx_ s := kd_ltn hf.2.1 hb.2 (by decide)
  have hcnt : gc_ G 45 = N 70 := by
    have := h.2.2.1
    unfold cg_ at this
    simp only [this]
  have hne : e1 ≠ b := by
    rcases hee with ⟨q1, q2⟩ | q
    · rw [q2]; have := sh_lt h.1 q1; omega
    · omega
  have hfs : fq_ (fun q => q = x ∨ q = ga_ G 6 0 ∨ q = (if gc_ G 56 = 0 then ka 200 else ga_ G 56 0)) σ (si_ τ 1214 x 0) := fq_tr (fq_tr (fq_w hf (fun _ z => z.elim)) (fq_w hk (fun _ z => Or.inr z))) (fq_si hk.2.1 (Or.inl rfl))
  have hx0 : ∀ r i, i < gc_ G r → r ≠ 0 → ga_ G r i ≠ x := fun r i hi hr => rc_nx h hi hr
  have hxl : x < nx_ σ := kd_ltn h.1.1 (rc_x h) (by decide)
  have hll : ga_ G 6 0 < nx_ σ := sh_lt h.1 (rc_1 h (by decide))
  have hEl : (if gc_ G 56 = 0 then ka 200 else ga_ G 56 0) < nx_ σ := by
    by_cases z : gc_ G 56 = 0
    · rw [if_pos z]; exact h.2.1.2.2
    · rw [if_neg z]; exact sh_lt h.1 (Nat.pos_of_ne_zero z)
  have hTE : ∀ r i, i < gc_ G r → r ≠ 56 → ga_ G r i ≠ (if gc_ G 56 = 0 then ka 200 else ga_ G 56 0) := fun r i hi hr => by
    by_cases z : gc_ G 56 = 0
    · rw [if_pos z]; exact rc_ka h hi
    · rw [if_neg z]; exact sh_ne h.1 hi (Nat.pos_of_ne_zero z) (Or.inl hr)
  have hsh : sh_ KC LC (si_ τ 1214 x 0) (gy_ (gn_ G 45 b) 56 e1) := by
    have h1 : sh_ KC LC (si_ τ 1214 x 0) G := sh_fq h.1 hfs
    have h2 := sh_gn2 (r := 45) (b := b) h1 (fh_of h.1 hb.1) (fq_kd hk hb.2 (by decide)) (by decide) (fun z => absurd rfl z)
    refine sh_gy h2 ?_ he (by decide) rfl
    rcases hee with ⟨q1, q2⟩ | q
    · exact Or.inr ⟨q1, q2⟩
    · exact Or.inl (fh_gn (fh_of h.1 (Nat.le_trans hf.1.1 q)) hne.symm)
  refine ⟨rc_gen2 h hfs hsh (cg_c6 h.2.2.1) [0, 6, 10, 45, 56] (fun r hr => ?_) h.2.1.1 (fun q hq => ?_) (fun r i m hr h9 => ob_c6 _ b e1 _ _ _ hr h9) (fun r i hr hi => ?_), hfs⟩
  · have q1 : r ≠ 45 := fun z => hr (by rw [z]; decide)
    have q2 : r ≠ 56 := fun z => hr (by rw [z]; decide)
    exact ⟨by simp [gy_, gn_, gc_, q1, q2], fun i => by simp [gy_, gn_, ga_, q1, q2]⟩
  · rcases hq with hq | hq | hq
    · exact Or.inl ⟨0, 0, by decide, rc_1 h (by decide), hq.trans h.2.1.1.symm⟩
    · exact Or.inl ⟨6, 0, by decide, rc_1 h (by decide), hq⟩
    · by_cases z : gc_ G 56 = 0
      · rw [if_pos z] at hq; exact Or.inr hq
      · rw [if_neg z] at hq
        exact Or.inl ⟨56, 0, by decide, Nat.pos_of_ne_zero z, hq⟩
  · have hao := ao_6 (ka := ka) (TX := TX) (A := (s3_ (aS A) 0, up2_ (up2_ (up2_ (aV A) 78 (N 70) v78) 79 (N 70) v79) 80 (N 70) v80, A.2.2)) (G1 := gy_ (gn_ G 45 b) 56 e1) (N1 := fun q => if q = 70 then N 70 + 1 else N q) (τ := τ) (a := ga_ G 6 0) (e1 := e1) hl he ⟨rfl, rfl⟩ (fun j hj => by
      have hj : j < N 70 + 1 := hj
      by_cases z : j = N 70
      · subst z; simp [gy_, gn_, ga_, gc_] ; simp [← hcnt, gc_]
      · have z2 : ¬ j = G.1 45 := by rw [show G.1 45 = N 70 from hcnt]; exact z
        simp [gy_, gn_, ga_, gc_, z, z2])
    simp only [List.mem_cons, List.not_mem_nil, or_false] at hr
    rcases hr with rfl | rfl | rfl | rfl | rfl
    · have : i = 0 := by
        have : i < gc_ G 0 := hi
        exact g0_ h (by decide) this
      subst this
      show ob_ ka TX _ _ _ 0 0 (ce_ (si_ τ 1214 x 0) (ga_ G 0 0))
      rw [h.2.1.1]
      refine ob_0b h 0 _ (fun c => ?_) (fun c c1 => ?_) ?_ (fun r hr => ?_)
      · rw [fr_si, fq_fr hk (Nat.lt_of_lt_of_le hxl hf.1.1) (fun z => ?_) c, fq_fr hf hxl (fun z => z) c]
        rcases z with z | z
        · exact hx0 6 0 (rc_1 h (by decide)) (by decide) z.symm
        · exact hTE 0 0 (rc_1 h (by decide)) (by decide) (h.2.1.1.trans z)
      · rw [fi_si, up2_c c1, fq_fi hk (Nat.lt_of_lt_of_le hxl hf.1.1) (fun z => ?_) c, fq_fi hf hxl (fun z => z) c]
        rcases z with z | z
        · exact hx0 6 0 (rc_1 h (by decide)) (by decide) z.symm
        · exact hTE 0 0 (rc_1 h (by decide)) (by decide) (h.2.1.1.trans z)
      · rw [fi_si, up2_s]
      · have q : ∀ r, r ∈ ([1, 2, 3, 4, 5, 6, 7, 8, 9, 10, 14, 17] : List Nat) → r ≠ 45 ∧ r ≠ 56 := by decide
        obtain ⟨q1, q2⟩ := q r hr
        simp [gy_, gn_, ga_, q1, q2]
    · have : i = 0 := by
        have : i < gc_ G 6 := hi
        exact g0_ h (by decide) this
      subst this
      show ob_ ka TX _ _ _ 6 0 (ce_ (si_ τ 1214 x 0) (ga_ G 6 0))
      rw [ce_si (hx0 6 0 (rc_1 h (by decide)) (by decide))]
      exact hao.1
    · have : i = 0 := by
        have : i < gc_ G 10 := hi
        exact g0_ h (by decide) this
      subst this
      show ob_ ka TX _ _ _ 10 0 (ce_ (si_ τ 1214 x 0) (ga_ G 10 0))
      rw [rc_ce h hfs (rc_1 h (by decide)) (fun z => ?_)]
      · exact ob_10 h 0 (by decide) _
      · rcases z with z | z | z
        · exact hx0 10 0 (rc_1 h (by decide)) (by decide) z
        · exact sh_ne h.1 (rc_1 h (by decide)) (rc_1 h (by decide)) (Or.inl (by decide)) z
        · exact hTE 10 0 (rc_1 h (by decide)) (by decide) z
    · have hi' : i < gc_ G 45 + 1 := hi
      by_cases z : i = gc_ G 45
      · have eb : ga_ (gy_ (gn_ G 45 b) 56 e1) 45 i = b := by rw [z]; simp [gy_, gn_, ga_, gc_]
        have hbl : b ≠ ga_ G 6 0 := by omega
        have hbE : b ≠ (if gc_ G 56 = 0 then ka 200 else ga_ G 56 0) := by omega
        rw [eb, ce_si (show b ≠ x by omega), hk.2.2 b hbs (fun q => q.elim hbl hbE)]
        rw [hcnt] at z
        subst z
        refine ⟨?_, ?_, ?_, ?_, ?_⟩
        · show fi_ s 600 b = up2_ (aV A) 78 (N 70) v78 78 (N 70)
          rw [up2_s]; exact hs.1
        · show fi_ s 601 b = up2_ (up2_ (aV A) 78 (N 70) v78) 79 (N 70) v79 79 (N 70)
          rw [up2_s]; exact hs.2.1
        · show fi_ s 602 b = if up2_ (up2_ (up2_ (aV A) 78 (N 70) v78) 79 (N 70) v79) 80 (N 70) v80 80 (N 70) = -1 then 0 else up2_ (up2_ (up2_ (aV A) 78 (N 70) v78) 79 (N 70) v79) 80 (N 70) v80 80 (N 70)
          rw [up2_s, hs.2.2.2.2, if_pos rfl]; exact hs.2.2.1
        · show fi_ s 603 b = aV A 81 (N 70)
          rw [hD.2.2.2.2.1 (N 70) (Nat.le_refl _) hcap]; exact hs.2.2.2.1
        · exact Or.inl (hD.2.2.2.2.1 (N 70) (Nat.le_refl _) hcap)
      · have eb : ga_ (gy_ (gn_ G 45 b) 56 e1) 45 i = ga_ G 45 i := by
          have z2 : ¬ i = G.1 45 := z
          simp [gy_, gn_, ga_, gc_, z2]
        have hio : i < gc_ G 45 := by omega
        have z3 : i ≠ N 70 := by rw [← hcnt]; exact z
        rw [eb, rc_ce h hfs hio (fun z => ?_)]
        · have q := h.2.2.2 45 i hio
          obtain ⟨q0, q1, q2, q3, q4⟩ := q
          refine ⟨q0.trans ?_, q1.trans ?_, ?_, q3, q4⟩
          · show aV A 78 i = up2_ (aV A) 78 (N 70) v78 78 i
            rw [up2_n z3]
          · show aV A 79 i = up2_ (up2_ (aV A) 78 (N 70) v78) 79 (N 70) v79 79 i
            rw [up2_n z3]
            rfl
          · show _ = if up2_ (up2_ (up2_ (aV A) 78 (N 70) v78) 79 (N 70) v79) 80 (N 70) v80 80 i = -1 then 0 else up2_ (up2_ (up2_ (aV A) 78 (N 70) v78) 79 (N 70) v79) 80 (N 70) v80 80 i
            rw [up2_n z3]
            exact q2
        · rcases z with z | z | z
          · exact hx0 45 i hio (by decide) z
          · exact sh_ne h.1 hio (rc_1 h (by decide)) (Or.inl (by decide)) z
          · exact hTE 45 i hio (by decide) z
    · have : i = 0 := by
        have : i < 1 := hi
        omega
      subst this
      show ob_ ka TX _ _ _ 56 0 (ce_ (si_ τ 1214 x 0) e1)
      rw [ce_si (fun z => by
        rcases hee with ⟨q1, q2⟩ | q
        · exact hx0 56 0 q1 (by decide) (q2.symm.trans z)
        · have := hf.1.1
          omega)]
      exact hao.2
theorem ax_1 {σ s τ : TH} {G : GH} {A : AS} {N : Nat → Nat} (h : rc_ ka TX σ x G A N) (hf : fq_ (fun _ => False) σ s) (hk : fq_ (fun q => q = ga_ G 1 0 ∨ q = (if gc_ G 51 = 0 then ka 200 else ga_ G 51 0)) s τ) : kd_ τ x = 13 ∧ (∀ c, fr_ τ c x = fr_ σ c x) ∧ ∀ c, fi_ τ c x = fi_ σ c x := by
  have hxl : x < nx_ σ := kd_ltn h.1.1 (rc_x h) (by decide)
  have hT : ¬ (x = ga_ G 1 0 ∨ x = (if gc_ G 51 = 0 then ka 200 else ga_ G 51 0)) := fun z => by
    rcases z with z | z
    · exact rc_nx h (r := 1) (i := 0) (rc_1 h (by decide)) (by decide) z.symm
    · rw [← h.2.1.1] at z
      by_cases q : gc_ G 51 = 0
      · rw [if_pos q] at z; exact rc_ka h (rc_1 h (by decide)) z
      · rw [if_neg q] at z; exact sh_ne h.1 (rc_1 h (by decide)) (Nat.pos_of_ne_zero q) (Or.inl (by decide)) z
  exact ⟨fq_kd hk (fq_kd hf (rc_x h) (by decide)) (by decide), fun c => by rw [fq_fr hk (Nat.lt_of_lt_of_le hxl hf.1.1) hT c, fq_fr hf hxl (fun z => z) c], fun c => by rw [fq_fi hk (Nat.lt_of_lt_of_le hxl hf.1.1) hT c, fq_fi hf hxl (fun z => z) c]⟩
theorem ax_2 {σ s τ : TH} {G : GH} {A : AS} {N : Nat → Nat} (h : rc_ ka TX σ x G A N) (hf : fq_ (fun _ => False) σ s) (hk : fq_ (fun q => q = ga_ G 2 0 ∨ q = (if gc_ G 52 = 0 then ka 200 else ga_ G 52 0)) s τ) : kd_ τ x = 13 ∧ (∀ c, fr_ τ c x = fr_ σ c x) ∧ ∀ c, fi_ τ c x = fi_ σ c x := by
  have hxl : x < nx_ σ := kd_ltn h.1.1 (rc_x h) (by decide)
  have hT : ¬ (x = ga_ G 2 0 ∨ x = (if gc_ G 52 = 0 then ka 200 else ga_ G 52 0)) := fun z => by
    rcases z with z | z
    · exact rc_nx h (r := 2) (i := 0) (rc_1 h (by decide)) (by decide) z.symm
    · rw [← h.2.1.1] at z
      by_cases q : gc_ G 52 = 0
      · rw [if_pos q] at z; exact rc_ka h (rc_1 h (by decide)) z
      · rw [if_neg q] at z; exact sh_ne h.1 (rc_1 h (by decide)) (Nat.pos_of_ne_zero q) (Or.inl (by decide)) z
  exact ⟨fq_kd hk (fq_kd hf (rc_x h) (by decide)) (by decide), fun c => by rw [fq_fr hk (Nat.lt_of_lt_of_le hxl hf.1.1) hT c, fq_fr hf hxl (fun z => z) c], fun c => by rw [fq_fi hk (Nat.lt_of_lt_of_le hxl hf.1.1) hT c, fq_fi hf hxl (fun z => z) c]⟩
theorem ax_3 {σ s τ : TH} {G : GH} {A : AS} {N : Nat → Nat} (h : rc_ ka TX σ x G A N) (hf : fq_ (fun _ => False) σ s) (hk : fq_ (fun q => q = ga_ G 3 0 ∨ q = (if gc_ G 53 = 0 then ka 200 else ga_ G 53 0)) s τ) : kd_ τ x = 13 ∧ (∀ c, fr_ τ c x = fr_ σ c x) ∧ ∀ c, fi_ τ c x = fi_ σ c x := by
  have hxl : x < nx_ σ := kd_ltn h.1.1 (rc_x h) (by decide)
  have hT : ¬ (x = ga_ G 3 0 ∨ x = (if gc_ G 53 = 0 then ka 200 else ga_ G 53 0)) := fun z => by
    rcases z with z | z
    · exact rc_nx h (r := 3) (i := 0) (rc_1 h (by decide)) (by decide) z.symm
    · rw [← h.2.1.1] at z
      by_cases q : gc_ G 53 = 0
      · rw [if_pos q] at z; exact rc_ka h (rc_1 h (by decide)) z
      · rw [if_neg q] at z; exact sh_ne h.1 (rc_1 h (by decide)) (Nat.pos_of_ne_zero q) (Or.inl (by decide)) z
  exact ⟨fq_kd hk (fq_kd hf (rc_x h) (by decide)) (by decide), fun c => by rw [fq_fr hk (Nat.lt_of_lt_of_le hxl hf.1.1) hT c, fq_fr hf hxl (fun z => z) c], fun c => by rw [fq_fi hk (Nat.lt_of_lt_of_le hxl hf.1.1) hT c, fq_fi hf hxl (fun z => z) c]⟩
theorem ax_4 {σ s τ : TH} {G : GH} {A : AS} {N : Nat → Nat} (h : rc_ ka TX σ x G A N) (hf : fq_ (fun _ => False) σ s) (hk : fq_ (fun q => q = ga_ G 4 0 ∨ q = (if gc_ G 54 = 0 then ka 200 else ga_ G 54 0)) s τ) : kd_ τ x = 13 ∧ (∀ c, fr_ τ c x = fr_ σ c x) ∧ ∀ c, fi_ τ c x = fi_ σ c x := by
  have hxl : x < nx_ σ := kd_ltn h.1.1 (rc_x h) (by decide)
  have hT : ¬ (x = ga_ G 4 0 ∨ x = (if gc_ G 54 = 0 then ka 200 else ga_ G 54 0)) := fun z => by
    rcases z with z | z
    · exact rc_nx h (r := 4) (i := 0) (rc_1 h (by decide)) (by decide) z.symm
    · rw [← h.2.1.1] at z
      by_cases q : gc_ G 54 = 0
      · rw [if_pos q] at z; exact rc_ka h (rc_1 h (by decide)) z
      · rw [if_neg q] at z; exact sh_ne h.1 (rc_1 h (by decide)) (Nat.pos_of_ne_zero q) (Or.inl (by decide)) z
  exact ⟨fq_kd hk (fq_kd hf (rc_x h) (by decide)) (by decide), fun c => by rw [fq_fr hk (Nat.lt_of_lt_of_le hxl hf.1.1) hT c, fq_fr hf hxl (fun z => z) c], fun c => by rw [fq_fi hk (Nat.lt_of_lt_of_le hxl hf.1.1) hT c, fq_fi hf hxl (fun z => z) c]⟩
theorem ax_5 {σ s τ : TH} {G : GH} {A : AS} {N : Nat → Nat} (h : rc_ ka TX σ x G A N) (hf : fq_ (fun _ => False) σ s) (hk : fq_ (fun q => q = ga_ G 5 0 ∨ q = (if gc_ G 55 = 0 then ka 200 else ga_ G 55 0)) s τ) : kd_ τ x = 13 ∧ (∀ c, fr_ τ c x = fr_ σ c x) ∧ ∀ c, fi_ τ c x = fi_ σ c x := by
  have hxl : x < nx_ σ := kd_ltn h.1.1 (rc_x h) (by decide)
  have hT : ¬ (x = ga_ G 5 0 ∨ x = (if gc_ G 55 = 0 then ka 200 else ga_ G 55 0)) := fun z => by
    rcases z with z | z
    · exact rc_nx h (r := 5) (i := 0) (rc_1 h (by decide)) (by decide) z.symm
    · rw [← h.2.1.1] at z
      by_cases q : gc_ G 55 = 0
      · rw [if_pos q] at z; exact rc_ka h (rc_1 h (by decide)) z
      · rw [if_neg q] at z; exact sh_ne h.1 (rc_1 h (by decide)) (Nat.pos_of_ne_zero q) (Or.inl (by decide)) z
  exact ⟨fq_kd hk (fq_kd hf (rc_x h) (by decide)) (by decide), fun c => by rw [fq_fr hk (Nat.lt_of_lt_of_le hxl hf.1.1) hT c, fq_fr hf hxl (fun z => z) c], fun c => by rw [fq_fi hk (Nat.lt_of_lt_of_le hxl hf.1.1) hT c, fq_fi hf hxl (fun z => z) c]⟩
theorem ax_6 {σ s τ : TH} {G : GH} {A : AS} {N : Nat → Nat} (h : rc_ ka TX σ x G A N) (hf : fq_ (fun _ => False) σ s) (hk : fq_ (fun q => q = ga_ G 6 0 ∨ q = (if gc_ G 56 = 0 then ka 200 else ga_ G 56 0)) s τ) : kd_ τ x = 13 ∧ (∀ c, fr_ τ c x = fr_ σ c x) ∧ ∀ c, fi_ τ c x = fi_ σ c x := by
  have hxl : x < nx_ σ := kd_ltn h.1.1 (rc_x h) (by decide)
  have hT : ¬ (x = ga_ G 6 0 ∨ x = (if gc_ G 56 = 0 then ka 200 else ga_ G 56 0)) := fun z => by
    rcases z with z | z
    · exact rc_nx h (r := 6) (i := 0) (rc_1 h (by decide)) (by decide) z.symm
    · rw [← h.2.1.1] at z
      by_cases q : gc_ G 56 = 0
      · rw [if_pos q] at z; exact rc_ka h (rc_1 h (by decide)) z
      · rw [if_neg q] at z; exact sh_ne h.1 (rc_1 h (by decide)) (Nat.pos_of_ne_zero q) (Or.inl (by decide)) z
  exact ⟨fq_kd hk (fq_kd hf (rc_x h) (by decide)) (by decide), fun c => by rw [fq_fr hk (Nat.lt_of_lt_of_le hxl hf.1.1) hT c, fq_fr hf hxl (fun z => z) c], fun c => by rw [fq_fi hk (Nat.lt_of_lt_of_le hxl hf.1.1) hT c, fq_fi hf hxl (fun z => z) c]⟩
theorem ax_7 {σ s τ : TH} {G : GH} {A : AS} {N : Nat → Nat} (h : rc_ ka TX σ x G A N) (hf : fq_ (fun _ => False) σ s) (hk : fq_ (fun q => q = ga_ G 7 0 ∨ q = (if gc_ G 57 = 0 then ka 200 else ga_ G 57 0)) s τ) : kd_ τ x = 13 ∧ (∀ c, fr_ τ c x = fr_ σ c x) ∧ ∀ c, fi_ τ c x = fi_ σ c x := by
  have hxl : x < nx_ σ := kd_ltn h.1.1 (rc_x h) (by decide)
  have hT : ¬ (x = ga_ G 7 0 ∨ x = (if gc_ G 57 = 0 then ka 200 else ga_ G 57 0)) := fun z => by
    rcases z with z | z
    · exact rc_nx h (r := 7) (i := 0) (rc_1 h (by decide)) (by decide) z.symm
    · rw [← h.2.1.1] at z
      by_cases q : gc_ G 57 = 0
      · rw [if_pos q] at z; exact rc_ka h (rc_1 h (by decide)) z
      · rw [if_neg q] at z; exact sh_ne h.1 (rc_1 h (by decide)) (Nat.pos_of_ne_zero q) (Or.inl (by decide)) z
  exact ⟨fq_kd hk (fq_kd hf (rc_x h) (by decide)) (by decide), fun c => by rw [fq_fr hk (Nat.lt_of_lt_of_le hxl hf.1.1) hT c, fq_fr hf hxl (fun z => z) c], fun c => by rw [fq_fi hk (Nat.lt_of_lt_of_le hxl hf.1.1) hT c, fq_fi hf hxl (fun z => z) c]⟩
theorem pv_c1 {A : AS} {N : Nat → Nat} {S : Nat → Int32} (h : pv_ A N) {v : Int32} (hv : 0 ≤ v ∧ v ≤ 60) : pv_ (S, up2_ (aV A) 7 (N 4) v, A.2.2) (fun q => if q = 4 then N 4 + 1 else N q) := by
  obtain ⟨h1, h2, h3, h4, h5, h6, h7, d1, d2⟩ := h
  refine ⟨h1, h2, h3, h4, h5, h6, ⟨h7.1, fun w hw => ?_⟩, fun w hw hw2 => d1 w (Nat.le_of_succ_le hw) hw2, d2⟩
  have hw : w < N 4 + 1 := hw
  show 0 ≤ up2_ (aV A) 7 (N 4) v 7 w ∧ up2_ (aV A) 7 (N 4) v 7 w ≤ 60
  by_cases z : w = N 4
  · rw [z, up2_s]; exact hv
  · rw [up2_n z]; exact h7.2 w (by omega)
theorem pv_c5 {A : AS} {N : Nat → Nat} {S : Nat → Int32} (h : pv_ A N) {v72 v73 v74 v75 v76 : Int32} : pv_ (S, up2_ (up2_ (up2_ (up2_ (up2_ (aV A) 72 (N 69) v72) 73 (N 69) v73) 74 (N 69) v74) 75 (N 69) v75) 76 (N 69) v76, A.2.2) (fun q => if q = 69 then N 69 + 1 else N q) := by
  obtain ⟨h1, h2, h3, h4, h5, h6, h7, d1, d2, d3, d4, d5⟩ := h
  exact ⟨h1, h2, h3, h4, h5, h6, h7, d1, d2, d3, fun w hw hw2 => d4 w (Nat.le_of_succ_le hw) hw2, d5⟩
theorem pv_c6 {A : AS} {N : Nat → Nat} {S : Nat → Int32} (h : pv_ A N) (hc : N 70 < 60) {v78 v79 : Int32} : pv_ (S, up2_ (up2_ (up2_ (aV A) 78 (N 70) v78) 79 (N 70) v79) 80 (N 70) (-1), A.2.2) (fun q => if q = 70 then N 70 + 1 else N q) := by
  obtain ⟨h1, h2, h3, h4, h5, h6, h7, d1, d2, d3, d4, d5, d6⟩ := h
  refine ⟨h1, h2, h3, h4, h5, fun q hq => ?_, h7, d1, d2, d3, d4, fun w hw hw2 => d5 w (Nat.le_of_succ_le hw) hw2, d6⟩
  have hq : q < N 70 + 1 := hq
  show (up2_ (up2_ (up2_ (aV A) 78 (N 70) v78) 79 (N 70) v79) 80 (N 70) (-1) 80 q = -1 ∧ aV A 81 q = 0) ∨ ((1 : Int32) ≤ up2_ (up2_ (up2_ (aV A) 78 (N 70) v78) 79 (N 70) v79) 80 (N 70) (-1) 80 q ∧ up2_ (up2_ (up2_ (aV A) 78 (N 70) v78) 79 (N 70) v79) 80 (N 70) (-1) 80 q ≤ 400)
  by_cases z : q = N 70
  · rw [z, up2_s]; exact Or.inl ⟨rfl, d5 _ (Nat.le_refl _) hc⟩
  · rw [up2_n z]; exact h6 q (by omega)
theorem ok_writer : St_writer ka x y (inv_ ka TX pv_ x y o N0) := fun n c m a0 hn hI => by
  obtain ⟨GC, GM, N, k1, k2, k3, k4, k5, k6, k7, k8⟩ := id hI
  have hN := (mo_n k1 (j := 5) (cj := 1605) (m := 30) (by decide)).2
  obtain ⟨e6, hN6⟩ := mo_n k1 (j := 6) (cj := 1606) (m := 5257439) (by decide)
  have hb : mr_ (bm_ m c) y GM (as_ m y GM) N := mr_bm (mr_of k1) (Nat.le_of_eq k5.1)
  have hx := rc_x k2
  obtain ⟨e4, hN4⟩ := mo_n k1 (j := 4) (cj := 1604) (m := 6) (by decide)
  obtain ⟨r1, r2⟩ := rc_r1200 k2
  have hl := rc_l1 k2 (by omega)
  have l1 := l_size hl
  have n0 : kd_ c (nx_ c) = 0 := wf_0 k2.1.1 (Nat.le_refl _)
  by_cases q : 0 ≤ a0 ∧ a0 ≤ 60
  · by_cases q2 : N 4 = 6
    · have z : ¬ nI (N 4) < 6 := by rw [q2]; decide
      refine ⟨-1, si_ c 1214 x 3, _, by simp [f_X11_writer, gt_, lt_, nn_, oc_, bd_, k_within, bi_, q, hx, r1, r2, l1, z, k_refused hx], ?_, no_ pv_S hI 3 (by decide)⟩
      rw [m_writer (mo_bm k1 (z := si_ c 1214 x 3) (Nat.le_of_eq k5.1)), if_neg (not_not_intro q), if_pos q2]
    · have hlt : N 4 < 6 := by omega
      have hs : fq_ (fun _ => False) c (si_ (si_ (nw_ c 12 0 2) 1101 (nx_ c) 1) 1100 (nx_ c) a0) := fq_sin (fq_sin (fq_nw k2.1.1 (by decide)) (Nat.le_refl _)) (Nat.le_refl _)
      have hkb : kd_ (si_ (si_ (nw_ c 12 0 2) 1101 (nx_ c) 1) 1100 (nx_ c) a0) (nx_ c) = 12 := kd_nw c 12 0 2
      obtain ⟨f1, f2⟩ : fi_ (si_ (si_ (nw_ c 12 0 2) 1101 (nx_ c) 1) 1100 (nx_ c) a0) 1100 (nx_ c) = a0 ∧ fi_ (si_ (si_ (nw_ c 12 0 2) 1101 (nx_ c) 1) 1100 (nx_ c) a0) 1101 (nx_ c) = 1 := ⟨up2_s, by rw [fi_si, up2_c (by decide), fi_si, up2_s]⟩
      have hin : f_X10_init (nw_ c 12 0 2) (nx_ c) a0 = some ((), si_ (si_ (nw_ c 12 0 2) 1101 (nx_ c) 1) 1100 (nx_ c) a0) := by
        unfold f_X10_init
        rw [gt_t (kd_nw c 12 0 2)]
        rfl
      have hbn : nx_ (si_ (si_ (nw_ c 12 0 2) 1101 (nx_ c) 1) 1100 (nx_ c) a0) = nx_ c + 1 ∧ sl_ (si_ (si_ (nw_ c 12 0 2) 1101 (nx_ c) 1) 1100 (nx_ c) a0) = sl_ c + 2 := ⟨rfl, rfl⟩
      generalize si_ (si_ (nw_ c 12 0 2) 1101 (nx_ c) 1) 1100 (nx_ c) a0 = s at hs hkb f1 f2 hin hbn
      obtain ⟨e1, τ, ad, fq2, bnd, ke1, hee, hl2⟩ := ad_1 k2 (by omega) hs ⟨Nat.le_refl _, hkb⟩
      obtain ⟨x1, x2, x3⟩ := ax_1 k2 hs fq2
      obtain ⟨w1, w2⟩ := rc_c1 k2 k3.2.2.2.2.2.2.2 hlt hs ⟨Nat.le_refl _, hkb⟩ ⟨f1, f2⟩ fq2 ke1 hee hl2
      have h0 := mr_bm (z := si_ τ 1214 x 0) (mr_of k1) (by rw [k5.1]; exact w2.1.1)
      have h1 := mr_si h0 (j := 0) (c := 1600) (by decide) 0
      have hw := h0.1.1.1
      have hj4 : ∀ j, j ∈ DS → j ≠ 4 := by decide
      obtain ⟨m1, hm1⟩ : ∃ m1, m1 = tr_ (si_ (sa_ (si_ (bm_ m (si_ τ 1214 x 0)) 1600 y 0) (ga_ GM 7 0) (N 4) a0) 1604 y (nI (N 4 + 1))) y 0 := ⟨_, rfl⟩
      have g1 : f_X15_writer (bm_ m (si_ τ 1214 x 0)) y a0 = some (nI (N 4), m1) := by rw [m_writer h0.1, if_neg (not_not_intro q), if_neg q2, hm1]
      have g2 : fq_ (fun q => q = y ∨ q = ga_ GM 7 0) (bm_ m (si_ τ 1214 x 0)) m1 := by
        rw [hm1]
        exact fqt (fqi (fqa (fqi (fq_rf hw) (Or.inl rfl)) (Or.inr rfl)) (Or.inl rfl)) (Or.inl rfl)
      have g3 : mr_ m1 y GM (s3_ (aS (as_ m y GM)) 0, up2_ (aV (as_ m y GM)) 7 (N 4) a0, (as_ m y GM).2.2) (fun q => if q = 4 then N 4 + 1 else N q) := by
        rw [hm1]
        exact mr_S (mr_tr (mr_sn (mr_sa h1 (j := 7) (by decide) (N 4) a0) 4 1604 (N 4 + 1) (by decide) (by show N 4 + 1 ≤ 6; omega)) 0) _
      have g4 : ∀ j, j ∈ DS → fi_ m1 (1600 + j) y = s3_ (aS (as_ m y GM)) 0 j := fun j hj => by
        rw [hm1]
        exact s3_fi2 (σ := bm_ m (si_ τ 1214 x 0)) rfl rfl (hj4 j hj)
      have g5 : nx_ m1 = nx_ τ ∧ sl_ m1 = sl_ τ := by rw [hm1]; exact ⟨rfl, rfl⟩
      refine ⟨nI (N 4), si_ τ 1214 x 0, m1, ?_, g1, inv_fin hI w2 ⟨?_, ?_⟩ g2 ⟨?_, ?_⟩ g3 g4 w1 (pv_c1 k3 q)⟩
      · unfold f_X11_writer
        rw [k_within, bd_s, bi_t q, if_neg (by decide), gt_t hx, lt_e, r1, nn_s, gt_t r2, l1, bd_s, if_pos (show nI (N 4) < 6 from nI_c (k := 6) rfl hlt (by decide)), lt_e, r1, gt_t n0, lt_e, lt_e, hin, bd_s, nn_s, gt_t (fq_kd hs r2 (by decide)), ad, bd_s, lt_e, x2, r1, nn_s, gt_t hl2.1, l_size hl2, bd_s, nI_pred, k_granted x1, bd_s]
      · show nx_ τ ≤ nx_ c + 400
        omega
      · show sl_ τ ≤ sl_ c + 6000
        omega
      · rw [g5.1]; exact Nat.le_add_right _ _
      · rw [g5.2]; exact Nat.le_add_right _ _
  · refine ⟨-1, si_ c 1214 x 2, _, by simp [f_X11_writer, gt_, lt_, nn_, oc_, bd_, k_within, bi_, q, hx, k_refused hx], ?_, no_ pv_S hI 2 (by decide)⟩
    rw [m_writer (mo_bm k1 (z := si_ c 1214 x 2) (Nat.le_of_eq k5.1)), if_pos q]
end C60
