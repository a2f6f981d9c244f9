/-! A TEXT IS READ: what the reference answers and keeps. Written by wip/b/mk99zb.py. -/
section IT9
variable {σ : TH} {y : Nat} {G : GH} {A : AS} {N : Nat → Nat}
theorem mr_tape (h : mr_ σ y G A N) {n : Nat} (hn : n ≤ 400) : fr_ σ 1626 y = some (ga_ G 26 0) ∧ tbx_ σ G (ga_ G 26 0) n (w9_ n (aV A 26)) := by
  obtain ⟨a26, b26, c26⟩ := mo_a h.1 (j := 26) (cj := 1626) (K := 21) (n := 400) (by decide)
  have hw := w9_wn (B := aV A 26) hn
  refine ⟨a26, ⟨b26, by omega, ?_⟩, fun j hj => ⟨?_, hw.2.1 j hj⟩, hw.1, hn⟩
  · have g26 : 0 < gc_ G 26 := by rw [(h.1.2.2.1 26 (by decide)).1]; decide
    have g27 : 0 < gc_ G 27 := by rw [(h.1.2.2.1 27 (by decide)).1]; decide
    exact sh_ne h.1.1 g26 g27 (Or.inl (by decide))
  · rw [mr_V h (j := 26) (by decide) j]
    show _ = nI (if j < n then _ else _)
    rw [if_pos hj]
    exact (and255 _).1
/-- the tape is empty, no fault yet -/
theorem mr_t0 (h : mr_ σ y G A N) : mr_ (si_ (si_ σ 1630 y 0) 1603 y 0) y G A (fun q => if q = 30 then 0 else N q) := mr_si (mr_sn h 30 1630 0 (by decide) (Nat.zero_le _)) (j := 3) (by decide) 0
theorem m_isText (hf : wf_ σ) (h : mr_ σ y G A N) (hv : pv_ A N) {p n : Nat} (hp : p < N 5) (hn : n ≤ 400) (h15 : aV A 15 p = bi_ (0 ≤ aV A 12 p)) : match rN_ false (w9_ n (aV A 26)) n (m0_ false) 0 with
  | .inl e => ∃ τ, f_X15_isText σ y (nI p) (nI n) = some (0, τ) ∧ mr_ τ y G A (fun q => if q = 30 then 0 else N q) ∧ fq_ (rU_ y G) σ τ ∧ (nx_ τ = nx_ σ ∧ sl_ τ = sl_ σ) ∧ ∀ j, j ∈ DS → fi_ τ (1600 + j) y = if j = 2 then nI e.2 else if j = 1 then 4 else if j = 3 then nI e.1 else if j = 30 then 0 else fi_ σ (1600 + j) y
  | .inr m' => ∃ τ, f_X15_isText σ y (nI p) (nI n) = some (1, τ) ∧ mr_ τ y G A (fun q => if q = 30 then 0 else N q) ∧ fq_ (rU_ y G) σ τ ∧ (nx_ τ = nx_ σ ∧ sl_ τ = sl_ σ) ∧ (∀ j, j ∈ DS → fi_ τ (1600 + j) y = if j = 3 then 0 else if j = 30 then 0 else fi_ σ (1600 + j) y) ∧ fi_ τ 1640 y = (mc_ m').2.2 ∧ fi_ τ 1638 y = nI (mc_ m').1 := by
  have hy := mo_y h.1
  have hN6 := (mo_n h.1 (j := 6) (cj := 1606) (m := 5257439) (by decide)).2
  have hN5 := (mo_n h.1 (j := 5) (cj := 1605) (m := 30) (by decide)).2
  have h1 := mr_t0 h
  obtain ⟨a26, tb⟩ := mr_tape h1 hn
  have fq1 : fq_ (rU_ y G) σ (si_ (si_ σ 1630 y 0) 1603 y 0) := fqi (fq_si hf (Or.inl rfl)) (Or.inl rfl)
  have d1 : ∀ j, fi_ (si_ (si_ σ 1630 y 0) 1603 y 0) (1600 + j) y = if j = 3 then 0 else if j = 30 then 0 else fi_ σ (1600 + j) y := fun j => by
    rw [fi_si]
    by_cases z3 : j = 3
    · subst z3; rw [if_pos rfl]; exact up2_s
    · rw [up2_c (by omega), if_neg z3, fi_si]
      by_cases z30 : j = 30
      · subst z30; rw [if_pos rfl]; exact up2_s
      · rw [up2_c (by omega), if_neg z30]
  have eB : eB_ (EP_ A (fun q => if q = 30 then 0 else N q) p) := eB_P (N := (fun q => if q = 30 then 0 else N q)) hv.1 hv.2.1 hp hN6 h15
  have g := m_goes (E := EP_ A (fun q => if q = 30 then 0 else N q) p) (p := p) h1.1.1.1 h1 tb (ve_P (N := (fun q => if q = 30 then 0 else N q)) hv.1 hv.2.2.1 (by omega)) eB false
  have q := rN_P (E := EP_ A (fun q => if q = 30 then 0 else N q) p) (w9_wn (B := aV A 26) hn) (m := m0_ false) rfl rfl rfl rfl rfl (fun _ => rfl)
  have ex : f_X15_isText σ y (nI p) (nI n) = bc_ (f_X15_goes (si_ (si_ σ 1630 y 0) 1603 y 0) y (some (ga_ G 26 0)) (nI n) (nI p) 0) (fun x4 s5 => some ((1 : Int32), s5)) (fun q6 s7 => gt_ (kd_ s7 q6 = 16) <| lt_ (fi_ s7 1506 q6) fun x8 => lt_ (si_ s7 1603 y x8) fun s9 => lt_ (si_ s9 1601 y (4 : Int32)) fun s10 => lt_ (fi_ s10 1507 q6) fun x11 => lt_ (si_ s10 1602 y x11) fun s12 => some ((0 : Int32), s12)) := by
    unfold f_X15_isText
    rw [gt_t hy, lt_e, lt_e, lt_e, a26]
  generalize (fun q => if q = 30 then 0 else N q) = N1 at h1 tb eB g q
  obtain ⟨σ1, hσ1⟩ : ∃ σ1, σ1 = si_ (si_ σ 1630 y 0) 1603 y 0 := ⟨_, rfl⟩
  rw [← hσ1] at h1 tb fq1 d1 g ex a26
  revert g q
  cases pP_ (EP_ A N1 p) (w9_ n (aV A 26)) n with
  | inl e =>
    intro q g
    have q : rN_ false (w9_ n (aV A 26)) n (m0_ false) 0 = .inl e := q
    rw [q]
    obtain ⟨τ, g1, g2, g3, g4, g5⟩ := g
    have g1 : f_X15_goes σ1 y (some (ga_ G 26 0)) (nI n) (nI p) 0 = some (.inr (ga_ G 25 0), τ) := g1
    have ny : ga_ G 25 0 ≠ y := by
      have g25 : 0 < gc_ G 25 := by rw [(h1.1.2.2.1 25 (by decide)).1]; decide
      have g00 : 0 < gc_ G 0 := by rw [h1.1.2.1.1]; decide
      have := sh_ne h1.1.1 g25 g00 (Or.inl (by decide))
      rw [h1.1.2.1.2.1] at this
      exact this
    refine ⟨si_ (si_ (si_ τ 1603 y (nI e.1)) 1601 y 4) 1602 y (nI e.2), ?_, mr_si (mr_si (mr_si g2.1 (j := 3) (by decide) _) (j := 1) (by decide) _) (j := 2) (by decide) _, fqi (fqi (fqi (fq_tr fq1 g2.2.1) (Or.inl rfl)) (Or.inl rfl)) (Or.inl rfl), ⟨?_, ?_⟩, fun j hj => ?_⟩
    · rw [ex, g1, bc9_r, gt_t g3, lt_e, g4, lt_e, lt_e, lt_e, show fi_ (si_ (si_ τ 1603 y (nI e.1)) 1601 y 4) 1507 (ga_ G 25 0) = nI e.2 from by rw [fi_si, up2_c (by decide), fi_si, up2_c (by decide), g5], lt_e]
    · exact g2.2.2.1.1.trans (by rw [hσ1]; rfl)
    · exact g2.2.2.1.2.trans (by rw [hσ1]; rfl)
    · rw [fi_si]
      by_cases z2 : j = 2
      · subst z2; rw [if_pos rfl]; exact up2_s
      rw [up2_c (by omega), if_neg z2, fi_si]
      by_cases z1 : j = 1
      · subst z1; rw [if_pos rfl]; exact up2_s
      rw [up2_c (by omega), if_neg z1, fi_si]
      by_cases z3 : j = 3
      · subst z3; rw [if_pos rfl]; exact up2_s
      rw [up2_c (by omega), if_neg z3, g2.2.2.2.2.2.2 j hj, d1 j, if_neg z3]
  | inr x =>
    intro q g
    obtain ⟨m', e1, e2, e3⟩ := q
    rw [e1]
    obtain ⟨u, τ, g1, g2, g3, g4, g5⟩ := g
    have g1 : f_X15_goes σ1 y (some (ga_ G 26 0)) (nI n) (nI p) 0 = some (.inl u, τ) := g1
    refine ⟨τ, ?_, g2.1, fq_tr fq1 g2.2.1, ⟨g2.2.2.1.1.trans (by rw [hσ1]; rfl), g2.2.2.1.2.trans (by rw [hσ1]; rfl)⟩, fun j hj => ?_, ?_, ?_⟩
    · rw [ex, g1, bc9_l]
    · rw [g2.2.2.2.2.2.2 j hj, d1 j]
    · rw [e2]; exact g4.2.2.2.2
    · rw [e2]; exact g4.1
end IT9
