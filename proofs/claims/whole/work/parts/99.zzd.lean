/-! CALLS: an edition on either side. Written by wip/b/mk99zzd.py. -/
theorem fq_a {T : Nat → Prop} {σ τ : TH} (h : fq_ T σ τ) : fq_ (fun _ => True) σ τ := fq_w h (fun _ _ => trivial)
section KED
variable {ka : Nat → Nat} {x : Nat} {c : TH} {G : GH} {A : AS} {N : Nat → Nat}
theorem ad7x {TX : Nat → Nat → (Nat → Int32) → Nat → (Nat → Int32) → Prop} {s : TH} (h : rc_ ka TX s x G A N) (hN : N 71 < 1000) {b : Nat} (hb : kd_ s b = 3) : ∃ (e1 : Nat) (τ : TH), f_Jx4a65c_add_9ea2d ka s (ga_ G 7 0) (some b) = some (1, τ) ∧ fq_ (fun q => q = ga_ G 7 0 ∨ q = (if gc_ G 57 = 0 then ka 200 else ga_ G 57 0)) s τ ∧ (nx_ τ ≤ nx_ s + 1 ∧ sl_ τ ≤ sl_ s + 2000) ∧ kd_ τ e1 = 24 ∧ ((0 < gc_ G 57 ∧ e1 = ga_ G 57 0) ∨ nx_ s ≤ e1) ∧ ls_ ka τ (ga_ G 7 0) e1 (N 71 + 1) (fun i => if i = N 71 then b else ga_ G 46 i) := by
  have hl := rc_l7 h (by omega)
  obtain ⟨e1, τ, k1, k2, k3, k4, k5, -⟩ := l_add (ka := ka) h.1.1 hl hN (b := b) (by rw [hb]; decide)
  refine ⟨e1, τ, k1, k3, ?_, k5, ?_, k2⟩
  · rcases k4 with ⟨-, -, h1, h2⟩ | ⟨-, h1, h2⟩
    · exact ⟨by omega, by omega⟩
    · exact ⟨by omega, by omega⟩
  · rcases k4 with ⟨h1, h2, -⟩ | ⟨h1, -⟩
    · refine Or.inl ?_
      by_cases z : gc_ G 57 = 0
      · rw [if_pos z, h.2.1.2.1] at h2
        cases h2
      · rw [if_neg z] at h1
        exact ⟨Nat.pos_of_ne_zero z, h1⟩
    · exact Or.inr (by omega)
theorem fh_kT8 {s : TH} (h : rc_ ka TXp_ s x G A N) {q : Nat} (hq : fh_ G q) : ¬ kT8_ G q := fun z => by
  have f : ∀ {r}, r ∈ ([0, 1, 2, 3, 4, 5, 6, 7, 8, 9, 10, 11, 12, 13, 14, 15, 16, 17, 18, 19, 20, 21, 22] : List Nat) → ¬ q = ga_ G r 0 := fun hr e => hq _ 0 (rc_1 h hr) e.symm
  rcases z with z | z | z | z
  · unfold cq5_ at z
    rcases z with z | z | z | z | z | z
    all_goals exact f (by decide) z
  all_goals exact f (by decide) z
theorem edA_v {A : AS} {o : Option Nat} {j t : Nat} (h : j ≠ 77) : aV (edA_ A o) j t = aV A j t := by
  cases o with
  | none => rfl
  | some i => exact congrFun (up2_c h) t
/-- the class makes an edition, up to the list -/
theorem k_edition1 (h : rc_ ka TXp_ c x G A N) {p L : Nat} {v : Int32} (hv : pv_ A N) (hp : p < N 5) (hN : N 5 ≤ 30) (hN6 : N 6 ≤ 5257439) (e6 : aS A 6 = nI (N 6)) (hN69 : N 69 ≤ 40) (hN70 : N 70 ≤ 60) (hL : L ≤ 4000) (hLen : ∀ A2 : AS, A2 = edA_ A (edP_ A N p L) → ∀ k, k < N 47 → aP A2 1400 k = nI p → (ot9_ A2 N p k).length ≤ 880) {s : TH} (hs : np_ c s 3 (fun q => if q = 201 then nI (td_ N) else if q = 200 then nI p else if q = 207 then 0 else if q = 206 then 0 else if q = 205 then 0 else if q = 204 then -2 else if q = 203 then 0 else if q = 202 then 0 else 0) (fun q => if q = 209 then some (nx_ c + 2) else if q = 208 then some (nx_ c + 1) else none) 3 30 (fun j => if j = 2 then some (20, 10) else if j = 1 then some (20, 10) else none)) (A2 : AS) (hA2 : A2 = edA_ A (edP_ A N p L)) (r n : Nat) (hr : edQ_ A2 p (N 70) 0 (L - eb0_ (edP_ A N p L)) = (r, n)) : ∃ s1 s2 s3 s4, f_X11_layPicture s x (some (nx_ c)) (nI L) = some ((), s1) ∧ f_X11_layQuotes s1 x (some (nx_ c)) (nI L) = some ((), s2) ∧ fi_ s2 202 (nx_ c) = nI (L - r) ∧ kd_ s2 (nx_ c) = 3 ∧ f_X11_chooseParagraphs s2 x (some (ga_ G 31 p)) (nI r) v = some ((), s3) ∧ rc_ ka TXp_ s3 x G A2 N ∧ (fi_ s3 108 (ga_ G 17 0) = nI (pk_ (cga8_ A2 N p) (cco8_ A2 N p) (cle8_ A2 N p) (cop8_ A2 N p v) 1 (r : Int) (st_ A2 N p) 0 (0, 0, 0) (0, -1, (r : Int) + 1)).1 ∧ fi_ s3 110 (ga_ G 17 0) = zI (pk_ (cga8_ A2 N p) (cco8_ A2 N p) (cle8_ A2 N p) (cop8_ A2 N p v) 1 (r : Int) (st_ A2 N p) 0 (0, 0, 0) (0, -1, (r : Int) + 1)).2.2 ∧ fi_ s3 202 (nx_ c) = nI (L - r)) ∧ f_X11_layFacts (si_ (si_ s3 203 (nx_ c) (nI (pk_ (cga8_ A2 N p) (cco8_ A2 N p) (cle8_ A2 N p) (cop8_ A2 N p v) 1 (r : Int) (st_ A2 N p) 0 (0, 0, 0) (0, -1, (r : Int) + 1)).1)) 202 (nx_ c) (nI (L - r) + zI (pk_ (cga8_ A2 N p) (cco8_ A2 N p) (cle8_ A2 N p) (cop8_ A2 N p v) 1 (r : Int) (st_ A2 N p) 0 (0, 0, 0) (0, -1, (r : Int) + 1)).2.2)) (some (nx_ c)) (some (ga_ G 31 p)) = some ((), s4) ∧ rc_ ka TXp_ s4 x G A2 N ∧ fq_ (fun _ => True) c s4 ∧ (nx_ s4 = nx_ c + 3 ∧ sl_ s4 = sl_ c + 30) ∧ ((fh_ G (nx_ c) ∧ kd_ s4 (nx_ c) = 3) ∧ (fh_ G (nx_ c + 1) ∧ kd_ s4 (nx_ c + 1) = 20 ∧ ln_ s4 (nx_ c + 1) = 10) ∧ (fh_ G (nx_ c + 2) ∧ kd_ s4 (nx_ c + 2) = 20 ∧ ln_ s4 (nx_ c + 2) = 10)) ∧ (fr_ s4 208 (nx_ c) = some (nx_ c + 1) ∧ fr_ s4 209 (nx_ c) = some (nx_ c + 2)) ∧ (fi_ s4 200 (nx_ c) = nI p ∧ fi_ s4 201 (nx_ c) = nI (td_ N) ∧ fi_ s4 202 (nx_ c) = nI (L - r) + zI (pk_ (cga8_ A2 N p) (cco8_ A2 N p) (cle8_ A2 N p) (cop8_ A2 N p v) 1 (r : Int) (st_ A2 N p) 0 (0, 0, 0) (0, -1, (r : Int) + 1)).2.2 ∧ fi_ s4 203 (nx_ c) = nI (pk_ (cga8_ A2 N p) (cco8_ A2 N p) (cle8_ A2 N p) (cop8_ A2 N p v) 1 (r : Int) (st_ A2 N p) 0 (0, 0, 0) (0, -1, (r : Int) + 1)).1 ∧ fi_ s4 204 (nx_ c) = edI_ (edP_ A N p L) ∧ fi_ s4 205 (nx_ c) = nI n ∧ fi_ s4 206 (nx_ c) = bo_ (edO_ A2 N p (edK_ A2 N p (nI (pk_ (cga8_ A2 N p) (cco8_ A2 N p) (cle8_ A2 N p) (cop8_ A2 N p v) 1 (r : Int) (st_ A2 N p) 0 (0, 0, 0) (0, -1, (r : Int) + 1)).1) (st_ A2 N p))) 10 ∧ fi_ s4 207 (nx_ c) = 0) ∧ ∀ k, k < 10 → bt (bo_ (edO_ A2 N p (edK_ A2 N p (nI (pk_ (cga8_ A2 N p) (cco8_ A2 N p) (cle8_ A2 N p) (cop8_ A2 N p v) 1 (r : Int) (st_ A2 N p) 0 (0, 0, 0) (0, -1, (r : Int) + 1)).1) (st_ A2 N p))) 10) k = true → ai_ s4 (nx_ c + 1) k = edV_ A2 N p k ∧ ai_ s4 (nx_ c + 2) k = edV_ A2 N p k := by
  obtain ⟨q1, ⟨q2, -, -⟩, q3, q4, ⟨q5, q5s⟩, q6⟩ := hs
  obtain ⟨-, d1k, d1l, -, -⟩ := q6 1 20 10 rfl
  obtain ⟨-, d2k, d2l, -, -⟩ := q6 2 20 10 rfl
  have rs : rc_ ka TXp_ s x G A N := rc_fh h q1 (fun q z => z.elim)
  have f0 : fh_ G (nx_ c) := fh_of h.1 (Nat.le_refl _)
  have f1 : fh_ G (nx_ c + 1) := fh_of h.1 (by omega)
  have f2 : fh_ G (nx_ c + 2) := fh_of h.1 (by omega)
  obtain ⟨E, hE⟩ : ∃ E, E = nx_ c := ⟨_, rfl⟩
  rw [← hE] at q2 q3 q4 q5 d1k d1l d2k d2l f0 f1 f2 ⊢
  obtain ⟨s1, a1, a2, a3, a4, a5, a6⟩ := k_layPicture rs hN69 (E := E) (p := p) (L := L) ⟨q2, f0, q3 200, q3 201⟩ hL (q3 204) (q3 202)
  rw [← hA2] at a2
  have hpv : pv_ A2 N := by
    rw [hA2]
    cases e : edP_ A N p L with
    | none => exact hv
    | some j =>
      have hj : j < N 69 := by
        unfold edP_ at e
        by_cases z : L < 200
        · rw [if_pos z] at e; cases e
        · rw [if_neg z] at e; exact edB_lt e
      exact pv_77 _ hj hv
  have eb : eb0_ (edP_ A N p L) ≤ L := by
    cases e : edP_ A N p L with
    | none => exact Nat.zero_le _
    | some j =>
      unfold edP_ at e
      by_cases z : L < 200
      · rw [if_pos z] at e; cases e
      · show 200 ≤ L
        omega
  have kd1 : kd_ s1 E = 3 := fq_kd a3 q2 (by decide)
  obtain ⟨s2, b1, b2, b3, b4, b5, b6⟩ := k_layQuotesL (E := E) (p := p) (L := L) hpv.2.2.2.2.2.1 hN70 hL f0 (N 70) 0 fu_ (L - eb0_ (edP_ A N p L)) 0 s1 (by omega) (by unfold fu_; omega) (by omega) a2 kd1 ((a6 200).trans (q3 200)) ((a6 202).trans (by
    rw [if_neg (by decide), if_pos rfl, show L - (L - eb0_ (edP_ A N p L)) = eb0_ (edP_ A N p L) by omega])) ((a6 205).trans (q3 205))
  rw [hr] at b6
  have hrL : r ≤ L := by
    have := (edQ_le (A := A2) (p := p) (N 70) 0 (L - eb0_ (edP_ A N p L))).1
    rw [hr] at this
    dsimp only at this
    omega
  have kd2 : kd_ s2 E = 3 := fq_kd b3 kd1 (by decide)
  have hPl : ∀ k, k < N 47 → aP A2 1401 k = nI (pl_ A2 k) := fun k hk => (k_text b2 hk).2.1
  have hst := (hpv.2.1 p hp).2.2.2
  have h15 := (k_per b2 hp).2.2.2.2
  have e62 : aS A2 6 = nI (N 6) := by
    rw [hA2]
    cases edP_ A N p L <;> exact e6
  obtain ⟨s3, c1, c2, c3, c4, c5, c6, c7⟩ := k_choosePar (v := v) (lim := (r : Int)) b2 hPl hst hpv.2.2.2.1 ⟨hp, hN, hpv.1, hpv.2.1, hN6, e62, h15⟩ (hLen A2 hA2) ⟨by omega, by omega⟩
  rw [zI_nI] at c1
  generalize (pk_ (cga8_ A2 N p) (cco8_ A2 N p) (cle8_ A2 N p) (cop8_ A2 N p v) 1 (r : Int) (st_ A2 N p) 0 (0, 0, 0) (0, -1, (r : Int) + 1)) = PK at c5 c6 c7 ⊢
  have nk := fh_kT8 b2 f0
  have nk1 := fh_kT8 b2 f1
  have nk2 := fh_kT8 b2 f2
  have kd3 : kd_ s3 E = 3 := fq_kd c3 kd2 (by decide)
  have n2 : nx_ s2 = nx_ s := b4.1.trans a4.1
  have fi3 : ∀ d, fi_ s3 d E = fi_ s2 d E := fun d => fq_fi c3 (by omega) nk d
  have fr3 : ∀ d, fr_ s3 d E = fr_ s2 d E := fun d => fq_fr c3 (by omega) nk d
  have r1 := rc_fh c2 (fq_si (T := fun q => q = E) (c := 203) (v := nI PK.1) c2.1.1 rfl) (fun q z => by rw [z]; exact f0)
  have r2 := rc_fh r1 (fq_si (T := fun q => q = E) (c := 202) (v := nI (L - r) + zI PK.2.2) r1.1.1 rfl) (fun q z => by rw [z]; exact f0)
  have fsc : fq_ (fun _ => True) s s3 := fq_tr (fq_tr (fq_a a3) (fq_a b3)) (fq_a c3)
  have kd31 : kd_ s3 (E + 1) = 20 := fq_kd fsc d1k (by decide)
  have kd32 : kd_ s3 (E + 2) = 20 := fq_kd fsc d2k (by decide)
  have ln31 : ln_ s3 (E + 1) = 10 := (fsc.1.2.2.2.2 (E + 1) (by rw [d1k]; decide)).2.trans d1l
  have ln32 : ln_ s3 (E + 2) = 10 := (fsc.1.2.2.2.2 (E + 2) (by rw [d2k]; decide)).2.trans d2l
  have w203 : fi_ (si_ (si_ s3 203 E (nI PK.1)) 202 E (nI (L - r) + zI PK.2.2)) 203 E = nI PK.1 := by rw [fi_si, up2_c (by decide), fi_si, up2_s]
  obtain ⟨s4, g1, g2, g3, g4, ⟨g5, g6⟩, g7⟩ := k_layFacts (E := E) (p := p) (u := nI PK.1) r2 hPl hst hp hN kd3 f0 f1 f2 w203 ((fr3 208).trans ((b5 208).trans ((a5 208).trans ((q4 208).trans (by rw [hE]; rfl))))) ((fr3 209).trans ((b5 209).trans ((a5 209).trans ((q4 209).trans (by rw [hE]; rfl))))) ⟨kd31, ln31⟩ ⟨kd32, ln32⟩
  have f3w : fi_ s3 202 E = nI (L - r) := (fi3 202).trans ((b6 202).trans (if_pos rfl))
  have fx : ∀ d, d ≠ 202 → d ≠ 203 → d ≠ 206 → fi_ s4 d E = fi_ s2 d E := fun d h1 h2 h3 => by
    rw [g6 d, if_neg h3, fi_si, up2_c h1, fi_si, up2_c h2, fi3]
  have fsd : fq_ (fun _ => True) s s4 := fq_tr (fqi (fqi fsc trivial) trivial) (fq_a g3)
  refine ⟨s1, s2, s3, s4, a1, b1, (b6 202).trans (if_pos rfl), kd2, c1, c2, ⟨c5, c7, f3w⟩, g1, g2, fq_tr (fq_a q1) fsd, ⟨?_, ?_⟩, ⟨⟨f0, fq_kd fsd q2 (by decide)⟩, ⟨f1, fq_kd fsd d1k (by decide), (fsd.1.2.2.2.2 (E + 1) (by rw [d1k]; decide)).2.trans d1l⟩, ⟨f2, fq_kd fsd d2k (by decide), (fsd.1.2.2.2.2 (E + 2) (by rw [d2k]; decide)).2.trans d2l⟩⟩, ⟨?_, ?_⟩, ⟨?_, ?_, ?_, ?_, ?_, ?_, ?_, ?_⟩, g7⟩
  · have z1 : nx_ s4 = nx_ s3 := g4.1
    omega
  · have z1 : sl_ s4 = sl_ s3 := g4.2
    have z2 := c4.2
    have z3 := b4.2
    have z4 := a4.2
    omega
  · exact (g5 208).trans ((fr3 208).trans ((b5 208).trans ((a5 208).trans ((q4 208).trans (by rw [hE]; rfl)))))
  · exact (g5 209).trans ((fr3 209).trans ((b5 209).trans ((a5 209).trans ((q4 209).trans (by rw [hE]; rfl)))))
  · exact (fx 200 (by decide) (by decide) (by decide)).trans ((b6 200).trans ((a6 200).trans (q3 200)))
  · exact (fx 201 (by decide) (by decide) (by decide)).trans ((b6 201).trans ((a6 201).trans (q3 201)))
  · rw [g6 202, if_neg (by decide), fi_si, up2_s]
  · rw [g6 203, if_neg (by decide)]; exact w203
  · exact (fx 204 (by decide) (by decide) (by decide)).trans ((b6 204).trans ((a6 204).trans (if_pos rfl)))
  · exact (fx 205 (by decide) (by decide) (by decide)).trans ((b6 205).trans (by rw [if_neg (by decide), if_pos rfl, Nat.zero_add]))
  · exact (g6 206).trans (if_pos rfl)
  · exact (fx 207 (by decide) (by decide) (by decide)).trans ((b6 207).trans ((a6 207).trans (q3 207)))
end KED
section MED
variable {σ : TH} {y : Nat} {G : GH} {A : AS} {N : Nat → Nat}
theorem fh_mU9 (h : mr_ σ y G A N) {q : Nat} (hq : fh_ G q) : ¬ mU9_ y G q := fun z => by
  have f : ∀ {r}, r ∈ MA → ¬ q = ga_ G r 0 := fun hr e => hq _ 0 (by rw [(h.1.2.2.1 _ hr).1]; decide) e.symm
  have f0 : ¬ q = y := fun e => hq 0 0 (by rw [h.1.2.1.1]; decide) (h.1.2.1.2.1.trans e.symm)
  rcases z with (z | z | z) | z | z | z | z
  · exact f0 z
  all_goals exact f (by decide) z
/-- the reference makes an edition, up to its list -/
theorem m_edition1 (h : mr_ σ y G A N) {p L : Nat} {v : Int32} (hv : pv_ A N) (hp : p < N 5) (hN : N 5 ≤ 30) (hN6 : N 6 ≤ 5257439) (hL : L ≤ 4000) (hd : dR_ A N p = true) {s : TH} (hs : np_ σ s 14 (fun q => if q = 1301 then nI (td_ N) else if q = 1300 then nI p else 0) (fun q => if q = 1310 then some (nx_ σ + 2) else if q = 1309 then some (nx_ σ + 1) else none) 3 31 (fun j => if j = 2 then some (20, 10) else if j = 1 then some (20, 10) else none)) (A2 : AS) (hA2 : A2 = edA_ A (edP_ A N p L)) (hPl : ∀ k, k < N 47 → aP A2 1401 k = nI (pl_ A2 k)) (h15 : aV A2 15 p = bi_ (0 ≤ aV A2 12 p)) (hX : ∀ k, k < N 47 → ∃ len arr, TXp_ 0 (aL A2 k) (aB A2 k) len arr) (r n : Nat) (hr : edQ_ A2 p (N 70) 0 (L - eb0_ (edP_ A N p L)) = (r, n)) : ∃ s4, f_X15_edition_b126 s y (nI p) (nI L) v (some (nx_ σ)) (nI L) (edI_ (edP_ A N p L)) (some (nx_ σ)) = edZ_ s4 y (nx_ σ) ∧ mr_ s4 y G A2 N ∧ fq_ (fun _ => True) σ s4 ∧ (nx_ s4 = nx_ σ + 3 ∧ sl_ s4 = sl_ σ + 31) ∧ ((fh_ G (nx_ σ) ∧ kd_ s4 (nx_ σ) = 14) ∧ (fh_ G (nx_ σ + 1) ∧ kd_ s4 (nx_ σ + 1) = 20 ∧ ln_ s4 (nx_ σ + 1) = 10) ∧ (fh_ G (nx_ σ + 2) ∧ kd_ s4 (nx_ σ + 2) = 20 ∧ ln_ s4 (nx_ σ + 2) = 10)) ∧ (fr_ s4 1309 (nx_ σ) = some (nx_ σ + 1) ∧ fr_ s4 1310 (nx_ σ) = some (nx_ σ + 2)) ∧ (fi_ s4 1300 (nx_ σ) = nI p ∧ fi_ s4 1301 (nx_ σ) = nI (td_ N) ∧ fi_ s4 1302 (nx_ σ) = nI (L - r) + zI (pk_ (cga8_ A2 N p) (cco8_ A2 N p) (cle8_ A2 N p) (cop8_ A2 N p v) 1 (r : Int) (st_ A2 N p) 0 (0, 0, 0) (0, -1, (r : Int) + 1)).2.2 ∧ fi_ s4 1303 (nx_ σ) = nI (pk_ (cga8_ A2 N p) (cco8_ A2 N p) (cle8_ A2 N p) (cop8_ A2 N p v) 1 (r : Int) (st_ A2 N p) 0 (0, 0, 0) (0, -1, (r : Int) + 1)).1 ∧ fi_ s4 1304 (nx_ σ) = edI_ (edP_ A N p L) ∧ fi_ s4 1305 (nx_ σ) = nI n ∧ fi_ s4 1306 (nx_ σ) = bo_ (edO_ A2 N p (edK_ A2 N p (nI (pk_ (cga8_ A2 N p) (cco8_ A2 N p) (cle8_ A2 N p) (cop8_ A2 N p v) 1 (r : Int) (st_ A2 N p) 0 (0, 0, 0) (0, -1, (r : Int) + 1)).1) (st_ A2 N p))) 10 ∧ fi_ s4 1307 (nx_ σ) = 0 ∧ fi_ s4 1308 (nx_ σ) = 0) ∧ (∀ k, k < 10 → bt (bo_ (edO_ A2 N p (edK_ A2 N p (nI (pk_ (cga8_ A2 N p) (cco8_ A2 N p) (cle8_ A2 N p) (cop8_ A2 N p v) 1 (r : Int) (st_ A2 N p) 0 (0, 0, 0) (0, -1, (r : Int) + 1)).1) (st_ A2 N p))) 10) k = true → ai_ s4 (nx_ σ + 1) k = edV_ A2 N p k) ∧ ∀ j, j ∈ DS → fi_ s4 (1600 + j) y = fi_ σ (1600 + j) y := by
  obtain ⟨q1, ⟨q2, -, -⟩, q3, q4, ⟨q5, q5s⟩, q6⟩ := hs
  obtain ⟨-, d1k, d1l, -, -⟩ := q6 1 20 10 rfl
  obtain ⟨-, d2k, d2l, -, -⟩ := q6 2 20 10 rfl
  have rs : mr_ s y G A N := mr_fh h q1 (fun q z => z.elim)
  have f0 : fh_ G (nx_ σ) := fh_of h.1.1 (Nat.le_refl _)
  have f1 : fh_ G (nx_ σ + 1) := fh_of h.1.1 (by omega)
  have f2 : fh_ G (nx_ σ + 2) := fh_of h.1.1 (by omega)
  have yl : y < nx_ σ := kd_ltn h.1.1.1 (mo_y h.1) (by decide)
  have fsy : ∀ d, fi_ s d y = fi_ σ d y := fun d => fq_fi q1 yl (fun z => z) d
  obtain ⟨E, hE⟩ : ∃ E, E = nx_ σ := ⟨_, rfl⟩
  rw [← hE] at q2 q3 q4 q5 d1k d1l d2k d2l f0 f1 f2 yl ⊢
  have yE : y ≠ E := by omega
  have yE1 : y ≠ E + 1 := by omega
  have hpv : pv_ A2 N := by
    rw [hA2]
    cases e : edP_ A N p L with
    | none => exact hv
    | some j =>
      have hj : j < N 69 := by
        unfold edP_ at e
        by_cases z : L < 200
        · rw [if_pos z] at e; cases e
        · rw [if_neg z] at e; exact edB_lt e
      exact pv_77 _ hj hv
  have hd2 : dR_ A2 N p = true := by
    rw [hA2]
    unfold dR_ at hd ⊢
    rw [edA_v (by decide), edA_v (by decide)]
    exact hd
  -- the picture
  have pic : ∃ s1, f_X15_edition_b126 s y (nI p) (nI L) v (some E) (nI L) (edI_ (edP_ A N p L)) (some E) = f_X15_edition_b165 fu_ s1 y (nI p) (nI L) v (some E) (nI (L - eb0_ (edP_ A N p L))) 1 (nI 0) ∧ mr_ s1 y G A2 N ∧ fq_ (fun q => q = E ∨ q = ga_ G 77 0) s s1 ∧ (nx_ s1 = nx_ s ∧ sl_ s1 = sl_ s) ∧ (∀ d, fr_ s1 d E = fr_ s d E) ∧ ∀ d, fi_ s1 d E = if d = 1304 then edI_ (edP_ A N p L) else fi_ s d E := by
    have r1 := mr_fh rs (fq_si (T := fun q => q = E) (c := 1304) (v := edI_ (edP_ A N p L)) rs.1.1.1 rfl) (fun q z => by rw [z]; exact f0)
    have c4 : ∀ d, fi_ (si_ s 1304 E (edI_ (edP_ A N p L))) d E = if d = 1304 then edI_ (edP_ A N p L) else fi_ s d E := fun d => by
      rw [fi_si]
      by_cases z : d = 1304
      · subst z; rw [up2_s, if_pos rfl]
      · rw [up2_c z, if_neg z]
    unfold f_X15_edition_b126 f_X15_edition_b159
    rw [nn_s, gt_t q2, lt_e, nn_s, gt_t (show kd_ (si_ s 1304 E (edI_ (edP_ A N p L))) E = 14 from q2), lt_e, c4 1304, if_pos rfl]
    rw [hA2]
    cases e : edP_ A N p L with
    | none =>
      rw [e] at r1 c4
      rw [if_pos (show edI_ none = -2 from rfl)]
      exact ⟨si_ s 1304 E (edI_ none), rfl, r1, fqi (fq_rf rs.1.1.1) (Or.inl rfl), ⟨rfl, rfl⟩, fun _ => rfl, c4⟩
    | some j =>
      rw [e] at r1 c4
      have hN69 := (mo_n h.1 (j := 69) (cj := 1669) (m := 40) (by decide)).2
      have hj : j < N 69 ∧ 200 ≤ L := by
        unfold edP_ at e
        by_cases z : L < 200
        · rw [if_pos z] at e; cases e
        · rw [if_neg z] at e; exact ⟨edB_lt e, by omega⟩
      have nj : ¬ edI_ (some j) = -2 := fun q => by
        have q : nI j = -2 := q
        have h2 := nI_pos' (n := j) (by omega)
        rw [q] at h2
        exact absurd h2 (by decide)
      obtain ⟨a7, b7, c7⟩ := mo_a r1.1 (j := 77) (cj := 1677) (K := 20) (n := 40) (by decide)
      have v7 := mr_V r1 (j := 77) (by decide) j
      have ix := ix9_ (k := j) (M := 40) (by omega) (by omega)
      have cl : (nI j).toNatClampNeg = j := nI_clamp (by omega)
      have r2 := mr_sa r1 (j := 77) (by decide) j (aV A 77 j + 1)
      have sub : nI L + (-200) = nI (L - 200) := by
        rw [← sub9_ hj.2]
        exact (Int32.sub_eq_add_neg (nI L) 200).symm
      rw [if_neg nj, gt_t (mo_y r1.1), lt_e, a7, lt_e, nn_s, gt_t b7, show edI_ (some j) = nI j from rfl, cl, show ln_ (si_ s 1304 E (nI j)) (ga_ G 77 0) = 40 from c7, gt_t ix, lt_e, show ai_ (si_ s 1304 E (nI j)) (ga_ G 77 0) j = aV A 77 j from v7, gt_t ix, lt_e, lt_e, sub]
      exact ⟨sa_ (si_ s 1304 E (nI j)) (ga_ G 77 0) j (aV A 77 j + 1), rfl, r2, fqa (fqi (fq_rf rs.1.1.1) (Or.inl rfl)) (Or.inr rfl), ⟨rfl, rfl⟩, fun _ => rfl, c4⟩
  obtain ⟨s1, p1, p2, p3, p4, p5, p6⟩ := pic
  have g77 : ¬ y = ga_ G 77 0 := fun z => by
    have g7 : 0 < gc_ G 77 := by rw [(h.1.2.2.1 77 (by decide)).1]; decide
    have g0 : 0 < gc_ G 0 := by rw [h.1.2.1.1]; decide
    exact sh_ne h.1.1 g0 g7 (Or.inl (by decide)) (h.1.2.1.2.1.trans z)
  have ysl : y < nx_ s := by omega
  have p7 : ∀ d, fi_ s1 d y = fi_ s d y := fun d => fq_fi p3 ysl (fun z => z.elim yE g77) d
  have kd1 : kd_ s1 E = 14 := fq_kd p3 q2 (by decide)
  obtain ⟨s2, b1, b2, b3, b4, b5, b6⟩ := m_quotes (y := y) (E := E) (p := p) (L := nI L) (v := v) hpv.2.2.2.2.2.1 f0 (N 70) 0 fu_ (L - eb0_ (edP_ A N p L)) 0 s1 (by omega) (by have := (mo_n h.1 (j := 70) (cj := 1670) (m := 60) (by decide)).2; unfold fu_; omega) (by omega) p2 kd1 ((p6 1305).trans (q3 1305))
  rw [hr] at b1 b6
  have hrL : r ≤ L := by
    have := (edQ_le (A := A2) (p := p) (N 70) 0 (L - eb0_ (edP_ A N p L))).1
    rw [hr] at this
    dsimp only at this
    omega
  have b7 : ∀ d, fi_ s2 d y = fi_ s1 d y := fun d => fq_fi b3 (by omega) yE d
  have kd2 : kd_ s2 E = 14 := fq_kd b3 kd1 (by decide)
  have hst := (hpv.2.1 p hp).2.2.2
  obtain ⟨s3, c1, c2, c3, c4, c5⟩ := m_cuts (v := v) (lim := (r : Int)) b2 hpv hPl hp hN h15 hX ⟨by omega, by omega⟩
  rw [zI_nI] at c1
  generalize (pk_ (cga8_ A2 N p) (cco8_ A2 N p) (cle8_ A2 N p) (cop8_ A2 N p v) 1 (r : Int) (st_ A2 N p) 0 (0, 0, 0) (0, -1, (r : Int) + 1)) = PK at c1 ⊢
  have nu := fh_mU9 b2 f0
  have n2 : nx_ s2 = nx_ s := b4.1.trans p4.1
  have kd3 : kd_ s3 E = 14 := fq_kd c3 kd2 (by decide)
  have fi3 : ∀ d, fi_ s3 d E = fi_ s2 d E := fun d => fq_fi c3 (by omega) nu d
  have fr3 : ∀ d, fr_ s3 d E = fr_ s2 d E := fun d => fq_fr c3 (by omega) nu d
  have r1 : mr_ (cbm8_ s3 y PK) y G A2 N := mr_si (mr_si (mr_si c2 (j := 53) (by decide) _) (j := 54) (by decide) _) (j := 55) (by decide) _
  have r2 := mr_fh r1 (fq_si (T := fun q => q = E) (c := 1303) (v := nI PK.1) r1.1.1.1 rfl) (fun q z => by rw [z]; exact f0)
  have r3 := mr_fh r2 (fq_si (T := fun q => q = E) (c := 1302) (v := nI (L - r) + zI PK.2.2) r2.1.1.1 rfl) (fun q z => by rw [z]; exact f0)
  have fsc : fq_ (fun _ => True) s s3 := fq_tr (fq_tr (fq_a p3) (fq_a b3)) (fq_a c3)
  have fsc2 : fq_ (fun _ => True) s (si_ (si_ (cbm8_ s3 y PK) 1303 E (nI PK.1)) 1302 E (nI (L - r) + zI PK.2.2)) := fqi (fqi (fqi (fqi (fqi fsc trivial) trivial) trivial) trivial) trivial
  have cE : ∀ d, d ≠ 1653 ∧ d ≠ 1654 ∧ d ≠ 1655 → fi_ (cbm8_ s3 y PK) d E = fi_ s2 d E := fun d hd => by rw [cbm8_f hd, fi3]
  have w0 : ∀ d, d ≠ 1302 → d ≠ 1303 → d < 1600 → fi_ (si_ (si_ (cbm8_ s3 y PK) 1303 E (nI PK.1)) 1302 E (nI (L - r) + zI PK.2.2)) d E = fi_ s2 d E := fun d h1 h2 h3 => by rw [fi_si, up2_c h1, fi_si, up2_c h2, cE d ⟨by omega, by omega, by omega⟩]
  have w1653 : fi_ (si_ (si_ (cbm8_ s3 y PK) 1303 E (nI PK.1)) 1302 E (nI (L - r) + zI PK.2.2)) 1653 y = nI PK.1 := by rw [fi_si, up2_c (by decide), fi_si, up2_c (by decide), cbm8_3]
  have mk := m_kinds (E := E) (p := p) (u := nI PK.1) r3 hPl hst w1653
  have frE : ∀ d, fr_ (si_ (si_ (cbm8_ s3 y PK) 1303 E (nI PK.1)) 1302 E (nI (L - r) + zI PK.2.2)) d E = fr_ s d E := fun d => (fr3 d).trans ((b5 d).trans (p5 d))
  obtain ⟨s4, g1, g2, g3, g4, ⟨g5, g6⟩, g7⟩ := m_facts (E := E) (p := p) (K := edK_ A2 N p (nI PK.1) (st_ A2 N p)) r3 hpv hp hN hN6 hd2 (show kd_ (si_ (si_ (cbm8_ s3 y PK) 1303 E (nI PK.1)) 1302 E (nI (L - r) + zI PK.2.2)) E = 14 from kd3) f0 f1 ((w0 1301 (by decide) (by decide) (by decide)).trans ((b6 1301).trans ((p6 1301).trans (q3 1301)))) ((w0 1306 (by decide) (by decide) (by decide)).trans ((b6 1306).trans ((p6 1306).trans (q3 1306)))) ((frE 1309).trans ((q4 1309).trans (by rw [hE]; rfl))) ⟨fq_kd fsc2 d1k (by decide), (fsc2.1.2.2.2.2 (E + 1) (by rw [d1k]; decide)).2.trans d1l⟩
  have fx : ∀ d, d ≠ 1302 → d ≠ 1303 → d ≠ 1306 → d < 1600 → fi_ s4 d E = fi_ s2 d E := fun d h1 h2 h3 h4 => by
    rw [g6 d, if_neg h3, w0 d h1 h2 h4]
  have fsd : fq_ (fun _ => True) s s4 := fq_tr fsc2 (fq_a g3)
  refine ⟨s4, ?_, g2, fq_tr (fq_a q1) fsd, ⟨?_, ?_⟩, ⟨⟨f0, fq_kd fsd q2 (by decide)⟩, ⟨f1, fq_kd fsd d1k (by decide), (fsd.1.2.2.2.2 (E + 1) (by rw [d1k]; decide)).2.trans d1l⟩, ⟨f2, fq_kd fsd d2k (by decide), (fsd.1.2.2.2.2 (E + 2) (by rw [d2k]; decide)).2.trans d2l⟩⟩, ⟨?_, ?_⟩, ⟨?_, ?_, ?_, ?_, ?_, ?_, ?_, ?_, ?_⟩, fun k hk hb => ?_, fun j hj => ?_⟩
  · rw [p1, b1]
    unfold edC_
    rw [c1, bd_s, lt_e, cbm8_3, nn_s, gt_t (show kd_ (cbm8_ s3 y PK) E = 14 from kd3), lt_e, lt_e, fi_si, up2_c (by decide), cbm8_5, sub9_ hrL, lt_e]
    exact mk.trans g1
  · have z1 : nx_ s4 = nx_ s3 := g4.1
    have z2 := c4.1
    omega
  · have z1 : sl_ s4 = sl_ s3 := g4.2
    have z2 := c4.2
    have z3 := b4.2
    have z4 := p4.2
    omega
  · exact (g5 1309).trans ((frE 1309).trans ((q4 1309).trans (by rw [hE]; rfl)))
  · exact (g5 1310).trans ((frE 1310).trans ((q4 1310).trans (by rw [hE]; rfl)))
  · exact (fx 1300 (by decide) (by decide) (by decide) (by decide)).trans ((b6 1300).trans ((p6 1300).trans (q3 1300)))
  · exact (fx 1301 (by decide) (by decide) (by decide) (by decide)).trans ((b6 1301).trans ((p6 1301).trans (q3 1301)))
  · rw [g6 1302, if_neg (by decide), fi_si, up2_s]
  · rw [g6 1303, if_neg (by decide), fi_si, up2_c (by decide), fi_si, up2_s]
  · exact (fx 1304 (by decide) (by decide) (by decide) (by decide)).trans ((b6 1304).trans ((p6 1304).trans (if_pos rfl)))
  · exact (fx 1305 (by decide) (by decide) (by decide) (by decide)).trans ((b6 1305).trans (by rw [if_pos rfl, Nat.zero_add]))
  · exact (g6 1306).trans (if_pos rfl)
  · exact (fx 1307 (by decide) (by decide) (by decide) (by decide)).trans ((b6 1307).trans ((p6 1307).trans (q3 1307)))
  · exact (fx 1308 (by decide) (by decide) (by decide) (by decide)).trans ((b6 1308).trans ((p6 1308).trans (q3 1308)))
  · rw [bt_bo _ 10 (by decide) k (by omega), decide_eq_true hk, Bool.true_and] at hb
    exact g7 k hk hb
  · have hj0 : ∀ j, j ∈ DS → j ≠ 53 ∧ j ≠ 54 ∧ j ≠ 55 := by decide
    obtain ⟨h53, h54, h55⟩ := hj0 j hj
    have z0 : y < nx_ (si_ (si_ (cbm8_ s3 y PK) 1303 E (nI PK.1)) 1302 E (nI (L - r) + zI PK.2.2)) := by
      show y < nx_ s3
      have := c4.1
      omega
    rw [fq_fi g3 z0 (fun z => z.elim yE yE1) (1600 + j), fi_si, up2_c (by omega), fi_si, up2_c (by omega), cbm8_f ⟨by omega, by omega, by omega⟩, c5 j hj, b7, p7, fsy]
end MED
