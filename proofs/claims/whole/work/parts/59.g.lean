/-! ONE MORE: objects made, lists grown, the relation kept. Written by wip/b/mk59.py. -/
def fh_ (G : GH) (b : Nat) : Prop := ∀ s i, i < gc_ G s → ga_ G s i ≠ b
theorem fh_of {K LN : Nat → Nat} {σ : TH} {G : GH} {b : Nat} (h : sh_ K LN σ G) (hb : nx_ σ ≤ b) : fh_ G b := fun s i hi e => by
  have := sh_lt h hi
  omega
theorem fh_gn {G : GH} {r b b2 : Nat} (h : fh_ G b2) (hne : b ≠ b2) : fh_ (gn_ G r b) b2 := fun s i hi e => by
  by_cases q : s = r ∧ i = gc_ G r
  · have : ga_ (gn_ G r b) s i = b := if_pos q
    exact hne (this.symm.trans e)
  · have e1 : ga_ (gn_ G r b) s i = ga_ G s i := if_neg q
    refine h s i ?_ (e1.symm.trans e)
    have hq : i < if s = r then gc_ G r + 1 else gc_ G s := hi
    by_cases e2 : s = r
    · subst e2
      rw [if_pos rfl] at hq
      have : i ≠ gc_ G s := fun z => q ⟨rfl, z⟩
      omega
    · rw [if_neg e2] at hq; exact hq
theorem sh_gn2 {K LN : Nat → Nat} {τ : TH} {G : GH} {r b : Nat} (h : sh_ K LN τ G) (hb : fh_ G b) (hk : kd_ τ b = K r) (hk0 : K r ≠ 0) (hl : LN r ≠ 0 → ln_ τ b = LN r) : sh_ K LN τ (gn_ G r b) := by
  refine ⟨h.1, fun s i hi => ?_⟩
  by_cases e : s = r ∧ i = gc_ G r
  · obtain ⟨rfl, rfl⟩ := e
    have e1 : ga_ (gn_ G s b) s (gc_ G s) = b := if_pos ⟨rfl, rfl⟩
    rw [e1]
    exact ⟨hk, hk0, hl, if_pos rfl⟩
  · have hi' : i < gc_ G s := by
      have hq : i < if s = r then gc_ G r + 1 else gc_ G s := hi
      by_cases e2 : s = r
      · subst e2
        rw [if_pos rfl] at hq
        have : i ≠ gc_ G s := fun q => e ⟨rfl, q⟩
        omega
      · rw [if_neg e2] at hq; exact hq
    obtain ⟨h1, h2, h3, h4⟩ := h.2 s i hi'
    have e1 : ga_ (gn_ G r b) s i = ga_ G s i := if_neg e
    rw [e1]
    exact ⟨h1, h2, h3, (if_neg (hb s i hi')).trans h4⟩
/-- a list's array, anew or as it was -/
def gy_ (G : GH) (s e : Nat) : GH := (fun q => if q = s then 1 else gc_ G q, fun q i => if q = s ∧ i = 0 then e else ga_ G q i, fun a => if a = e then (s, 0) else gl_ G a)
theorem sh_gy {K LN : Nat → Nat} {τ : TH} {G : GH} {s e : Nat} (h : sh_ K LN τ G) (he : fh_ G e ∨ (0 < gc_ G s ∧ e = ga_ G s 0)) (hk : kd_ τ e = K s) (hk0 : K s ≠ 0) (hl : LN s = 0) : sh_ K LN τ (gy_ G s e) := by
  refine ⟨h.1, fun r i hi => ?_⟩
  by_cases e0 : r = s
  · subst e0
    have hi' : i < if r = r then 1 else gc_ G r := hi
    rw [if_pos rfl] at hi'
    have : i = 0 := by omega
    subst this
    have e1 : ga_ (gy_ G r e) r 0 = e := if_pos ⟨rfl, rfl⟩
    rw [e1]
    exact ⟨hk, hk0, fun z => absurd hl z, if_pos rfl⟩
  · have hi' : i < gc_ G r := by
      have hq : i < if r = s then 1 else gc_ G r := hi
      rw [if_neg e0] at hq; exact hq
    have e1 : ga_ (gy_ G s e) r i = ga_ G r i := if_neg (fun z => e0 z.1)
    obtain ⟨h1, h2, h3, h4⟩ := h.2 r i hi'
    have hne : ga_ G r i ≠ e := by
      rcases he with he | ⟨h5, h6⟩
      · exact he r i hi'
      · rw [h6]; exact sh_ne h hi' h5 (Or.inl e0)
    rw [e1]
    exact ⟨h1, h2, h3, (if_neg hne).trans h4⟩
theorem ls_fq {ka : Nat → Nat} {σ τ : TH} {a e n : Nat} {f : Nat → Nat} {T : Nat → Prop} (h : ls_ ka σ a e n f) (hw : wf_ σ) (hf : fq_ T σ τ) (ha : ¬ T a) (he : ¬ T e) (hk : ka 200 < nx_ σ) : ls_ ka τ a e n f := by
  obtain ⟨h1, h2, h3, h4, h5, h6⟩ := h
  have nz : ∀ q, kd_ σ q ≠ 0 → q < nx_ σ ∧ kd_ τ q = kd_ σ q ∧ ln_ τ q = ln_ σ q := fun q hq => ⟨(hw.2 q (hw.1 q hq)).1, hf.1.2.2.2.2 q hq⟩
  obtain ⟨b1, b2, b3⟩ := nz a (by rw [h1]; decide)
  have ca := hf.2.2 a b1 ha
  have c1 : fi_ τ 2 a = fi_ σ 2 a := congrFun (congrArg (fun z => z.2.1) ca) 2
  have c2 : fr_ τ 1 a = fr_ σ 1 a := congrFun (congrArg (fun z => z.2.2.1) ca) 1
  refine ⟨b2.trans h1, c1.trans h2, c2.trans h3, h4, ?_, fun i hi => ?_⟩
  · rcases h5 with ⟨k1, k2, k3, k4⟩ | ⟨k1, k2, k3⟩
    · obtain ⟨d1, d2, d3⟩ := nz e (by rw [k1]; decide)
      rw [d2, d3]
      exact Or.inl ⟨k1, k2, k3, k4⟩
    · refine Or.inr ⟨k1, ?_, k3⟩
      rw [k1] at k2 ⊢
      exact fq_k0 hf hw hk k2
  · obtain ⟨q1, q2, q3⟩ := h6 i hi
    obtain ⟨d1, d2, d3⟩ := nz (f i) (by omega)
    rw [d2]
    refine ⟨?_, q2, q3⟩
    rcases h5 with ⟨k1, -⟩ | ⟨-, -, k3⟩
    · obtain ⟨d1, d2, d3⟩ := nz e (by rw [k1]; decide)
      have ce := hf.2.2 e d1 he
      have c3 : ar_ τ e i = ar_ σ e i := congrFun (congrArg (fun z => z.2.2.2.2.2.1) ce) i
      rw [c3]; exact q1
    · omega
section C59
variable {ka : Nat → Nat} {TX : Nat → Nat → (Nat → Int32) → Nat → (Nat → Int32) → Prop} {x y o N0 : Nat}
theorem rc_ka {σ : TH} {G : GH} {A : AS} {N : Nat → Nat} (h : rc_ ka TX σ x G A N) {r i : Nat} (hi : i < gc_ G r) : ga_ G r i ≠ ka 200 := fun e => by
  obtain ⟨h1, h2, -⟩ := h.1.2 r i hi
  rw [e, h.2.1.2.1] at h1
  exact h2 h1.symm
theorem rc_gen2 {σ τ : TH} {G G1 : GH} {A A1 : AS} {N N1 : Nat → Nat} {T : Nat → Prop} (h : rc_ ka TX σ x G A N) (hf : fq_ T σ τ) (hsh : sh_ KC LC τ G1) (hcg : cg_ G1 N1) (L : List Nat) (hG : ∀ r, ¬ r ∈ L → gc_ G1 r = gc_ G r ∧ ∀ i, ga_ G1 r i = ga_ G r i) (hx : ga_ G1 0 0 = x) (hT : ∀ q, T q → (∃ r i, r ∈ L ∧ i < gc_ G r ∧ q = ga_ G r i) ∨ q = ka 200) (hob : ∀ r i m, ¬ r ∈ L → ob_ ka TX A G N r i m → ob_ ka TX A1 G1 N1 r i m) (hD : ∀ r i, r ∈ L → i < gc_ G1 r → ob_ ka TX A1 G1 N1 r i (ce_ τ (ga_ G1 r i))) : rc_ ka TX τ x G1 A1 N1 := by
  have hlt := h.2.1.2.2
  refine ⟨hsh, ⟨hx, fq_k0 hf h.1.1 hlt h.2.1.2.1, Nat.lt_of_lt_of_le hlt hf.1.1⟩, hcg, fun r i hi => ?_⟩
  by_cases hd : r ∈ L
  · exact hD r i hd hi
  · obtain ⟨g1, g2⟩ := hG r hd
    rw [g1] at hi
    have hn : ¬ T (ga_ G r i) := fun ht => by
      rcases hT _ ht with ⟨s, j, hs, hj, e⟩ | e
      · exact sh_ne h.1 hi hj (Or.inl (fun q => hd (q ▸ hs))) e
      · exact rc_ka h hi e
    rw [g2, rc_ce h hf hi hn]
    exact hob r i _ hd (h.2.2.2 r i hi)
theorem s3_fi2 {X σ : TH} {y : Nat} {v w : Int32} {j k c : Nat} (hX : fi_ X = fi_ (si_ σ 1600 y 0)) (hc : 1600 + k = c) (hj : j ≠ k) : fi_ (tr_ (si_ X c y w) y v) (1600 + j) y = s3_ (fun q => fi_ σ (1600 + q) y) v j := by
  rw [← s3_fi]
  unfold tr_
  have a1 : ¬ (1600 + j = c) := by omega
  simp only [fi_si, hX, up2_e, a1, and_true, if_false]
theorem ad_1 {σ s : TH} {G : GH} {A : AS} {N : Nat → Nat} (h : rc_ ka TX σ x G A N) (hN : N 4 < 1000) {b : Nat} (hf : fq_ (fun _ => False) σ s) (hb : nx_ σ ≤ b ∧ kd_ s b = 12) : ∃ (e1 : Nat) (τ : TH), f_Jx4a65c_add_9ea2d ka s (ga_ G 1 0) (some b) = some (1, τ) ∧ fq_ (fun q => q = ga_ G 1 0 ∨ q = (if gc_ G 51 = 0 then ka 200 else ga_ G 51 0)) s τ ∧ (nx_ τ ≤ nx_ s + 1 ∧ sl_ τ ≤ sl_ s + 2000) ∧ kd_ τ e1 = 24 ∧ ((0 < gc_ G 51 ∧ e1 = ga_ G 51 0) ∨ nx_ s ≤ e1) ∧ ls_ ka τ (ga_ G 1 0) e1 (N 4 + 1) (fun i => if i = N 4 then b else ga_ G 30 i) := by
  have h0 := rc_l1 h (by omega)
  have hl := ls_fq h0 h.1.1 hf (fun z => z) (fun z => z) h.2.1.2.2
  obtain ⟨e1, τ, k1, k2, k3, k4, k5, -⟩ := l_add (ka := ka) hf.2.1 hl hN (b := b) (by rw [hb.2]; decide)
  refine ⟨e1, τ, k1, k3, ?_, k5, ?_, k2⟩
  · rcases k4 with ⟨-, -, h1, h2⟩ | ⟨-, h1, h2⟩
    · exact ⟨by omega, by omega⟩
    · exact ⟨by omega, by omega⟩
  · rcases k4 with ⟨h1, h2, -⟩ | ⟨h1, -⟩
    · refine Or.inl ?_
      by_cases z : gc_ G 51 = 0
      · rw [if_pos z, fq_k0 hf h.1.1 h.2.1.2.2 h.2.1.2.1] at h2
        cases h2
      · rw [if_neg z] at h1
        exact ⟨Nat.pos_of_ne_zero z, h1⟩
    · exact Or.inr (by omega)
/-- the list and its array behind it -/
theorem ao_1 {τ : TH} {G1 : GH} {A : AS} {N1 : Nat → Nat} {a e1 : Nat} {f : Nat → Nat} (h : ls_ ka τ a e1 (N1 4) f) (hk : kd_ τ e1 = 24) (hg : gc_ G1 51 = 1 ∧ ga_ G1 51 0 = e1) (hf : ∀ j, j < N1 4 → f j = ga_ G1 30 j) : ob_ ka TX A G1 N1 1 0 (ce_ τ a) ∧ ob_ ka TX A G1 N1 51 0 (ce_ τ e1) := by
  obtain ⟨h1, h2, h3, h4, h5, h6⟩ := h
  have h7 : kd_ τ e1 = 24 ∧ N1 4 ≤ ln_ τ e1 ∧ 0 < ln_ τ e1 ∧ ln_ τ e1 ≤ 2000 := by
    rcases h5 with q | ⟨-, q, -⟩
    · exact q
    · rw [hk] at q; cases q
  refine ⟨⟨h2, ?_, fun z => by rw [hg.1] at z; cases z⟩, ⟨h7.2.1, h7.2.2.1, h7.2.2.2, fun j hj => ?_⟩⟩
  · rw [if_neg (by rw [hg.1]; decide), hg.2]
    exact h3
  · rw [← hf j hj]
    exact (h6 j hj).1
theorem ad_2 {σ s : TH} {G : GH} {A : AS} {N : Nat → Nat} (h : rc_ ka TX σ x G A N) (hN : N 5 < 1000) {b : Nat} (hf : fq_ (fun _ => False) σ s) (hb : nx_ σ ≤ b ∧ kd_ s b = 4) : ∃ (e1 : Nat) (τ : TH), f_Jx4a65c_add_9ea2d ka s (ga_ G 2 0) (some b) = some (1, τ) ∧ fq_ (fun q => q = ga_ G 2 0 ∨ q = (if gc_ G 52 = 0 then ka 200 else ga_ G 52 0)) s τ ∧ (nx_ τ ≤ nx_ s + 1 ∧ sl_ τ ≤ sl_ s + 2000) ∧ kd_ τ e1 = 24 ∧ ((0 < gc_ G 52 ∧ e1 = ga_ G 52 0) ∨ nx_ s ≤ e1) ∧ ls_ ka τ (ga_ G 2 0) e1 (N 5 + 1) (fun i => if i = N 5 then b else ga_ G 31 i) := by
  have h0 := rc_l2 h (by omega)
  have hl := ls_fq h0 h.1.1 hf (fun z => z) (fun z => z) h.2.1.2.2
  obtain ⟨e1, τ, k1, k2, k3, k4, k5, -⟩ := l_add (ka := ka) hf.2.1 hl hN (b := b) (by rw [hb.2]; decide)
  refine ⟨e1, τ, k1, k3, ?_, k5, ?_, k2⟩
  · rcases k4 with ⟨-, -, h1, h2⟩ | ⟨-, h1, h2⟩
    · exact ⟨by omega, by omega⟩
    · exact ⟨by omega, by omega⟩
  · rcases k4 with ⟨h1, h2, -⟩ | ⟨h1, -⟩
    · refine Or.inl ?_
      by_cases z : gc_ G 52 = 0
      · rw [if_pos z, fq_k0 hf h.1.1 h.2.1.2.2 h.2.1.2.1] at h2
        cases h2
      · rw [if_neg z] at h1
        exact ⟨Nat.pos_of_ne_zero z, h1⟩
    · exact Or.inr (by omega)
/-- the list and its array behind it -/
theorem ao_2 {τ : TH} {G1 : GH} {A : AS} {N1 : Nat → Nat} {a e1 : Nat} {f : Nat → Nat} (h : ls_ ka τ a e1 (N1 5) f) (hk : kd_ τ e1 = 24) (hg : gc_ G1 52 = 1 ∧ ga_ G1 52 0 = e1) (hf : ∀ j, j < N1 5 → f j = ga_ G1 31 j) : ob_ ka TX A G1 N1 2 0 (ce_ τ a) ∧ ob_ ka TX A G1 N1 52 0 (ce_ τ e1) := by
  obtain ⟨h1, h2, h3, h4, h5, h6⟩ := h
  have h7 : kd_ τ e1 = 24 ∧ N1 5 ≤ ln_ τ e1 ∧ 0 < ln_ τ e1 ∧ ln_ τ e1 ≤ 2000 := by
    rcases h5 with q | ⟨-, q, -⟩
    · exact q
    · rw [hk] at q; cases q
  refine ⟨⟨h2, ?_, fun z => by rw [hg.1] at z; cases z⟩, ⟨h7.2.1, h7.2.2.1, h7.2.2.2, fun j hj => ?_⟩⟩
  · rw [if_neg (by rw [hg.1]; decide), hg.2]
    exact h3
  · rw [← hf j hj]
    exact (h6 j hj).1
theorem ad_3 {σ s : TH} {G : GH} {A : AS} {N : Nat → Nat} (h : rc_ ka TX σ x G A N) (hN : N 58 < 1000) {b : Nat} (hf : fq_ (fun _ => False) σ s) (hb : nx_ σ ≤ b ∧ kd_ s b = 11) : ∃ (e1 : Nat) (τ : TH), f_Jx4a65c_add_9ea2d ka s (ga_ G 3 0) (some b) = some (1, τ) ∧ fq_ (fun q => q = ga_ G 3 0 ∨ q = (if gc_ G 53 = 0 then ka 200 else ga_ G 53 0)) s τ ∧ (nx_ τ ≤ nx_ s + 1 ∧ sl_ τ ≤ sl_ s + 2000) ∧ kd_ τ e1 = 24 ∧ ((0 < gc_ G 53 ∧ e1 = ga_ G 53 0) ∨ nx_ s ≤ e1) ∧ ls_ ka τ (ga_ G 3 0) e1 (N 58 + 1) (fun i => if i = N 58 then b else ga_ G 39 i) := by
  have h0 := rc_l3 h (by omega)
  have hl := ls_fq h0 h.1.1 hf (fun z => z) (fun z => z) h.2.1.2.2
  obtain ⟨e1, τ, k1, k2, k3, k4, k5, -⟩ := l_add (ka := ka) hf.2.1 hl hN (b := b) (by rw [hb.2]; decide)
  refine ⟨e1, τ, k1, k3, ?_, k5, ?_, k2⟩
  · rcases k4 with ⟨-, -, h1, h2⟩ | ⟨-, h1, h2⟩
    · exact ⟨by omega, by omega⟩
    · exact ⟨by omega, by omega⟩
  · rcases k4 with ⟨h1, h2, -⟩ | ⟨h1, -⟩
    · refine Or.inl ?_
      by_cases z : gc_ G 53 = 0
      · rw [if_pos z, fq_k0 hf h.1.1 h.2.1.2.2 h.2.1.2.1] at h2
        cases h2
      · rw [if_neg z] at h1
        exact ⟨Nat.pos_of_ne_zero z, h1⟩
    · exact Or.inr (by omega)
/-- the list and its array behind it -/
theorem ao_3 {τ : TH} {G1 : GH} {A : AS} {N1 : Nat → Nat} {a e1 : Nat} {f : Nat → Nat} (h : ls_ ka τ a e1 (N1 58) f) (hk : kd_ τ e1 = 24) (hg : gc_ G1 53 = 1 ∧ ga_ G1 53 0 = e1) (hf : ∀ j, j < N1 58 → f j = ga_ G1 39 j) : ob_ ka TX A G1 N1 3 0 (ce_ τ a) ∧ ob_ ka TX A G1 N1 53 0 (ce_ τ e1) := by
  obtain ⟨h1, h2, h3, h4, h5, h6⟩ := h
  have h7 : kd_ τ e1 = 24 ∧ N1 58 ≤ ln_ τ e1 ∧ 0 < ln_ τ e1 ∧ ln_ τ e1 ≤ 2000 := by
    rcases h5 with q | ⟨-, q, -⟩
    · exact q
    · rw [hk] at q; cases q
  refine ⟨⟨h2, ?_, fun z => by rw [hg.1] at z; cases z⟩, ⟨h7.2.1, h7.2.2.1, h7.2.2.2, fun j hj => ?_⟩⟩
  · rw [if_neg (by rw [hg.1]; decide), hg.2]
    exact h3
  · rw [← hf j hj]
    exact (h6 j hj).1
theorem ad_4 {σ s : TH} {G : GH} {A : AS} {N : Nat → Nat} (h : rc_ ka TX σ x G A N) (hN : N 59 < 1000) {b : Nat} (hf : fq_ (fun _ => False) σ s) (hb : nx_ σ ≤ b ∧ kd_ s b = 9) : ∃ (e1 : Nat) (τ : TH), f_Jx4a65c_add_9ea2d ka s (ga_ G 4 0) (some b) = some (1, τ) ∧ fq_ (fun q => q = ga_ G 4 0 ∨ q = (if gc_ G 54 = 0 then ka 200 else ga_ G 54 0)) s τ ∧ (nx_ τ ≤ nx_ s + 1 ∧ sl_ τ ≤ sl_ s + 2000) ∧ kd_ τ e1 = 24 ∧ ((0 < gc_ G 54 ∧ e1 = ga_ G 54 0) ∨ nx_ s ≤ e1) ∧ ls_ ka τ (ga_ G 4 0) e1 (N 59 + 1) (fun i => if i = N 59 then b else ga_ G 41 i) := by
  have h0 := rc_l4 h (by omega)
  have hl := ls_fq h0 h.1.1 hf (fun z => z) (fun z => z) h.2.1.2.2
  obtain ⟨e1, τ, k1, k2, k3, k4, k5, -⟩ := l_add (ka := ka) hf.2.1 hl hN (b := b) (by rw [hb.2]; decide)
  refine ⟨e1, τ, k1, k3, ?_, k5, ?_, k2⟩
  · rcases k4 with ⟨-, -, h1, h2⟩ | ⟨-, h1, h2⟩
    · exact ⟨by omega, by omega⟩
    · exact ⟨by omega, by omega⟩
  · rcases k4 with ⟨h1, h2, -⟩ | ⟨h1, -⟩
    · refine Or.inl ?_
      by_cases z : gc_ G 54 = 0
      · rw [if_pos z, fq_k0 hf h.1.1 h.2.1.2.2 h.2.1.2.1] at h2
        cases h2
      · rw [if_neg z] at h1
        exact ⟨Nat.pos_of_ne_zero z, h1⟩
    · exact Or.inr (by omega)
/-- the list and its array behind it -/
theorem ao_4 {τ : TH} {G1 : GH} {A : AS} {N1 : Nat → Nat} {a e1 : Nat} {f : Nat → Nat} (h : ls_ ka τ a e1 (N1 59) f) (hk : kd_ τ e1 = 24) (hg : gc_ G1 54 = 1 ∧ ga_ G1 54 0 = e1) (hf : ∀ j, j < N1 59 → f j = ga_ G1 41 j) : ob_ ka TX A G1 N1 4 0 (ce_ τ a) ∧ ob_ ka TX A G1 N1 54 0 (ce_ τ e1) := by
  obtain ⟨h1, h2, h3, h4, h5, h6⟩ := h
  have h7 : kd_ τ e1 = 24 ∧ N1 59 ≤ ln_ τ e1 ∧ 0 < ln_ τ e1 ∧ ln_ τ e1 ≤ 2000 := by
    rcases h5 with q | ⟨-, q, -⟩
    · exact q
    · rw [hk] at q; cases q
  refine ⟨⟨h2, ?_, fun z => by rw [hg.1] at z; cases z⟩, ⟨h7.2.1, h7.2.2.1, h7.2.2.2, fun j hj => ?_⟩⟩
  · rw [if_neg (by rw [hg.1]; decide), hg.2]
    exact h3
  · rw [← hf j hj]
    exact (h6 j hj).1
theorem ad_5 {σ s : TH} {G : GH} {A : AS} {N : Nat → Nat} (h : rc_ ka TX σ x G A N) (hN : N 69 < 1000) {b : Nat} (hf : fq_ (fun _ => False) σ s) (hb : nx_ σ ≤ b ∧ kd_ s b = 5) : ∃ (e1 : Nat) (τ : TH), f_Jx4a65c_add_9ea2d ka s (ga_ G 5 0) (some b) = some (1, τ) ∧ fq_ (fun q => q = ga_ G 5 0 ∨ q = (if gc_ G 55 = 0 then ka 200 else ga_ G 55 0)) s τ ∧ (nx_ τ ≤ nx_ s + 1 ∧ sl_ τ ≤ sl_ s + 2000) ∧ kd_ τ e1 = 24 ∧ ((0 < gc_ G 55 ∧ e1 = ga_ G 55 0) ∨ nx_ s ≤ e1) ∧ ls_ ka τ (ga_ G 5 0) e1 (N 69 + 1) (fun i => if i = N 69 then b else ga_ G 44 i) := by
  have h0 := rc_l5 h (by omega)
  have hl := ls_fq h0 h.1.1 hf (fun z => z) (fun z => z) h.2.1.2.2
  obtain ⟨e1, τ, k1, k2, k3, k4, k5, -⟩ := l_add (ka := ka) hf.2.1 hl hN (b := b) (by rw [hb.2]; decide)
  refine ⟨e1, τ, k1, k3, ?_, k5, ?_, k2⟩
  · rcases k4 with ⟨-, -, h1, h2⟩ | ⟨-, h1, h2⟩
    · exact ⟨by omega, by omega⟩
    · exact ⟨by omega, by omega⟩
  · rcases k4 with ⟨h1, h2, -⟩ | ⟨h1, -⟩
    · refine Or.inl ?_
      by_cases z : gc_ G 55 = 0
      · rw [if_pos z, fq_k0 hf h.1.1 h.2.1.2.2 h.2.1.2.1] at h2
        cases h2
      · rw [if_neg z] at h1
        exact ⟨Nat.pos_of_ne_zero z, h1⟩
    · exact Or.inr (by omega)
/-- the list and its array behind it -/
theorem ao_5 {τ : TH} {G1 : GH} {A : AS} {N1 : Nat → Nat} {a e1 : Nat} {f : Nat → Nat} (h : ls_ ka τ a e1 (N1 69) f) (hk : kd_ τ e1 = 24) (hg : gc_ G1 55 = 1 ∧ ga_ G1 55 0 = e1) (hf : ∀ j, j < N1 69 → f j = ga_ G1 44 j) : ob_ ka TX A G1 N1 5 0 (ce_ τ a) ∧ ob_ ka TX A G1 N1 55 0 (ce_ τ e1) := by
  obtain ⟨h1, h2, h3, h4, h5, h6⟩ := h
  have h7 : kd_ τ e1 = 24 ∧ N1 69 ≤ ln_ τ e1 ∧ 0 < ln_ τ e1 ∧ ln_ τ e1 ≤ 2000 := by
    rcases h5 with q | ⟨-, q, -⟩
    · exact q
    · rw [hk] at q; cases q
  refine ⟨⟨h2, ?_, fun z => by rw [hg.1] at z; cases z⟩, ⟨h7.2.1, h7.2.2.1, h7.2.2.2, fun j hj => ?_⟩⟩
  · rw [if_neg (by rw [hg.1]; decide), hg.2]
    exact h3
  · rw [← hf j hj]
    exact (h6 j hj).1
theorem ad_6 {σ s : TH} {G : GH} {A : AS} {N : Nat → Nat} (h : rc_ ka TX σ x G A N) (hN : N 70 < 1000) {b : Nat} (hf : fq_ (fun _ => False) σ s) (hb : nx_ σ ≤ b ∧ kd_ s b = 7) : ∃ (e1 : Nat) (τ : TH), f_Jx4a65c_add_9ea2d ka s (ga_ G 6 0) (some b) = some (1, τ) ∧ fq_ (fun q => q = ga_ G 6 0 ∨ q = (if gc_ G 56 = 0 then ka 200 else ga_ G 56 0)) s τ ∧ (nx_ τ ≤ nx_ s + 1 ∧ sl_ τ ≤ sl_ s + 2000) ∧ kd_ τ e1 = 24 ∧ ((0 < gc_ G 56 ∧ e1 = ga_ G 56 0) ∨ nx_ s ≤ e1) ∧ ls_ ka τ (ga_ G 6 0) e1 (N 70 + 1) (fun i => if i = N 70 then b else ga_ G 45 i) := by
  have h0 := rc_l6 h (by omega)
  have hl := ls_fq h0 h.1.1 hf (fun z => z) (fun z => z) h.2.1.2.2
  obtain ⟨e1, τ, k1, k2, k3, k4, k5, -⟩ := l_add (ka := ka) hf.2.1 hl hN (b := b) (by rw [hb.2]; decide)
  refine ⟨e1, τ, k1, k3, ?_, k5, ?_, k2⟩
  · rcases k4 with ⟨-, -, h1, h2⟩ | ⟨-, h1, h2⟩
    · exact ⟨by omega, by omega⟩
    · exact ⟨by omega, by omega⟩
  · rcases k4 with ⟨h1, h2, -⟩ | ⟨h1, -⟩
    · refine Or.inl ?_
      by_cases z : gc_ G 56 = 0
      · rw [if_pos z, fq_k0 hf h.1.1 h.2.1.2.2 h.2.1.2.1] at h2
        cases h2
      · rw [if_neg z] at h1
        exact ⟨Nat.pos_of_ne_zero z, h1⟩
    · exact Or.inr (by omega)
/-- the list and its array behind it -/
theorem ao_6 {τ : TH} {G1 : GH} {A : AS} {N1 : Nat → Nat} {a e1 : Nat} {f : Nat → Nat} (h : ls_ ka τ a e1 (N1 70) f) (hk : kd_ τ e1 = 24) (hg : gc_ G1 56 = 1 ∧ ga_ G1 56 0 = e1) (hf : ∀ j, j < N1 70 → f j = ga_ G1 45 j) : ob_ ka TX A G1 N1 6 0 (ce_ τ a) ∧ ob_ ka TX A G1 N1 56 0 (ce_ τ e1) := by
  obtain ⟨h1, h2, h3, h4, h5, h6⟩ := h
  have h7 : kd_ τ e1 = 24 ∧ N1 70 ≤ ln_ τ e1 ∧ 0 < ln_ τ e1 ∧ ln_ τ e1 ≤ 2000 := by
    rcases h5 with q | ⟨-, q, -⟩
    · exact q
    · rw [hk] at q; cases q
  refine ⟨⟨h2, ?_, fun z => by rw [hg.1] at z; cases z⟩, ⟨h7.2.1, h7.2.2.1, h7.2.2.2, fun j hj => ?_⟩⟩
  · rw [if_neg (by rw [hg.1]; decide), hg.2]
    exact h3
  · rw [← hf j hj]
    exact (h6 j hj).1
theorem ad_7 {σ s : TH} {G : GH} {A : AS} {N : Nat → Nat} (h : rc_ ka TX σ x G A N) (hN : N 71 < 1000) {b : Nat} (hf : fq_ (fun _ => False) σ s) (hb : nx_ σ ≤ b ∧ kd_ s b = 3) : ∃ (e1 : Nat) (τ : TH), f_Jx4a65c_add_9ea2d ka s (ga_ G 7 0) (some b) = some (1, τ) ∧ fq_ (fun q => q = ga_ G 7 0 ∨ q = (if gc_ G 57 = 0 then ka 200 else ga_ G 57 0)) s τ ∧ (nx_ τ ≤ nx_ s + 1 ∧ sl_ τ ≤ sl_ s + 2000) ∧ kd_ τ e1 = 24 ∧ ((0 < gc_ G 57 ∧ e1 = ga_ G 57 0) ∨ nx_ s ≤ e1) ∧ ls_ ka τ (ga_ G 7 0) e1 (N 71 + 1) (fun i => if i = N 71 then b else ga_ G 46 i) := by
  have h0 := rc_l7 h (by omega)
  have hl := ls_fq h0 h.1.1 hf (fun z => z) (fun z => z) h.2.1.2.2
  obtain ⟨e1, τ, k1, k2, k3, k4, k5, -⟩ := l_add (ka := ka) hf.2.1 hl hN (b := b) (by rw [hb.2]; decide)
  refine ⟨e1, τ, k1, k3, ?_, k5, ?_, k2⟩
  · rcases k4 with ⟨-, -, h1, h2⟩ | ⟨-, h1, h2⟩
    · exact ⟨by omega, by omega⟩
    · exact ⟨by omega, by omega⟩
  · rcases k4 with ⟨h1, h2, -⟩ | ⟨h1, -⟩
    · refine Or.inl ?_
      by_cases z : gc_ G 57 = 0
      · rw [if_pos z, fq_k0 hf h.1.1 h.2.1.2.2 h.2.1.2.1] at h2
        cases h2
      · rw [if_neg z] at h1
        exact ⟨Nat.pos_of_ne_zero z, h1⟩
    · exact Or.inr (by omega)
/-- the list and its array behind it -/
theorem ao_7 {τ : TH} {G1 : GH} {A : AS} {N1 : Nat → Nat} {a e1 : Nat} {f : Nat → Nat} (h : ls_ ka τ a e1 (N1 71) f) (hk : kd_ τ e1 = 24) (hg : gc_ G1 57 = 1 ∧ ga_ G1 57 0 = e1) (hf : ∀ j, j < N1 71 → f j = ga_ G1 46 j) : ob_ ka TX A G1 N1 7 0 (ce_ τ a) ∧ ob_ ka TX A G1 N1 57 0 (ce_ τ e1) := by
  obtain ⟨h1, h2, h3, h4, h5, h6⟩ := h
  have h7 : kd_ τ e1 = 24 ∧ N1 71 ≤ ln_ τ e1 ∧ 0 < ln_ τ e1 ∧ ln_ τ e1 ≤ 2000 := by
    rcases h5 with q | ⟨-, q, -⟩
    · exact q
    · rw [hk] at q; cases q
  refine ⟨⟨h2, ?_, fun z => by rw [hg.1] at z; cases z⟩, ⟨h7.2.1, h7.2.2.1, h7.2.2.2, fun j hj => ?_⟩⟩
  · rw [if_neg (by rw [hg.1]; decide), hg.2]
    exact h3
  · rw [← hf j hj]
    exact (h6 j hj).1
end C59
