/-! THE CLASS KEEPS ONE MORE TEXT. Written by wip/b/mk99zd.py. -/
section NT9
variable {ka : Nat → Nat} {TX : Nat → Nat → (Nat → Int32) → Nat → (Nat → Int32) → Prop} {x y o N0 : Nat}
theorem ob_nt {A : AS} {G : GH} {N : Nat → Nat} {r i : Nat} {m : CE} (S : Nat → Int32) (P B : Nat → Nat → Int32) (L : Nat → Nat) (a b : Nat) (hd : ¬ r ∈ ([0, 10, 12, 13, 31, 33, 34, 35, 37, 38] : List Nat)) (h : ob_ ka TX A G N r i m) : ob_ ka TX (S, aV A, P, B, L, A.2.2.2.2.2) (gn_ (gn_ G 37 a) 38 b) (fun q => if q = 47 then N 47 + 1 else if q = 30 then 0 else N q) r i m := by
  match r, hd, h with
  | 0, hd, h => exact absurd (by decide) hd
  | 1, hd, h => exact h
  | 2, hd, h => exact h
  | 3, hd, h => exact h
  | 4, hd, h => exact h
  | 5, hd, h => exact h
  | 6, hd, h => exact h
  | 7, hd, h => exact h
  | 8, hd, h => exact h
  | 9, hd, h => exact h
  | 10, hd, h => exact absurd (by decide) hd
  | 11, hd, h => exact h
  | 12, hd, h => exact absurd (by decide) hd
  | 13, hd, h => exact absurd (by decide) hd
  | 14, hd, h => exact h
  | 15, hd, h => exact h
  | 16, hd, h => exact h
  | 17, hd, h => exact h
  | 18, hd, h => exact h
  | 19, hd, h => exact h
  | 20, hd, h => exact h
  | 21, hd, h => exact h
  | 22, hd, h => exact h
  | 23, hd, h => exact h
  | 24, hd, h => exact h
  | 25, hd, h => exact h
  | 26, hd, h => exact h
  | 27, hd, h => exact h
  | 28, hd, h => exact h
  | 29, hd, h => exact h
  | 30, hd, h => exact h
  | 31, hd, h => exact absurd (by decide) hd
  | 32, hd, h => exact h
  | 33, hd, h => exact absurd (by decide) hd
  | 34, hd, h => exact absurd (by decide) hd
  | 35, hd, h => exact absurd (by decide) hd
  | 36, hd, h => exact h
  | 37, hd, h => exact absurd (by decide) hd
  | 38, hd, h => exact absurd (by decide) hd
  | 39, hd, h => exact h
  | 40, hd, h => exact h
  | 41, hd, h => exact h
  | 42, hd, h => exact h
  | 43, hd, h => exact h
  | 44, hd, h => exact h
  | 45, hd, h => exact h
  | 46, hd, h => exact h
  | 47, hd, h => exact h
  | 48, hd, h => exact h
  | 49, hd, h => exact h
  | 50, hd, h => exact h
  | 51, hd, h => exact h
  | 52, hd, h => exact h
  | 53, hd, h => exact h
  | 54, hd, h => exact h
  | 55, hd, h => exact h
  | 56, hd, h => exact h
  | 57, hd, h => exact h
  | 58, hd, h => exact h
  | r + 59, hd, h => exact h
theorem cg_nt {G : GH} {N : Nat → Nat} {a b : Nat} (h : cg_ G N) : cg_ (gn_ (gn_ G 37 a) 38 b) ((fun q => if q = 47 then N 47 + 1 else if q = 30 then 0 else N q)) := by
  obtain ⟨h0, h30, h31, h32, h33, h34, h35, h36, h37, h38, h39, h40, h41, h42, h43, h44, h45, h46, h47, h48⟩ := h
  refine ⟨fun r hr => ?_, h30, h31, h32, h33, h34, h35, h36, ?_, ?_, h39, h40, h41, h42, h43, h44, h45, h46, h47, h48⟩
  · have h9 : ∀ r, r ∈ ([0, 1, 2, 3, 4, 5, 6, 7, 8, 9, 10, 11, 12, 13, 14, 15, 16, 17, 18, 19, 20, 21, 22] : List Nat) → r ≠ 37 ∧ r ≠ 38 := by decide
    have := h9 r hr
    show gc_ (gn_ (gn_ G 37 a) 38 b) r = 1
    refine Eq.trans ?_ (h0 r hr)
    simp [gy_, gn_, gc_, this]
  · show gc_ (gn_ (gn_ G 37 a) 38 b) 37 = ((fun q => if q = 47 then N 47 + 1 else if q = 30 then 0 else N q)) 47
    simp [gy_, gn_, gc_] at *
    omega
  · show gc_ (gn_ (gn_ G 37 a) 38 b) 38 = ((fun q => if q = 47 then N 47 + 1 else if q = 30 then 0 else N q)) 47
    simp [gy_, gn_, gc_] at *
    omega

theorem rc_nt {c c1 : TH} {G : GH} {A : AS} {N : Nat → Nat} {p a b : Nat} {P B : Nat → Nat → Int32} {L : Nat → Nat} (h : rc_ ka TX c x G A N) (hp : p < N 5) (hN5 : N 5 ≤ 30) (hst : st_ A N p < 14)
    (hf : fq_ (fun q => (q = x ∨ q = ga_ G 10 0 ∨ q = ga_ G 12 0 ∨ q = ga_ G 13 0) ∨ q = ga_ G 31 p ∨ q = ga_ G 33 p ∨ q = ga_ G 34 p ∨ q = ga_ G 35 p) c c1)
    (x1 : ∀ d, fr_ c1 d x = fr_ c d x) (x2 : ∀ d, d ≠ 1212 → d ≠ 1214 → fi_ c1 d x = fi_ c d x) (x3 : fi_ c1 1212 x = nI (N 47 + 1)) (x4 : fi_ c1 1214 x = 0)
    (r1 : ∀ d, fr_ c1 d (ga_ G 10 0) = fr_ c d (ga_ G 10 0)) (r2 : fi_ c1 701 (ga_ G 10 0) = 0) (r3 : fi_ c1 702 (ga_ G 10 0) = 0)
    (p1 : ∀ d, fr_ c1 d (ga_ G 31 p) = fr_ c d (ga_ G 31 p)) (p2 : ∀ d, d ≠ 313 → fi_ c1 d (ga_ G 31 p) = fi_ c d (ga_ G 31 p)) (p3 : fi_ c1 313 (ga_ G 31 p) = nI (st_ A N p + 1))
    (t3 : ∀ j, ar_ c1 (ga_ G 33 p) j = if j = st_ A N p then some a else ar_ c (ga_ G 33 p) j) (t4 : ∀ j, ai_ c1 (ga_ G 34 p) j = if j = st_ A N p then P 1402 (N 47) else ai_ c (ga_ G 34 p) j) (t5 : ∀ j, ai_ c1 (ga_ G 35 p) j = if j = st_ A N p then P 1403 (N 47) else ai_ c (ga_ G 35 p) j)
    (ha : nx_ c ≤ a) (hb : nx_ c ≤ b) (hab : a ≠ b) (a1 : kd_ c1 a = 11 ∧ fr_ c1 1000 a = some b ∧ fi_ c1 1001 a = P 1404 (N 47) ∧ fi_ c1 1002 a = P 1405 (N 47)) (b1 : kd_ c1 b = 20) (b2 : TX 0 (L (N 47)) (B (N 47)) (ln_ c1 b) (ai_ c1 b))
    (hP : ∀ k, k < N 47 → ∀ d, P d k = aP A d k) (hB : ∀ k, k < N 47 → B k = aB A k ∧ L k = aL A k) (e0 : P 1400 (N 47) = nI p) (e1 : P 1401 (N 47) = nI (st_ A N p)) :
    rc_ ka TX c1 x (gn_ (gn_ G 37 a) 38 b) ((fun q => if q = 2 then -1 else if q = 1 then 0 else if q = 3 then 0 else if q = 30 then 0 else if q = 47 then nI (N 47 + 1) else aS A q), aV A, P, B, L, A.2.2.2.2.2) (fun q => if q = 47 then N 47 + 1 else if q = 30 then 0 else N q) := by
  obtain ⟨c37, c38, c33, c34, c35⟩ := rc_37 h
  have c31 := rc_31 h
  have hx0 : ∀ r i, i < gc_ G r → r ≠ 0 → ga_ G r i ≠ x := fun r i hi hr => rc_nx h hi hr
  have nT : ∀ r i, i < gc_ G r → r ≠ 0 → r ≠ 10 → r ≠ 12 → r ≠ 13 → (r = 31 ∨ r = 33 ∨ r = 34 ∨ r = 35 → i ≠ p) → ce_ c1 (ga_ G r i) = ce_ c (ga_ G r i) := fun r i hi z0 z10 z12 z13 zz => by
    refine rc_ce h hf hi (fun q => ?_)
    rcases q with (q | q | q | q) | q | q | q | q
    · exact hx0 r i hi z0 q
    · exact sh_ne h.1 hi (rc_1 h (by decide)) (Or.inl z10) q
    · exact sh_ne h.1 hi (rc_1 h (by decide)) (Or.inl z12) q
    · exact sh_ne h.1 hi (rc_1 h (by decide)) (Or.inl z13) q
    · refine sh_ne h.1 hi (show p < gc_ G 31 by rw [c31]; exact hp) ?_ q
      by_cases w : r = 31
      · exact Or.inr (zz (Or.inl w))
      · exact Or.inl w
    · refine sh_ne h.1 hi (show p < gc_ G 33 by rw [c33]; exact hp) ?_ q
      by_cases w : r = 33
      · exact Or.inr (zz (Or.inr (Or.inl w)))
      · exact Or.inl w
    · refine sh_ne h.1 hi (show p < gc_ G 34 by rw [c34]; exact hp) ?_ q
      by_cases w : r = 34
      · exact Or.inr (zz (Or.inr (Or.inr (Or.inl w))))
      · exact Or.inl w
    · refine sh_ne h.1 hi (show p < gc_ G 35 by rw [c35]; exact hp) ?_ q
      by_cases w : r = 35
      · exact Or.inr (zz (Or.inr (Or.inr (Or.inr w))))
      · exact Or.inl w
  have st9 : ∀ i, i < N 5 → st_ ((fun q => if q = 2 then -1 else if q = 1 then 0 else if q = 3 then 0 else if q = 30 then 0 else if q = 47 then nI (N 47 + 1) else aS A q), aV A, P, B, L, A.2.2.2.2.2) (fun q => if q = 47 then N 47 + 1 else if q = 30 then 0 else N q) i = st_ A N i + if i = p then 1 else 0 := fun i hi => by
    unfold st_
    show cn_ (fun k => decide (P 1400 k = nI i)) (N 47 + 1) = _
    rw [cn_s, cn_cong (q2 := fun k => decide (aP A 1400 k = nI i)) (N 47) (fun k hk => by rw [hP k hk])]
    rw [e0]
    by_cases z : i = p
    · subst z; simp
    · have : ¬ nI p = nI i := fun q => z ((nI_eq (by omega) (by omega)).mp q).symm
      simp [z, this]
  have pl9 : ∀ k, k < N 47 → pl_ ((fun q => if q = 2 then -1 else if q = 1 then 0 else if q = 3 then 0 else if q = 30 then 0 else if q = 47 then nI (N 47 + 1) else aS A q), aV A, P, B, L, A.2.2.2.2.2) k = pl_ A k := fun k hk => by
    unfold pl_
    show cn_ (fun q => decide (P 1400 q = P 1400 k)) k = _
    exact cn_cong k (fun q hq => by rw [hP q (by omega), hP k hk])
  have pln : pl_ ((fun q => if q = 2 then -1 else if q = 1 then 0 else if q = 3 then 0 else if q = 30 then 0 else if q = 47 then nI (N 47 + 1) else aS A q), aV A, P, B, L, A.2.2.2.2.2) (N 47) = st_ A N p := by
    unfold pl_ st_
    show cn_ (fun q => decide (P 1400 q = P 1400 (N 47))) (N 47) = _
    exact cn_cong (N 47) (fun q hq => by rw [hP q hq, e0])
  have hsh : sh_ KC LC c1 (gn_ (gn_ G 37 a) 38 b) := sh_gn2 (r := 38) (sh_gn2 (r := 37) (sh_fq h.1 hf) (fh_of h.1 ha) a1.1 (by decide) (fun z => absurd rfl z)) (fh_gn (fh_of h.1 hb) hab) b1 (by decide) (fun z => absurd rfl z)
  have g37 : ∀ k, ga_ (gn_ (gn_ G 37 a) 38 b) 37 k = if k = N 47 then a else ga_ G 37 k := fun k => by
    rw [← c37]
    show (if 37 = 38 ∧ k = gc_ (gn_ G 37 a) 38 then b else if 37 = 37 ∧ k = gc_ G 37 then a else ga_ G 37 k) = _
    simp
  have g38 : ∀ k, ga_ (gn_ (gn_ G 37 a) 38 b) 38 k = if k = N 47 then b else ga_ G 38 k := fun k => by
    rw [← c38]
    show (if 38 = 38 ∧ k = gc_ G 38 then b else if 38 = 37 ∧ k = gc_ G 37 then a else ga_ G 38 k) = _
    simp
  -- a story's array
  have arrs : ∀ (i k : Nat), i < N 5 → k < N 47 + 1 → P 1400 k = nI i → (k = N 47 ∧ i = p) ∨ (k < N 47 ∧ aP A 1400 k = nI i) := fun i k hi hk e => by
    by_cases z : k = N 47
    · refine Or.inl ⟨z, ?_⟩
      rw [z, e0] at e
      exact ((nI_eq (by omega) (by omega)).mp e).symm
    · refine Or.inr ⟨by omega, ?_⟩
      rw [← hP k (by omega)]; exact e
  refine rc_gen2 h hf hsh (cg_nt h.2.2.1) [0, 10, 12, 13, 31, 33, 34, 35, 37, 38] (fun r hr => ?_) h.2.1.1 (fun q hq => ?_) (fun r i m hr h9 => ob_nt _ P B L a b hr h9) (fun r i hr hi => ?_)
  · have q1 : r ≠ 37 := fun z => hr (by rw [z]; decide)
    have q2 : r ≠ 38 := fun z => hr (by rw [z]; decide)
    exact ⟨by simp [gn_, gc_, q1, q2], fun i => by simp [gn_, ga_, q1, q2]⟩
  · rcases hq with (hq | hq | hq | hq) | hq | hq | hq | hq
    · exact Or.inl ⟨0, 0, by decide, rc_1 h (by decide), hq.trans h.2.1.1.symm⟩
    · exact Or.inl ⟨10, 0, by decide, rc_1 h (by decide), hq⟩
    · exact Or.inl ⟨12, 0, by decide, rc_1 h (by decide), hq⟩
    · exact Or.inl ⟨13, 0, by decide, rc_1 h (by decide), hq⟩
    · exact Or.inl ⟨31, p, by decide, by rw [c31]; exact hp, hq⟩
    · exact Or.inl ⟨33, p, by decide, by rw [c33]; exact hp, hq⟩
    · exact Or.inl ⟨34, p, by decide, by rw [c34]; exact hp, hq⟩
    · exact Or.inl ⟨35, p, by decide, by rw [c35]; exact hp, hq⟩
  · simp only [List.mem_cons, List.not_mem_nil, or_false] at hr
    rcases hr with rfl | rfl | rfl | rfl | rfl | rfl | rfl | rfl | rfl | rfl
    · have : i = 0 := g0_ h (by decide) (show i < gc_ G 0 from hi)
      subst this
      have q := h.2.2.2 0 0 (rc_1 h (by decide))
      show ob_ ka TX _ _ _ 0 0 (ce_ c1 (ga_ G 0 0))
      rw [h.2.1.1] at q ⊢
      obtain ⟨⟨q20, q21, q22, q23, q24, q25, q26, q27, q28, q29, q30, q31⟩, q1, q2, q3, q4, q5, q6, q7, q8⟩ := q
      exact ⟨⟨(x1 1200).trans q20, (x1 1201).trans q21, (x1 1202).trans q22, (x1 1203).trans q23, (x1 1204).trans q24, (x1 1205).trans q25, (x1 1206).trans q26, (x1 1207).trans q27, (x1 1208).trans q28, (x1 1209).trans q29, (x1 1210).trans q30, (x1 1218).trans q31⟩, (x2 1211 (by decide) (by decide)).trans q1, x3, (x2 1213 (by decide) (by decide)).trans q3, x4, (x2 1215 (by decide) (by decide)).trans q5, (x2 1216 (by decide) (by decide)).trans q6, (x2 1217 (by decide) (by decide)).trans q7, (x2 1219 (by decide) (by decide)).trans q8⟩
    · have : i = 0 := g0_ h (by decide) (show i < gc_ G 10 from hi)
      subst this
      obtain ⟨q1, q2, q3, q4, q5, q6, q7⟩ := h.2.2.2 10 0 (rc_1 h (by decide))
      exact ⟨(r1 700).trans q1, (r1 704).trans q2, (r1 705).trans q3, r2, r3, fun z => absurd (show (0 : Int32) = 4 from z) (by decide), fun _ => rfl⟩
    · trivial
    · trivial
    · have hi' : i < N 5 := by rw [← c31]; exact hi
      have hi2 : i < gc_ G 31 := hi
      have s9 := st9 i hi'
      by_cases z : i = p
      · subst z
        obtain ⟨q0, q1, q2, q3, q4, q5, q6, q7, q8, q9, q10, q11, q12, q13, q14⟩ := h.2.2.2 31 i hi2
        rw [if_pos rfl] at s9
        exact ⟨(p2 300 (by decide)).trans q0, (p2 301 (by decide)).trans q1, (p2 302 (by decide)).trans q2, (p2 303 (by decide)).trans q3, (p2 304 (by decide)).trans q4, (p2 305 (by decide)).trans q5, (p2 306 (by decide)).trans q6, (p2 307 (by decide)).trans q7, p3.trans (congrArg nI s9.symm), (p1 309).trans q9, (p1 310).trans q10, (p1 311).trans q11, (p1 312).trans q12, q13, q14⟩
      · show ob_ ka TX _ _ _ 31 i (ce_ c1 (ga_ G 31 i))
        rw [nT 31 i hi2 (by decide) (by decide) (by decide) (by decide) (fun _ => z)]
        obtain ⟨q0, q1, q2, q3, q4, q5, q6, q7, q8, q9, q10, q11, q12, q13, q14⟩ := h.2.2.2 31 i hi2
        rw [if_neg z] at s9
        exact ⟨q0, q1, q2, q3, q4, q5, q6, q7, q8.trans (congrArg nI s9.symm), q9, q10, q11, q12, q13, q14⟩
    · have hi' : i < N 5 := by rw [← c33]; exact hi
      have hi2 : i < gc_ G 33 := hi
      have q := h.2.2.2 33 i hi2
      intro k hk e
      have hk : k < N 47 + 1 := hk
      have e : P 1400 k = nI i := e
      show ar_ c1 (ga_ G 33 i) (pl_ ((fun q => if q = 2 then -1 else if q = 1 then 0 else if q = 3 then 0 else if q = 30 then 0 else if q = 47 then nI (N 47 + 1) else aS A q), aV A, P, B, L, A.2.2.2.2.2) k) = some (ga_ (gn_ (gn_ G 37 a) 38 b) 37 k)
      rw [g37]
      rcases arrs i k hi' hk e with ⟨y1, y2⟩ | ⟨y1, y2⟩
      · subst y2
        rw [y1, pln, t3, if_pos rfl, if_pos rfl]
      · rw [if_neg (by omega), pl9 k y1]
        by_cases z : i = p
        · subst z
          have := pl_st y1 y2
          rw [t3, if_neg (by omega)]
          exact q k y1 y2
        · rw [show ar_ c1 (ga_ G 33 i) = ar_ c (ga_ G 33 i) from congrArg (fun z => z.2.2.2.2.2.1) (nT 33 i hi2 (by decide) (by decide) (by decide) (by decide) (fun _ => z))]
          exact q k y1 y2
    · have hi' : i < N 5 := by rw [← c34]; exact hi
      have hi2 : i < gc_ G 34 := hi
      have q := h.2.2.2 34 i hi2
      intro k hk e
      have hk : k < N 47 + 1 := hk
      have e : P 1400 k = nI i := e
      show ai_ c1 (ga_ G 34 i) (pl_ ((fun q => if q = 2 then -1 else if q = 1 then 0 else if q = 3 then 0 else if q = 30 then 0 else if q = 47 then nI (N 47 + 1) else aS A q), aV A, P, B, L, A.2.2.2.2.2) k) = P 1402 k
      rcases arrs i k hi' hk e with ⟨y1, y2⟩ | ⟨y1, y2⟩
      · subst y2
        rw [y1, pln, t4, if_pos rfl]
      · rw [pl9 k y1, hP k y1]
        by_cases z : i = p
        · subst z
          have := pl_st y1 y2
          rw [t4, if_neg (by omega)]
          exact q k y1 y2
        · rw [show ai_ c1 (ga_ G 34 i) = ai_ c (ga_ G 34 i) from congrArg (fun z => z.2.2.2.2.1) (nT 34 i hi2 (by decide) (by decide) (by decide) (by decide) (fun _ => z))]
          exact q k y1 y2
    · have hi' : i < N 5 := by rw [← c35]; exact hi
      have hi2 : i < gc_ G 35 := hi
      have q := h.2.2.2 35 i hi2
      intro k hk e
      have hk : k < N 47 + 1 := hk
      have e : P 1400 k = nI i := e
      show ai_ c1 (ga_ G 35 i) (pl_ ((fun q => if q = 2 then -1 else if q = 1 then 0 else if q = 3 then 0 else if q = 30 then 0 else if q = 47 then nI (N 47 + 1) else aS A q), aV A, P, B, L, A.2.2.2.2.2) k) = P 1403 k
      rcases arrs i k hi' hk e with ⟨y1, y2⟩ | ⟨y1, y2⟩
      · subst y2
        rw [y1, pln, t5, if_pos rfl]
      · rw [pl9 k y1, hP k y1]
        by_cases z : i = p
        · subst z
          have := pl_st y1 y2
          rw [t5, if_neg (by omega)]
          exact q k y1 y2
        · rw [show ai_ c1 (ga_ G 35 i) = ai_ c (ga_ G 35 i) from congrArg (fun z => z.2.2.2.2.1) (nT 35 i hi2 (by decide) (by decide) (by decide) (by decide) (fun _ => z))]
          exact q k y1 y2
    · have hi' : i < N 47 + 1 := by rw [← c37]; exact hi
      rw [g37]
      show P 1401 i = nI (pl_ ((fun q => if q = 2 then -1 else if q = 1 then 0 else if q = 3 then 0 else if q = 30 then 0 else if q = 47 then nI (N 47 + 1) else aS A q), aV A, P, B, L, A.2.2.2.2.2) i) ∧ fr_ c1 1000 (if i = N 47 then a else ga_ G 37 i) = some (ga_ (gn_ (gn_ G 37 a) 38 b) 38 i) ∧ fi_ c1 1001 (if i = N 47 then a else ga_ G 37 i) = P 1404 i ∧ fi_ c1 1002 (if i = N 47 then a else ga_ G 37 i) = P 1405 i
      rw [g38]
      by_cases z : i = N 47
      · rw [if_pos z, if_pos z, z, pln]
        exact ⟨e1, a1.2.1, a1.2.2.1, a1.2.2.2⟩
      · have hi2 : i < gc_ G 37 := by rw [c37]; omega
        have ce := nT 37 i hi2 (by decide) (by decide) (by decide) (by decide) (fun q => by omega)
        obtain ⟨q1, q2, q3, q4⟩ := h.2.2.2 37 i hi2
        rw [if_neg z, if_neg z, pl9 i (by omega), hP i (by omega), hP i (by omega), hP i (by omega)]
        exact ⟨q1, (congrFun (congrArg (fun z => z.2.2.1) ce) 1000).trans q2, (congrFun (congrArg (fun z => z.2.1) ce) 1001).trans q3, (congrFun (congrArg (fun z => z.2.1) ce) 1002).trans q4⟩
    · have hi' : i < N 47 + 1 := by rw [← c38]; exact hi
      rw [g38]
      show TX 0 (L i) (B i) (ln_ c1 (if i = N 47 then b else ga_ G 38 i)) (ai_ c1 (if i = N 47 then b else ga_ G 38 i))
      by_cases z : i = N 47
      · rw [if_pos z, z]
        exact b2
      · have hi2 : i < gc_ G 38 := by rw [c38]; omega
        have ce := nT 38 i hi2 (by decide) (by decide) (by decide) (by decide) (fun q => by omega)
        have q := h.2.2.2 38 i hi2
        rw [if_neg z, (hB i (by omega)).1, (hB i (by omega)).2, show ln_ c1 (ga_ G 38 i) = ln_ c (ga_ G 38 i) from congrArg (fun z => z.1) ce, show ai_ c1 (ga_ G 38 i) = ai_ c (ga_ G 38 i) from congrArg (fun z => z.2.2.2.2.1) ce]
        exact q
end NT9
