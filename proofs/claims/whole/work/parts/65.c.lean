/-! CALLS: bury. Written by wip/b/mk65.py. -/
/-- how many stories a writer has; the heir among the first n -/
def sn9_ (A : AS) (N : Nat → Nat) (w : Nat) : Nat := cn_ (fun p => decide (aV A 11 p = nI w)) (N 5)
def he9_ (A : AS) (N : Nat → Nat) (w : Nat) : Nat → Option Nat
  | 0 => none
  | n + 1 => if (!decide (n = w) && decide (aV A 14 n = 0) && (match he9_ A N w n with | none => true | some h => decide (sn9_ A N n < sn9_ A N h))) = true then some n else he9_ A N w n
theorem he9_lt {A : AS} {N : Nat → Nat} {w h : Nat} : ∀ {n : Nat}, he9_ A N w n = some h → h < n
  | 0, e => nomatch e
  | n + 1, e => by
    unfold he9_ at e
    by_cases q : (!decide (n = w) && decide (aV A 14 n = 0) && (match he9_ A N w n with | none => true | some h => decide (sn9_ A N n < sn9_ A N h))) = true
    · rw [if_pos q] at e; cases e; exact Nat.lt_succ_self _
    · rw [if_neg q] at e; exact Nat.lt_succ_of_lt (he9_lt e)
theorem sn9_le (A : AS) (N : Nat → Nat) (w : Nat) : sn9_ A N w ≤ N 5 := cn_le _ _
/-- stories handed over, one after another -/
def hw9_ (V : Nat → Nat → Int32) (w h : Int32) : Nat → Nat → Nat → Int32
  | 0 => V
  | i + 1 => if hw9_ V w h i 11 i = w then up2_ (hw9_ V w h i) 11 i h else hw9_ V w h i
theorem hw9_o {V : Nat → Nat → Int32} {w h : Int32} {j : Nat} (hj : j ≠ 11) : ∀ n, hw9_ V w h n j = V j
  | 0 => rfl
  | n + 1 => by
    unfold hw9_
    split
    · rw [up2_c hj]; exact hw9_o hj n
    · exact hw9_o hj n
theorem hw9_i {V : Nat → Nat → Int32} {w h : Int32} {k : Nat} : ∀ n, n ≤ k → hw9_ V w h n 11 k = V 11 k
  | 0, _ => rfl
  | n + 1, hn => by
    unfold hw9_
    split
    · rw [up2_n (by omega)]; exact hw9_i n (by omega)
    · exact hw9_i n (by omega)
theorem up2_same (f : Nat → Nat → Int32) (c a : Nat) : up2_ f c a (f c a) = f := funext fun q => funext fun z => by
  by_cases e : q = c ∧ z = a
  · obtain ⟨rfl, rfl⟩ := e; exact up2_s
  · exact up2_ne e
def hb9_ (σ : TH) (a : Nat) (w h : Int32) : Nat → TH
  | 0 => σ
  | i + 1 => sa_ (hb9_ σ a w h i) a i (if ai_ (hb9_ σ a w h i) a i = w then h else ai_ (hb9_ σ a w h i) a i)
def hc9_ (σ : TH) (G : GH) (w h : Int32) : Nat → TH
  | 0 => σ
  | i + 1 => if fi_ (hc9_ σ G w h i) 304 (ga_ G 31 i) = w then si_ (hc9_ σ G w h i) 304 (ga_ G 31 i) h else hc9_ σ G w h i
section MC65
variable {σ : TH} {y : Nat} {G : GH} {A : AS} {N : Nat → Nat}
theorem m_sto (h : mr_ σ y G A N) (w : Nat) : f_X15_storiesOf σ y (nI w) = some (nI (sn9_ A N w), σ) := by
  rw [m_storiesOf h.1]
  have : cn_ (fun p => decide (ai_ σ (ga_ G 11 0) p = nI w)) (N 5) = sn9_ A N w := cn_cong _ (fun p _ => by rw [mr_V h (by decide)])
  rw [this]
theorem mr_hb (h : mr_ σ y G A N) (w hh : Int32) : ∀ n, mr_ (hb9_ σ (ga_ G 11 0) w hh n) y G (A.1, hw9_ (aV A) w hh n, A.2.2) N
  | 0 => h
  | n + 1 => by
    have ih := mr_hb h w hh n
    have v := mr_V ih (j := 11) (by decide) n
    have s := mr_sa ih (j := 11) (by decide) n (if ai_ (hb9_ σ (ga_ G 11 0) w hh n) (ga_ G 11 0) n = w then hh else ai_ (hb9_ σ (ga_ G 11 0) w hh n) (ga_ G 11 0) n)
    have v' : ai_ (hb9_ σ (ga_ G 11 0) w hh n) (ga_ G 11 0) n = hw9_ (aV A) w hh n 11 n := v
    unfold hb9_ hw9_
    rw [v'] at s ⊢
    by_cases q : hw9_ (aV A) w hh n 11 n = w
    · rw [if_pos q] at s ⊢
      rw [if_pos q]
      exact s
    · rw [if_neg q] at s ⊢
      rw [if_neg q]
      have e : up2_ (aV (A.1, hw9_ (aV A) w hh n, A.2.2)) 11 n (hw9_ (aV A) w hh n 11 n) = hw9_ (aV A) w hh n := up2_same _ 11 n
      rw [e] at s
      exact s
theorem fq_hb {T : Nat → Prop} {τ : TH} {a : Nat} (h : fq_ T σ τ) (ha : T a) (w hh : Int32) : ∀ n, fq_ T σ (hb9_ τ a w hh n)
  | 0 => h
  | n + 1 => fqa (fq_hb h ha w hh n) ha
theorem hb9_f (a : Nat) (w hh : Int32) : ∀ n, fi_ (hb9_ σ a w hh n) = fi_ σ ∧ nx_ (hb9_ σ a w hh n) = nx_ σ ∧ sl_ (hb9_ σ a w hh n) = sl_ σ
  | 0 => ⟨rfl, rfl, rfl⟩
  | n + 1 => hb9_f a w hh n
theorem m_bury (h : mr_ σ y G A N) {w : Nat} (hw : w < N 4) (hz : aV A 14 w = 0) : f_X15_bury σ y (nI w) = (match he9_ A N w (N 4) with | none => some (-1, tr_ (si_ σ 1600 y 0) y 5) | some hh => some (nI (sn9_ A N w), tr_ (hb9_ (sa_ (si_ σ 1600 y 0) (ga_ G 14 0) w 1) (ga_ G 11 0) (nI w) (nI hh) (N 5)) y 0)) := by
  have hy := mo_y h.1
  have h := mr_si h (j := 0) (c := 1600) (by decide) 0
  unfold f_X15_bury
  rw [gt_t hy, lt_e]
  generalize si_ σ 1600 y 0 = σ at h ⊢
  have hy := mo_y h.1
  obtain ⟨e4, hN4⟩ := mo_n h.1 (j := 4) (cj := 1604) (m := 6) (by decide)
  obtain ⟨e5, hN5⟩ := mo_n h.1 (j := 5) (cj := 1605) (m := 30) (by decide)
  obtain ⟨a14, b14, c14⟩ := mo_a h.1 (j := 14) (cj := 1614) (K := 22) (n := 6) (by decide)
  obtain ⟨a11, b11, c11⟩ := mo_a h.1 (j := 11) (cj := 1611) (K := 20) (n := 30) (by decide)
  have l1 := m_isLiving1 h.1 hw
  have vw := mr_V h (j := 14) (by decide) w
  rw [hz] at vw
  rw [vw, bi_t rfl] at l1
  rw [l1, bd_s, if_neg (by decide)]
  refine lp_ (F := fun f acc i => f_X15_bury_b23 f σ y (nI w) acc i) (N 4) (fun i => oi_ (he9_ A N w i)) (fun f i hi => ?_) (fun f => ?_) (by omega)
  · have g2 : ¬ nI (N 4) ≤ nI i := nI_ge hi (by omega)
    have g1 : ¬ nI i < 0 := nI_pos (by omega)
    have g3 : (nI i).toNatClampNeg = i := nI_clamp (by omega)
    have g4 : ¬ 6 ≤ i := by omega
    have v := mr_V h (j := 14) (by decide) i
    have s1 := m_sto h i
    by_cases q1 : i = w
    · subst q1
      have e : he9_ A N i (i + 1) = he9_ A N i i := by simp [he9_]
      (try dsimp only)
      rw [e]
      simp [f_X15_bury_b23, f_X15_bury_b65, gt_, lt_, nn_, oc_, bd_, hy, e4, g2, nI_1]
    · have q1' : ¬ nI i = nI w := fun z => q1 ((nI_eq (by omega) (by omega)).mp z)
      by_cases q2 : aV A 14 i = 0
      · cases hh : he9_ A N w i with
        | none =>
          have e : he9_ A N w (i + 1) = some i := by simp [he9_, q1, q2, hh]
          (try dsimp only)
          rw [e]
          simp [f_X15_bury_b23, f_X15_bury_b63, f_X15_bury_b65, gt_, lt_, nn_, oc_, bd_, hy, e4, g2, q1', a14, b14, c14, g1, g3, g4, v, q2, oi_, nI_1]
        | some k =>
          have hk := he9_lt hh
          have zk : ¬ nI k = -1 := nI_n1 (by omega)
          have s2 := m_sto h k
          have b1 := sn9_le A N i
          have b2 := sn9_le A N k
          by_cases q3 : sn9_ A N i < sn9_ A N k
          · have q3' : ¬ nI (sn9_ A N k) ≤ nI (sn9_ A N i) := nI_ge q3 (by omega)
            have e : he9_ A N w (i + 1) = some i := by simp [he9_, q1, q2, hh, q3]
            (try dsimp only)
            rw [e]
            simp [f_X15_bury_b23, f_X15_bury_b63, f_X15_bury_b65, gt_, lt_, nn_, oc_, bd_, hy, e4, g2, q1', a14, b14, c14, g1, g3, g4, v, q2, oi_, zk, s1, s2, q3', nI_1]
          · have q3' : nI (sn9_ A N k) ≤ nI (sn9_ A N i) := nI_le (by omega) (by omega)
            have e : he9_ A N w (i + 1) = some k := by simp [he9_, hh, q3]
            (try dsimp only)
            rw [e]
            simp [f_X15_bury_b23, f_X15_bury_b63, f_X15_bury_b65, gt_, lt_, nn_, oc_, bd_, hy, e4, g2, q1', a14, b14, c14, g1, g3, g4, v, q2, oi_, zk, s1, s2, q3', nI_1]
      · have e : he9_ A N w (i + 1) = he9_ A N w i := by simp [he9_, q2]
        (try dsimp only)
        rw [e]
        simp [f_X15_bury_b23, f_X15_bury_b65, gt_, lt_, nn_, oc_, bd_, hy, e4, g2, q1', a14, b14, c14, g1, g3, g4, v, q2, nI_1]
  · have g2 : nI (N 4) ≤ nI (N 4) := nI_le (Nat.le_refl _) (by omega)
    cases hh : he9_ A N w (N 4) with
    | none =>
      simp [f_X15_bury_b23, gt_, lt_, nn_, oc_, bd_, hy, e4, g2, oi_, m_refused hy]
    | some k =>
      have hk := he9_lt hh
      have zk : ¬ nI k = -1 := nI_n1 (by omega)
      have s1 := m_sto h w
      have nar : vp_nar .boolean (1 : Int32) = 1 := rfl
      have g1 : ¬ nI w < 0 := nI_pos (by omega)
      have g3 : (nI w).toNatClampNeg = w := nI_clamp (by omega)
      have g4 : ¬ 6 ≤ w := by omega
      have hm := mr_sa h (j := 14) (by decide) w 1
      have l : f_X15_bury_b98 fu_ (sa_ σ (ga_ G 14 0) w 1) y (nI w) (nI k) (nI (sn9_ A N w)) 0 = some (nI (sn9_ A N w), tr_ (hb9_ (sa_ σ (ga_ G 14 0) w 1) (ga_ G 11 0) (nI w) (nI k) (N 5)) y 0) := by
        refine lp_ (F := fun f s i => f_X15_bury_b98 f s y (nI w) (nI k) (nI (sn9_ A N w)) i) (N 5) (fun i => hb9_ (sa_ σ (ga_ G 14 0) w 1) (ga_ G 11 0) (nI w) (nI k) i) (fun f i hi => ?_) (fun f => ?_) (by omega)
        · have hm := mr_hb hm (nI w) (nI k) i
          have g2 : ¬ nI (N 5) ≤ nI i := nI_ge hi (by omega)
          (try dsimp only)
          rw [show hb9_ (sa_ σ (ga_ G 14 0) w 1) (ga_ G 11 0) (nI w) (nI k) (i + 1) = sa_ (hb9_ (sa_ σ (ga_ G 14 0) w 1) (ga_ G 11 0) (nI w) (nI k) i) (ga_ G 11 0) i (if ai_ (hb9_ (sa_ σ (ga_ G 14 0) w 1) (ga_ G 11 0) (nI w) (nI k) i) (ga_ G 11 0) i = nI w then nI k else ai_ (hb9_ (sa_ σ (ga_ G 14 0) w 1) (ga_ G 11 0) (nI w) (nI k) i) (ga_ G 11 0) i) from rfl]
          generalize hb9_ (sa_ σ (ga_ G 14 0) w 1) (ga_ G 11 0) (nI w) (nI k) i = τ at hm ⊢
          have hy := mo_y hm.1
          have e5 := (mo_n hm.1 (j := 5) (cj := 1605) (m := 30) (by decide)).1
          obtain ⟨a11, b11, c11⟩ := mo_a hm.1 (j := 11) (cj := 1611) (K := 20) (n := 30) (by decide)
          have d1 : ¬ nI i < 0 := nI_pos (by omega)
          have d3 : (nI i).toNatClampNeg = i := nI_clamp (by omega)
          have d4 : ¬ 30 ≤ i := by omega
          by_cases q : ai_ τ (ga_ G 11 0) i = nI w
          · simp [f_X15_bury_b98, f_X15_bury_b135, gt_, lt_, nn_, oc_, bd_, hy, e5, g2, a11, b11, c11, d1, d3, d4, q, nI_1]
          · simp [f_X15_bury_b98, f_X15_bury_b135, gt_, lt_, nn_, oc_, bd_, hy, e5, g2, a11, b11, c11, d1, d3, d4, q, nI_1]
        · have hm := mr_hb hm (nI w) (nI k) (N 5)
          (try dsimp only)
          generalize hb9_ (sa_ σ (ga_ G 14 0) w 1) (ga_ G 11 0) (nI w) (nI k) (N 5) = τ at hm ⊢
          have hy := mo_y hm.1
          have e5 := (mo_n hm.1 (j := 5) (cj := 1605) (m := 30) (by decide)).1
          have g2 : nI (N 5) ≤ nI (N 5) := nI_le (Nat.le_refl _) (by omega)
          simp [f_X15_bury_b98, gt_, lt_, nn_, oc_, bd_, hy, e5, g2, m_done hy]
      simp [f_X15_bury_b23, gt_, lt_, nn_, oc_, bd_, hy, e4, g2, oi_, zk, s1, a14, b14, c14, g1, g3, g4, nar, l]
end MC65
section C65
variable {ka : Nat → Nat} {TX : Nat → Nat → (Nat → Int32) → Nat → (Nat → Int32) → Prop} {x y o N0 : Nat}
theorem ob_n11 {A : AS} {G : GH} {N : Nat → Nat} {r i : Nat} {m : CE} (k : Nat) (w : Int32) (hd : ¬ r ∈ ([31] : List Nat)) (h : ob_ ka TX A G N r i m) : ob_ ka TX (A.1, up2_ (aV A) 11 k w, A.2.2) G N r i m := by
  match r, hd, h with
  | 0, hd, h => exact h
  | 1, hd, h => exact h
  | 2, hd, h => exact h
  | 3, hd, h => exact h
  | 4, hd, h => exact h
  | 5, hd, h => exact h
  | 6, hd, h => exact h
  | 7, hd, h => exact h
  | 8, hd, h => exact h
  | 9, hd, h => exact h
  | 10, hd, h => exact h
  | 11, hd, h => exact h
  | 12, hd, h => exact h
  | 13, hd, h => exact h
  | 14, hd, h => exact h
  | 15, hd, h => exact h
  | 16, hd, h => exact h
  | 17, hd, h => exact h
  | 18, hd, h => exact h
  | 19, hd, h => exact h
  | 20, hd, h => exact h
  | 21, hd, h => exact h
  | 22, hd, h => exact h
  | 23, hd, h => exact h
  | 24, hd, h => exact h
  | 25, hd, h => exact h
  | 26, hd, h => exact h
  | 27, hd, h => exact h
  | 28, hd, h => exact h
  | 29, hd, h => exact h
  | 30, hd, h => exact h
  | 31, hd, h => exact absurd (by decide) hd
  | 32, hd, h => exact h
  | 33, hd, h => exact h
  | 34, hd, h => exact h
  | 35, hd, h => exact h
  | 36, hd, h => exact h
  | 37, hd, h => exact h
  | 38, hd, h => exact h
  | 39, hd, h => exact h
  | 40, hd, h => exact h
  | 41, hd, h => exact h
  | 42, hd, h => exact h
  | 43, hd, h => exact h
  | 44, hd, h => exact h
  | 45, hd, h => exact h
  | 46, hd, h => exact h
  | 47, hd, h => exact h
  | 48, hd, h => exact h
  | 49, hd, h => exact h
  | 50, hd, h => exact h
  | 51, hd, h => exact h
  | 52, hd, h => exact h
  | 53, hd, h => exact h
  | 54, hd, h => exact h
  | 55, hd, h => exact h
  | 56, hd, h => exact h
  | 57, hd, h => exact h
  | 58, hd, h => exact h
  | r + 59, hd, h => exact h
theorem rn_31_304 {σ : TH} {G : GH} {A : AS} {N : Nat → Nat} (h : rc_ ka TX σ x G A N) {k : Nat} (hk : k < gc_ G 31) (v w : Int32) (hnew : ob_ ka TX (A.1, up2_ (aV A) 11 k w, A.2.2) G N 31 k (ce_ (si_ σ 304 (ga_ G 31 k) v) (ga_ G 31 k))) : rc_ ka TX (si_ σ 304 (ga_ G 31 k) v) x G (A.1, up2_ (aV A) 11 k w, A.2.2) N := by
  have hf : fq_ (fun q => q = ga_ G 31 k) σ (si_ σ 304 (ga_ G 31 k) v) := fq_si h.1.1 rfl
  refine rc_gen h hf (fun r i => r ∈ ([31] : List Nat)) (tne_ (T := fun q => q = ga_ G 31 k) h.1 (fun q hq => ⟨31, k, by decide, hk, hq⟩)) (fun r i mm hi hd h9 => ob_n11 k w hd h9) (fun r i hi hd => ?_)
  simp only [List.mem_cons, List.not_mem_nil, or_false] at hd
  subst hd
  by_cases hik : i = k
  · subst hik
    exact hnew
  · rw [ce_si (sh_ne h.1 hi hk (Or.inr hik))]
    obtain ⟨q0, q1, q2, q3, q4, q5, q6, q7, q8, q9, q10, q11, q12, q13, q14⟩ := h.2.2.2 31 i hi
    exact ⟨q0, q1, q2, q3, by rw [show aV (A.1, up2_ (aV A) 11 k w, A.2.2) 11 i = aV A 11 i from up2_n hik]; exact q4, q5, q6, q7, q8, q9, q10, q11, q12, q13, q14⟩
theorem ob_n14 {A : AS} {G : GH} {N : Nat → Nat} {r i : Nat} {m : CE} (k : Nat) (w : Int32) (hd : ¬ r ∈ ([30] : List Nat)) (h : ob_ ka TX A G N r i m) : ob_ ka TX (A.1, up2_ (aV A) 14 k w, A.2.2) G N r i m := by
  match r, hd, h with
  | 0, hd, h => exact h
  | 1, hd, h => exact h
  | 2, hd, h => exact h
  | 3, hd, h => exact h
  | 4, hd, h => exact h
  | 5, hd, h => exact h
  | 6, hd, h => exact h
  | 7, hd, h => exact h
  | 8, hd, h => exact h
  | 9, hd, h => exact h
  | 10, hd, h => exact h
  | 11, hd, h => exact h
  | 12, hd, h => exact h
  | 13, hd, h => exact h
  | 14, hd, h => exact h
  | 15, hd, h => exact h
  | 16, hd, h => exact h
  | 17, hd, h => exact h
  | 18, hd, h => exact h
  | 19, hd, h => exact h
  | 20, hd, h => exact h
  | 21, hd, h => exact h
  | 22, hd, h => exact h
  | 23, hd, h => exact h
  | 24, hd, h => exact h
  | 25, hd, h => exact h
  | 26, hd, h => exact h
  | 27, hd, h => exact h
  | 28, hd, h => exact h
  | 29, hd, h => exact h
  | 30, hd, h => exact absurd (by decide) hd
  | 31, hd, h => exact h
  | 32, hd, h => exact h
  | 33, hd, h => exact h
  | 34, hd, h => exact h
  | 35, hd, h => exact h
  | 36, hd, h => exact h
  | 37, hd, h => exact h
  | 38, hd, h => exact h
  | 39, hd, h => exact h
  | 40, hd, h => exact h
  | 41, hd, h => exact h
  | 42, hd, h => exact h
  | 43, hd, h => exact h
  | 44, hd, h => exact h
  | 45, hd, h => exact h
  | 46, hd, h => exact h
  | 47, hd, h => exact h
  | 48, hd, h => exact h
  | 49, hd, h => exact h
  | 50, hd, h => exact h
  | 51, hd, h => exact h
  | 52, hd, h => exact h
  | 53, hd, h => exact h
  | 54, hd, h => exact h
  | 55, hd, h => exact h
  | 56, hd, h => exact h
  | 57, hd, h => exact h
  | 58, hd, h => exact h
  | r + 59, hd, h => exact h
theorem rn_30_1101 {σ : TH} {G : GH} {A : AS} {N : Nat → Nat} (h : rc_ ka TX σ x G A N) {k : Nat} (hk : k < gc_ G 30) (v w : Int32) (hnew : ob_ ka TX (A.1, up2_ (aV A) 14 k w, A.2.2) G N 30 k (ce_ (si_ σ 1101 (ga_ G 30 k) v) (ga_ G 30 k))) : rc_ ka TX (si_ σ 1101 (ga_ G 30 k) v) x G (A.1, up2_ (aV A) 14 k w, A.2.2) N := by
  have hf : fq_ (fun q => q = ga_ G 30 k) σ (si_ σ 1101 (ga_ G 30 k) v) := fq_si h.1.1 rfl
  refine rc_gen h hf (fun r i => r ∈ ([30] : List Nat)) (tne_ (T := fun q => q = ga_ G 30 k) h.1 (fun q hq => ⟨30, k, by decide, hk, hq⟩)) (fun r i mm hi hd h9 => ob_n14 k w hd h9) (fun r i hi hd => ?_)
  simp only [List.mem_cons, List.not_mem_nil, or_false] at hd
  subst hd
  by_cases hik : i = k
  · subst hik
    exact hnew
  · rw [ce_si (sh_ne h.1 hi hk (Or.inr hik))]
    obtain ⟨q0, q1, q2⟩ := h.2.2.2 30 i hi
    exact ⟨q0, by rw [show aV (A.1, up2_ (aV A) 14 k w, A.2.2) 14 i = aV A 14 i from up2_n hik]; exact q1, by rw [show aV (A.1, up2_ (aV A) 14 k w, A.2.2) 14 i = aV A 14 i from up2_n hik]; exact q2⟩
theorem k_sto {σ : TH} {G : GH} {A : AS} {N : Nat → Nat} (h : rc_ ka TX σ x G A N) (hN : N 5 ≤ 30) (w : Nat) : f_X11_storiesOf σ x (nI w) = some (nI (sn9_ A N w), σ) := by
  have hx := rc_x h
  obtain ⟨e1, e2⟩ := rc_r1201 h
  have hl := rc_l2 h (by omega)
  have l1 := l_size hl
  refine lp_ (F := fun f acc i => f_X11_storiesOf_b4 f σ x (nI w) acc i) (N 5) (fun i => nI (cn_ (fun p => decide (aV A 11 p = nI w)) i)) (fun f i hi => ?_) (fun f => ?_) (by omega)
  · have g2 : ¬ nI (N 5) ≤ nI i := nI_ge hi (by omega)
    have l2 := l_get hl hi
    have hc : i < gc_ G 31 := by rw [rc_31 h]; exact hi
    have hk : kd_ σ (ga_ G 31 i) = 4 := (h.1.2 31 i hc).1
    have q4 : fi_ σ 304 (ga_ G 31 i) = aV A 11 i := (h.2.2.2 31 i hc).2.2.2.2.1
    by_cases q : aV A 11 i = nI w
    · simp [f_X11_storiesOf_b4, f_X11_storiesOf_b39, f_X11_asNumber, f_X11_asNumber_b9, gt_, lt_, nn_, oc_, bd_, hx, e1, e2, l1, l2, hk, g2, q4, q, cn_, nI_1]
    · simp [f_X11_storiesOf_b4, f_X11_storiesOf_b39, f_X11_asNumber, f_X11_asNumber_b9, gt_, lt_, nn_, oc_, bd_, hx, e1, e2, l1, l2, hk, g2, q4, q, cn_, nI_1]
  · have g2 : nI (N 5) ≤ nI (N 5) := nI_le (Nat.le_refl _) (by omega)
    simp [f_X11_storiesOf_b4, gt_, lt_, nn_, oc_, bd_, hx, e1, e2, l1, g2, sn9_]
theorem rc_30 {σ : TH} {G : GH} {A : AS} {N : Nat → Nat} (h : rc_ ka TX σ x G A N) : gc_ G 30 = N 4 := by
  have := h.2.2.1
  unfold cg_ at this
  simp only [this]
theorem k_heir {σ : TH} {G : GH} {A : AS} {N : Nat → Nat} (h : rc_ ka TX σ x G A N) (hN : N 5 ≤ 30) (hN4 : N 4 ≤ 6) {w : Nat} (hw : w < N 4) : f_X11_heirOf σ x (nI w) = some (oi_ (he9_ A N w (N 4)), σ) := by
  have hx := rc_x h
  obtain ⟨e1, e2⟩ := rc_r1200 h
  have hl := rc_l1 h (by omega)
  have l1 := l_size hl
  refine lp_ (F := fun f (s : Int32 × Int32) i => f_X11_heirOf_b7 f σ x (nI w) s.1 s.2 i) (N 4) (fun i => (oi_ (he9_ A N w i), match he9_ A N w i with | none => 0 | some k => nI (sn9_ A N k))) (fun f i hi => ?_) (fun f => ?_) (by omega)
  · have g2 : ¬ nI (N 4) ≤ nI i := nI_ge hi (by omega)
    have l2 := l_get hl hi
    have hc : i < gc_ G 30 := by rw [rc_30 h]; exact hi
    have hk : kd_ σ (ga_ G 30 i) = 12 := (h.1.2 30 i hc).1
    have q4 : fi_ σ 1101 (ga_ G 30 i) = bi_ (aV A 14 i = 0) := (h.2.2.2 30 i hc).2.1
    have s1 := k_sto h hN i
    by_cases q1 : i = w
    · subst q1
      have e : he9_ A N i (i + 1) = he9_ A N i i := by simp [he9_]
      (try dsimp only)
      rw [e]
      simp [f_X11_heirOf_b7, f_X11_heirOf_b71, gt_, lt_, nn_, oc_, bd_, hx, e1, e2, l1, g2, nI_1]
    · have q1' : ¬ nI i = nI w := fun z => q1 ((nI_eq (by omega) (by omega)).mp z)
      by_cases q2 : aV A 14 i = 0
      · rw [bi_t q2] at q4
        cases hh : he9_ A N w i with
        | none =>
          have e : he9_ A N w (i + 1) = some i := by simp [he9_, q1, q2, hh]
          (try dsimp only)
          rw [e]
          simp [f_X11_heirOf_b7, f_X11_heirOf_b65, f_X11_heirOf_b71, gt_, lt_, nn_, oc_, bd_, hx, e1, e2, l1, l2, hk, q4, g2, q1', oi_, s1, nI_1]
        | some k =>
          have hk2 := he9_lt hh
          have zk : ¬ nI k = -1 := nI_n1 (by omega)
          have b1 := sn9_le A N i
          have b2 := sn9_le A N k
          by_cases q3 : sn9_ A N i < sn9_ A N k
          · have q3' : ¬ nI (sn9_ A N k) ≤ nI (sn9_ A N i) := nI_ge q3 (by omega)
            have e : he9_ A N w (i + 1) = some i := by simp [he9_, q1, q2, hh, q3]
            (try dsimp only)
            rw [e]
            simp [f_X11_heirOf_b7, f_X11_heirOf_b65, f_X11_heirOf_b71, gt_, lt_, nn_, oc_, bd_, hx, e1, e2, l1, l2, hk, q4, g2, q1', oi_, zk, s1, q3', nI_1]
          · have q3' : nI (sn9_ A N k) ≤ nI (sn9_ A N i) := nI_le (by omega) (by omega)
            have e : he9_ A N w (i + 1) = some k := by simp [he9_, hh, q3]
            (try dsimp only)
            rw [e]
            simp [f_X11_heirOf_b7, f_X11_heirOf_b65, f_X11_heirOf_b71, gt_, lt_, nn_, oc_, bd_, hx, e1, e2, l1, l2, hk, q4, g2, q1', oi_, zk, s1, q3', nI_1]
      · rw [bi_f q2] at q4
        have e : he9_ A N w (i + 1) = he9_ A N w i := by simp [he9_, q2]
        (try dsimp only)
        rw [e]
        simp [f_X11_heirOf_b7, f_X11_heirOf_b71, gt_, lt_, nn_, oc_, bd_, hx, e1, e2, l1, l2, hk, q4, g2, q1', nI_1]
  · have g2 : nI (N 4) ≤ nI (N 4) := nI_le (Nat.le_refl _) (by omega)
    simp [f_X11_heirOf_b7, gt_, lt_, nn_, oc_, bd_, hx, e1, e2, l1, g2]
theorem rc_hc {σ : TH} {G : GH} {A : AS} {N : Nat → Nat} (h : rc_ ka TX σ x G A N) (w hh : Int32) : ∀ n, n ≤ N 5 → rc_ ka TX (hc9_ σ G w hh n) x G (A.1, hw9_ (aV A) w hh n, A.2.2) N
  | 0, _ => h
  | n + 1, hn => by
    have ih := rc_hc h w hh n (by omega)
    have hc : n < gc_ G 31 := by rw [rc_31 ih]; omega
    obtain ⟨q0, q1, q2, q3, q4, q5, q6, q7, q8, q9, q10, q11, q12, q13, q14⟩ := ih.2.2.2 31 n hc
    have q4' : fi_ (hc9_ σ G w hh n) 304 (ga_ G 31 n) = hw9_ (aV A) w hh n 11 n := q4
    unfold hc9_ hw9_
    rw [q4']
    by_cases q : hw9_ (aV A) w hh n 11 n = w
    · rw [if_pos q, if_pos q]
      refine rn_31_304 ih hc hh hh ⟨q0, q1, q2, q3, ?_, q5, q6, q7, q8, q9, q10, q11, q12, q13, q14⟩
      show up2_ (fi_ (hc9_ σ G w hh n)) 304 (ga_ G 31 n) hh 304 (ga_ G 31 n) = up2_ (hw9_ (aV A) w hh n) 11 n hh 11 n
      rw [up2_s, up2_s]
    · rw [if_neg q, if_neg q]
      exact ih
theorem fq_hc {T : Nat → Prop} {σ τ : TH} {G : GH} (h : fq_ T σ τ) (hT : ∀ i, T (ga_ G 31 i)) (w hh : Int32) : ∀ n, fq_ T σ (hc9_ τ G w hh n)
  | 0 => h
  | n + 1 => by
    unfold hc9_
    split
    · exact fqi (fq_hc h hT w hh n) (hT n)
    · exact fq_hc h hT w hh n
theorem hc9_n {σ : TH} {G : GH} (w hh : Int32) : ∀ n, nx_ (hc9_ σ G w hh n) = nx_ σ ∧ sl_ (hc9_ σ G w hh n) = sl_ σ
  | 0 => ⟨rfl, rfl⟩
  | n + 1 => by
    unfold hc9_
    split
    · exact hc9_n w hh n
    · exact hc9_n w hh n
theorem k_hand {σ : TH} {G : GH} {A : AS} {N : Nat → Nat} (h : rc_ ka TX σ x G A N) (hN : N 5 ≤ 30) (w hh : Int32) : f_X11_handOver σ x w hh = some (nI (cn_ (fun p => decide (aV A 11 p = w)) (N 5)), hc9_ σ G w hh (N 5)) := by
  refine lp_ (F := fun f (s : TH × Int32) i => f_X11_handOver_b5 f s.1 x w hh s.2 i) (N 5) (fun i => (hc9_ σ G w hh i, nI (cn_ (fun p => decide (aV A 11 p = w)) i))) (fun f i hi => ?_) (fun f => ?_) (by omega)
  · have h := rc_hc h w hh i (by omega)
    have hx := rc_x h
    obtain ⟨e1, e2⟩ := rc_r1201 h
    have hl := rc_l2 h (by omega)
    have l1 := l_size hl
    have g2 : ¬ nI (N 5) ≤ nI i := nI_ge hi (by omega)
    have l2 := l_get hl hi
    have hc : i < gc_ G 31 := by rw [rc_31 h]; exact hi
    have hk : kd_ (hc9_ σ G w hh i) (ga_ G 31 i) = 4 := (h.1.2 31 i hc).1
    have q4 : fi_ (hc9_ σ G w hh i) 304 (ga_ G 31 i) = aV A 11 i := Eq.trans (h.2.2.2 31 i hc).2.2.2.2.1 (hw9_i i (Nat.le_refl _))
    (try dsimp only)
    rw [show hc9_ σ G w hh (i + 1) = (if fi_ (hc9_ σ G w hh i) 304 (ga_ G 31 i) = w then si_ (hc9_ σ G w hh i) 304 (ga_ G 31 i) hh else hc9_ σ G w hh i) from rfl]
    generalize hc9_ σ G w hh i = τ at h hx e1 e2 hl l1 l2 hk q4 ⊢
    by_cases q : aV A 11 i = w
    · simp [f_X11_handOver_b5, f_X11_handOver_b49, gt_, lt_, nn_, oc_, bd_, hx, e1, e2, l1, l2, hk, g2, q4, q, cn_, nI_1]
    · simp [f_X11_handOver_b5, f_X11_handOver_b49, gt_, lt_, nn_, oc_, bd_, hx, e1, e2, l1, l2, hk, g2, q4, q, cn_, nI_1]
  · have h := rc_hc h w hh (N 5) (Nat.le_refl _)
    have hx := rc_x h
    obtain ⟨e1, e2⟩ := rc_r1201 h
    have l1 := l_size (rc_l2 h (by omega))
    have g2 : nI (N 5) ≤ nI (N 5) := nI_le (Nat.le_refl _) (by omega)
    simp [f_X11_handOver_b5, gt_, lt_, nn_, oc_, bd_, hx, e1, e2, l1, g2]
theorem pv_bury {A : AS} {N : Nat → Nat} {S : Nat → Int32} (h : pv_ A N) {w : Nat} (hw : w < N 4) {V : Nat → Nat → Int32} (hV : ∀ j, j ≠ 11 → V j = up2_ (aV A) 14 w 1 j) : pv_ (S, V, A.2.2) N := by
  have e : V = fun j => if j = 11 then V 11 else up2_ (aV A) 14 w 1 j := funext fun j => by
    by_cases hj : j = 11
    · rw [if_pos hj, hj]
    · rw [if_neg hj]; exact hV j hj
  rw [e]
  obtain ⟨h1, h2, h3, h4, h5, h6, h7, d1, d2⟩ := h
  refine ⟨h1, h2, h3, h4, h5, h6, h7, fun i hi hi2 => ?_, d2⟩
  show up2_ (aV A) 14 w 1 14 i = 0
  rw [up2_n (by omega)]
  exact d1 i hi hi2
theorem ok_bury : St_bury ka x y (inv_ ka TX pv_ x y o N0) := fun n c m a0 hn hI => by
  obtain ⟨GC, GM, N, k1, k2, k3, k4, k5, k6, k7, k8⟩ := id hI
  have hN := (mo_n k1 (j := 5) (cj := 1605) (m := 30) (by decide)).2
  obtain ⟨e6, hN6⟩ := mo_n k1 (j := 6) (cj := 1606) (m := 5257439) (by decide)
  have hb : mr_ (bm_ m c) y GM (as_ m y GM) N := mr_bm (mr_of k1) (Nat.le_of_eq k5.1)
  have hx := rc_x k2
  obtain ⟨e4, hN4⟩ := mo_n k1 (j := 4) (cj := 1604) (m := 6) (by decide)
  rcases rg_ a0 (n := N 4) (by omega) with ⟨w, hw, rfl⟩ | hout
  · obtain ⟨p1, p2, p3⟩ := k_living1 k2 hN4 hw
    by_cases z : aV (as_ m y GM) 14 w = 0
    · rw [if_pos z] at p1
      have kh := k_heir k2 hN hN4 hw
      cases hh : he9_ (as_ m y GM) N w (N 4) with
      | none =>
        rw [hh] at kh
        refine ⟨-1, si_ c 1214 x 5, _, by simp [f_X11_bury, gt_, lt_, nn_, oc_, bd_, hx, p1, kh, oi_, k_refused hx], ?_, no_ pv_S hI 5 (by decide)⟩
        rw [m_bury (mr_bm (z := si_ c 1214 x 5) (mr_of k1) (Nat.le_of_eq k5.1)) hw z, hh]
      | some k =>
        rw [hh] at kh
        have hk := he9_lt hh
        have zk : ¬ nI k = -1 := nI_n1 (by omega)
        have r0 : rc_ ka TX (si_ c 1101 (ga_ GC 30 w) 0) x GC ((as_ m y GM).1, up2_ (aV (as_ m y GM)) 14 w 1, (as_ m y GM).2.2) N := by
          obtain ⟨q0, q1, q2⟩ := k2.2.2.2 30 w p3
          refine rn_30_1101 k2 p3 0 1 ⟨q0, ?_, ?_⟩
          · show up2_ (fi_ c) 1101 (ga_ GC 30 w) 0 1101 (ga_ GC 30 w) = bi_ (up2_ (aV (as_ m y GM)) 14 w 1 14 w = 0)
            rw [up2_s, up2_s]; rfl
          · show up2_ (aV (as_ m y GM)) 14 w 1 14 w = 0 ∨ up2_ (aV (as_ m y GM)) 14 w 1 14 w = 1
            rw [up2_s]; exact Or.inr rfl
        have kha := k_hand r0 hN (nI w) (nI k)
        have r1 := rc_hc r0 (nI w) (nI k) (N 5) (Nat.le_refl _)
        have f1 : fq_ (fun q => q = x ∨ q = ga_ GC 30 w ∨ ∃ i, q = ga_ GC 31 i) c (hc9_ (si_ c 1101 (ga_ GC 30 w) 0) GC (nI w) (nI k) (N 5)) := fq_hc (fqi (fq_rf k2.1.1) (Or.inr (Or.inl rfl))) (fun i => Or.inr (Or.inr ⟨i, rfl⟩)) _ _ _
        have nn := hc9_n (σ := si_ c 1101 (ga_ GC 30 w) 0) (G := GC) (nI w) (nI k) (N 5)
        have g1c : f_X11_bury c x (nI w) = some (nI (sn9_ (as_ m y GM) N w), si_ (hc9_ (si_ c 1101 (ga_ GC 30 w) 0) GC (nI w) (nI k) (N 5)) 1214 x 0) := by
          unfold f_X11_bury
          rw [gt_t hx, p1, bd_s, oc_s, kh, bd_s, show oi_ (some k) = nI k from rfl, if_neg zk, gt_t p2, lt_e, kha, bd_s, k_granted (rc_x r1), bd_s]
          rfl
        generalize hc9_ (si_ c 1101 (ga_ GC 30 w) 0) GC (nI w) (nI k) (N 5) = τ at r1 f1 nn g1c
        have r2 := rc_tr r1 (s3_ (aS (as_ m y GM)) 0) 0 (by decide) rfl rfl s3_l
        have f2 : fq_ (fun q => q = x ∨ q = ga_ GC 30 w ∨ ∃ i, q = ga_ GC 31 i) c (si_ τ 1214 x 0) := fqi f1 (Or.inl rfl)
        have h0 := mr_bm (z := si_ τ 1214 x 0) (mr_of k1) (by rw [k5.1]; exact f2.1.1)
        have g1r := m_bury h0 hw z
        rw [hh] at g1r
        have h1 := mr_sa (mr_si h0 (j := 0) (c := 1600) (by decide) 0) (j := 14) (by decide) w 1
        have hwf := h0.1.1.1
        obtain ⟨m1, hm1⟩ : ∃ m1, m1 = tr_ (hb9_ (sa_ (si_ (bm_ m (si_ τ 1214 x 0)) 1600 y 0) (ga_ GM 14 0) w 1) (ga_ GM 11 0) (nI w) (nI k) (N 5)) y 0 := ⟨_, rfl⟩
        have g2 : fq_ (fun q => q = y ∨ q = ga_ GM 14 0 ∨ q = ga_ GM 11 0) (bm_ m (si_ τ 1214 x 0)) m1 := by
          rw [hm1]
          exact fqt (fq_hb (fqa (fqi (fq_rf hwf) (Or.inl rfl)) (Or.inr (Or.inl rfl))) (Or.inr (Or.inr rfl)) _ _ _) (Or.inl rfl)
        have g3r : mr_ m1 y GM (s3_ (aS (as_ m y GM)) 0, hw9_ (up2_ (aV (as_ m y GM)) 14 w 1) (nI w) (nI k) (N 5), (as_ m y GM).2.2) N := by
          rw [hm1]
          exact mr_S (mr_tr (mr_hb h1 (nI w) (nI k) (N 5)) 0) _
        have hbf := hb9_f (σ := sa_ (si_ (bm_ m (si_ τ 1214 x 0)) 1600 y 0) (ga_ GM 14 0) w 1) (ga_ GM 11 0) (nI w) (nI k) (N 5)
        have g4r : ∀ j, j ∈ DS → fi_ m1 (1600 + j) y = s3_ (aS (as_ m y GM)) 0 j := fun j hj => by
          rw [hm1]
          have := s3_fi (bm_ m (si_ τ 1214 x 0)) y 0 j
          rw [show s3_ (aS (as_ m y GM)) 0 j = s3_ (fun q => fi_ (bm_ m (si_ τ 1214 x 0)) (1600 + q) y) 0 j from rfl, ← this]
          unfold tr_
          rw [fi_si, fi_si, hbf.1, fi_sa, fi_si (si_ (si_ (bm_ m (si_ τ 1214 x 0)) 1600 y 0) 1601 y 0), fi_si (si_ (bm_ m (si_ τ 1214 x 0)) 1600 y 0) 1601]
        have g5 : nx_ m1 = nx_ τ ∧ sl_ m1 = sl_ τ := by
          rw [hm1]
          exact ⟨hbf.2.1, hbf.2.2⟩
        refine ⟨_, si_ τ 1214 x 0, m1, g1c, g1r.trans (by rw [hm1]), inv_fin hI f2 ⟨?_, ?_⟩ g2 ⟨?_, ?_⟩ g3r g4r r2 (pv_bury k3 hw (fun j hj => hw9_o hj _))⟩
        · show nx_ τ ≤ _
          rw [nn.1]; exact Nat.le_add_right _ _
        · show sl_ τ ≤ _
          rw [nn.2]; exact Nat.le_add_right _ _
        · rw [g5.1]; exact Nat.le_add_right _ _
        · rw [g5.2]; exact Nat.le_add_right _ _
    · rw [if_neg z] at p1
      refine ⟨-1, si_ c 1214 x 1, tr_ (si_ (bm_ m (si_ c 1214 x 1)) 1600 y 0) y 1, ?_, ?_, no_ pv_S hI 1 (by decide)⟩
      · simp [f_X11_bury, gt_, lt_, nn_, oc_, bd_, hx, p1, k_refused hx]
      · have h1 := mr_si (mr_bm (z := si_ c 1214 x 1) (mr_of k1) (Nat.le_of_eq k5.1)) (j := 0) (c := 1600) (by decide) 0
        unfold f_X15_bury
        rw [gt_t (show kd_ (bm_ m (si_ c 1214 x 1)) y = 17 from mo_yb k1), lt_e]
        generalize si_ (bm_ m (si_ c 1214 x 1)) 1600 y 0 = σ at h1 ⊢
        have l1 := m_isLiving1 h1.1 hw
        rw [mr_V h1 (j := 14) (by decide) w, bi_f z] at l1
        simp [gt_, lt_, nn_, oc_, bd_, l1, m_refused (mo_y h1.1)]
  · skip
    refine ⟨-1, si_ c 1214 x 1, tr_ (si_ (bm_ m (si_ c 1214 x 1)) 1600 y 0) y 1, ?_, ?_, no_ pv_S hI 1 (by decide)⟩
    · simp [f_X11_bury, gt_, lt_, nn_, oc_, bd_, hx, k_living0 k2 hN4 hout, k_refused hx]
    · have h1 := mr_si (mr_bm (z := si_ c 1214 x 1) (mr_of k1) (Nat.le_of_eq k5.1)) (j := 0) (c := 1600) (by decide) 0
      unfold f_X15_bury
      rw [gt_t (show kd_ (bm_ m (si_ c 1214 x 1)) y = 17 from mo_yb k1), lt_e]
      generalize si_ (bm_ m (si_ c 1214 x 1)) 1600 y 0 = σ at h1 ⊢
      simp [gt_, lt_, nn_, oc_, bd_, m_isLiving0 h1.1 hout, m_refused (mo_y h1.1)]
end C65
