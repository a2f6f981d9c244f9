/-! CALLS: freshen. Written by wip/b/mk71.py. -/
/-- a loop whose states are known by an invariant alone -/
theorem lpe_ {α β : Type} {F : Nat → α → Int32 → Option β} (n : Nat) (I : Nat → α → Prop) (Q : β → Prop) (hs : ∀ f i a, i < n → I i a → ∃ a2, F (f + 1) a (nI i) = F f a2 (nI (i + 1)) ∧ I (i + 1) a2) (he : ∀ f a, I n a → ∃ r, F (f + 1) a (nI n) = some r ∧ Q r) (hn : n < 40000) : ∀ a, I 0 a → ∃ r, F fu_ a (nI 0) = some r ∧ Q r := by
  have key : ∀ k, k ≤ n → ∀ f, n ≤ f + k → ∀ a, I k a → ∃ r, F (f + 1) a (nI k) = some r ∧ Q r := by
    intro k hk f hf
    induction f generalizing k with
    | zero =>
      intro a ha
      have : k = n := by omega
      subst this
      exact he 0 a ha
    | succ f ih =>
      intro a ha
      rcases Nat.lt_or_ge k n with h | h
      · obtain ⟨a2, e, h2⟩ := hs (f + 1) k a h ha
        rw [e]
        exact ih (k + 1) h (by omega) a2 h2
      · have : k = n := by omega
        subst this
        exact he (f + 1) a ha
  exact fun a ha => key 0 (Nat.zero_le _) 39999 (by omega) a ha
theorem lpc_ {α β : Type} {F : Nat → α → Int32 → Option β} (n : Nat) (I : Nat → α → Prop) (K : α → Option β) (hs : ∀ f i a, i < n → I i a → ∃ a2, F (f + 1) a (nI i) = F f a2 (nI (i + 1)) ∧ I (i + 1) a2) (he : ∀ f a, I n a → F (f + 1) a (nI n) = K a) (hn : n < 40000) : ∀ a, I 0 a → ∃ a2, F fu_ a (nI 0) = K a2 ∧ I n a2 := by
  have key : ∀ k, k ≤ n → ∀ f, n ≤ f + k → ∀ a, I k a → ∃ a2, F (f + 1) a (nI k) = K a2 ∧ I n a2 := by
    intro k hk f hf
    induction f generalizing k with
    | zero =>
      intro a ha
      have : k = n := by omega
      subst this
      exact ⟨a, he 0 a ha, ha⟩
    | succ f ih =>
      intro a ha
      rcases Nat.lt_or_ge k n with h | h
      · obtain ⟨a2, e, h2⟩ := hs (f + 1) k a h ha
        rw [e]
        exact ih (k + 1) h (by omega) a2 h2
      · have : k = n := by omega
        subst this
        exact ⟨a, he (f + 1) a ha, ha⟩
  exact fun a ha => key 0 (Nat.zero_le _) 39999 (by omega) a ha
theorem bcf_cn (q : Nat → Bool) : bcf (bo_ q 10) = nI (cn_ q 10) := by
  have h1 : ∀ v, v < 1024 → bcf (nI v) = nI (cn_ (fun k => bt (nI v) k) 10) := by decide +kernel
  have h2 := h1 (bv_ q 10) (bv_lt q 10)
  rw [← bo_v q 10 (Nat.le_refl _)] at h2
  rw [h2, cn_cong (q2 := q) 10 (fun k hk => by rw [bt_bo q 10 (by decide) k (by omega)]; simp [hk])]
def fv9_ (A : AS) (V : Nat → Nat → Int32) (p : Nat) (d : Int32) : Nat → Nat → Nat → Int32
  | 0 => V
  | k + 1 => if sl9_ (A.1, V, A.2.2) p d k = true then up2_ (fv9_ A V p d k) 19 (10 * p + k) d else fv9_ A V p d k
def fw9_ (A : AS) (d : Int32) : Nat → Nat → Nat → Int32
  | 0 => aV A
  | i + 1 => fv9_ A (fw9_ A d i) (aV A 84 i).toNatClampNeg d 10
def fc9_ (A : AS) (d : Int32) : Nat → Nat
  | 0 => 0
  | i + 1 => fc9_ A d i + cn_ (sl9_ (A.1, fw9_ A d i, A.2.2) (aV A 84 i).toNatClampNeg d) 10
theorem fv9_o {A : AS} {V : Nat → Nat → Int32} {p j : Nat} {d : Int32} (hj : j ≠ 19) : ∀ k, fv9_ A V p d k j = V j
  | 0 => rfl
  | k + 1 => by
    unfold fv9_
    split
    · rw [up2_c hj]; exact fv9_o hj k
    · exact fv9_o hj k
theorem fv9_i {A : AS} {V : Nat → Nat → Int32} {p q : Nat} {d : Int32} : ∀ k, (∀ j, j < k → q ≠ 10 * p + j) → fv9_ A V p d k 19 q = V 19 q
  | 0, _ => rfl
  | k + 1, h => by
    unfold fv9_
    split
    · rw [up2_n (h k (Nat.lt_succ_self _))]; exact fv9_i k (fun j hj => h j (by omega))
    · exact fv9_i k (fun j hj => h j (by omega))
theorem fw9_o {A : AS} {j : Nat} {d : Int32} (hj : j ≠ 19) : ∀ i, fw9_ A d i j = aV A j
  | 0 => rfl
  | i + 1 => by
    show fv9_ A (fw9_ A d i) _ d 10 j = _
    rw [fv9_o hj]; exact fw9_o hj i
theorem sl9_fv {A : AS} {V : Nat → Nat → Int32} {p k : Nat} {d : Int32} : sl9_ (A.1, fv9_ A V p d k, A.2.2) p d k = sl9_ (A.1, V, A.2.2) p d k := by
  show (!decide (fv9_ A V p d k 19 (10 * p + k) = -1) && !decide (d - fv9_ A V p d k 19 (10 * p + k) ≤ fv9_ A V p d k 18 k)) = _
  rw [fv9_i k (fun j hj => by omega), fv9_o (by decide)]
  rfl
theorem fc9_le (A : AS) (d : Int32) : ∀ i, fc9_ A d i ≤ 10 * i
  | 0 => Nat.le_refl _
  | i + 1 => by
    have := fc9_le A d i
    have h2 := cn_le (sl9_ (A.1, fw9_ A d i, A.2.2) (aV A 84 i).toNatClampNeg d) 10
    show fc9_ A d i + _ ≤ _
    omega
section MC71
variable {σ : TH} {y : Nat} {G : GH} {A : AS} {N : Nat → Nat}
theorem m_freshen (h : mr_ σ y G A N) (hW : pvW A N) : ∃ r, f_X15_freshen σ y = some r ∧ r.1 = nI (fc9_ A (nI (td_ N)) (N 86)) ∧ md_ (si_ σ 1600 y 0) r.2 y G A (fw9_ A (nI (td_ N)) (N 86)) N := by
  have hy := mo_y h.1
  have h := mr_si h (j := 0) (c := 1600) (by decide) 0
  unfold f_X15_freshen
  rw [gt_t hy, lt_e]
  generalize si_ σ 1600 y 0 = σ at h ⊢
  have hN5 := (mo_n h.1 (j := 5) (cj := 1605) (m := 30) (by decide)).2
  have hN86 := (mo_n h.1 (j := 86) (cj := 1686) (m := 12) (by decide)).2
  refine lpe_ (F := fun f (a : TH × Int32) i => f_X15_freshen_b9 f a.1 y a.2 i) (N 86) (fun i a => a.2 = nI (fc9_ A (nI (td_ N)) i) ∧ md_ σ a.1 y G A (fw9_ A (nI (td_ N)) i) N) (fun r => r.1 = nI (fc9_ A (nI (td_ N)) (N 86)) ∧ md_ σ r.2 y G A (fw9_ A (nI (td_ N)) (N 86)) N) (fun f i a hi ha => ?_) (fun f a ha => ?_) (by omega) (σ, 0) ⟨rfl, md_0 h⟩
  · obtain ⟨τ, n⟩ := a
    obtain ⟨hn, hm⟩ := ha
    subst hn
    dsimp only at hm ⊢
    obtain ⟨p, hp, ep⟩ := hW.1 i hi
    have epc : (aV A 84 i).toNatClampNeg = p := by rw [ep]; exact nI_clamp (by omega)
    have g2 : ¬ nI (N 86) ≤ nI i := nI_ge hi (by omega)
    have e86 : fi_ τ 1686 y = nI (N 86) := (mo_n hm.1.1 (j := 86) (cj := 1686) (m := 12) (by decide)).1
    have g1 : ¬ nI i < 0 := nI_pos (by omega)
    have g3 : (nI i).toNatClampNeg = i := nI_clamp (by omega)
    have g4 : ¬ 12 ≤ i := by omega
    obtain ⟨⟨τ2, n2⟩, e2, hn2, hm2⟩ := lpc_ (F := fun g (a : TH × Int32) k => f_X15_freshen_b19 (f_X15_freshen_b9 f) g a.1 y a.2 (nI i) k) 10 (fun k a => a.2 = nI (fc9_ A (nI (td_ N)) i + cn_ (sl9_ (A.1, fw9_ A (nI (td_ N)) i, A.2.2) p (nI (td_ N))) k) ∧ md_ σ a.1 y G A (fv9_ A (fw9_ A (nI (td_ N)) i) p (nI (td_ N)) k) N) (fun a => f_X15_freshen_b9 f a.1 y a.2 (nI (i + 1))) (fun g k a hk ha => by
      obtain ⟨τ3, n3⟩ := a
      obtain ⟨hn3, hm3⟩ := ha
      dsimp only at hn3 hm3 ⊢
      subst hn3
      have hy3 := mo_y hm3.1.1
      have g0 := kin_ hk
      obtain ⟨a84, b84, c84⟩ := mo_a hm3.1.1 (j := 84) (cj := 1684) (K := 20) (n := 12) (by decide)
      obtain ⟨a19, b19, c19⟩ := mo_a hm3.1.1 (j := 19) (cj := 1619) (K := 20) (n := 300) (by decide)
      have v84 := mr_V hm3.1 (j := 84) (by decide) i
      have v84 : ai_ τ3 (ga_ G 84 0) i = nI p := by
        rw [v84]
        show fv9_ A (fw9_ A (nI (td_ N)) i) p (nI (td_ N)) k 84 i = _
        rw [fv9_o (by decide), fw9_o (by decide)]
        exact ep
      have n6 := m_today2 hm3.1
      have st := m_isStale hm3.1 (p := p) (k := k) (by omega) hk (nI (td_ N))
      rw [show sl9_ ((A.1, fv9_ A (fw9_ A (nI (td_ N)) i) p (nI (td_ N)) k, A.2.2)) p (nI (td_ N)) k = sl9_ (A.1, fw9_ A (nI (td_ N)) i, A.2.2) p (nI (td_ N)) k from sl9_fv] at st
      have i1 : ¬ nI (10 * p + k) < 0 := nI_pos (by omega)
      have i3 : (nI (10 * p + k)).toNatClampNeg = 10 * p + k := nI_clamp (by omega)
      have i4 : ¬ 300 ≤ 10 * p + k := by omega
      by_cases z : sl9_ (A.1, fw9_ A (nI (td_ N)) i, A.2.2) p (nI (td_ N)) k = true
      · refine ⟨(sa_ τ3 (ga_ G 19 0) (10 * p + k) (nI (td_ N)), nI (fc9_ A (nI (td_ N)) i + cn_ (sl9_ (A.1, fw9_ A (nI (td_ N)) i, A.2.2) p (nI (td_ N))) (k + 1))), ?_, rfl, ?_⟩
        · simp [f_X15_freshen_b19, f_X15_freshen_b69, gt_, lt_, nn_, oc_, bd_, hy3, g0, a84, b84, c84, g1, g3, g4, v84, n6, st, z, bi_, a19, b19, c19, ten_, i1, i3, i4, nI_1, cn_, Nat.add_assoc]
        · unfold fv9_
          rw [if_pos z]
          exact md_sa hm3 (j := 19) (by decide) (10 * p + k) (nI (td_ N))
      · refine ⟨(τ3, nI (fc9_ A (nI (td_ N)) i + cn_ (sl9_ (A.1, fw9_ A (nI (td_ N)) i, A.2.2) p (nI (td_ N))) (k + 1))), ?_, rfl, ?_⟩
        · simp [f_X15_freshen_b19, f_X15_freshen_b69, gt_, lt_, nn_, oc_, bd_, hy3, g0, a84, b84, c84, g1, g3, g4, v84, n6, st, z, bi_, nI_1, cn_]
        · unfold fv9_
          rw [if_neg z]
          exact hm3) (fun g a ha => by simp [f_X15_freshen_b19, lt_, show (10 : Int32) ≤ nI 10 from by decide, nI_1]) (by decide) (τ, nI (fc9_ A (nI (td_ N)) i)) ⟨rfl, hm⟩
    dsimp only at hn2 hm2
    refine ⟨(τ2, n2), ?_, ?_, ?_⟩
    · have e1 : f_X15_freshen_b9 (f + 1) τ y (nI (fc9_ A (nI (td_ N)) i)) (nI i) = f_X15_freshen_b19 (f_X15_freshen_b9 f) fu_ τ y (nI (fc9_ A (nI (td_ N)) i)) (nI i) (nI 0) := by
        rw [f_X15_freshen_b9, gt_t (mo_y hm.1.1), lt_e, e86, if_neg g2]
        rfl
      rw [e1]
      exact e2
    · show n2 = nI (fc9_ A (nI (td_ N)) i + cn_ (sl9_ (A.1, fw9_ A (nI (td_ N)) i, A.2.2) (aV A 84 i).toNatClampNeg (nI (td_ N))) 10)
      rw [epc]; exact hn2
    · show md_ σ τ2 y G A (fv9_ A (fw9_ A (nI (td_ N)) i) (aV A 84 i).toNatClampNeg (nI (td_ N)) 10) N
      rw [epc]; exact hm2
  · obtain ⟨τ, n⟩ := a
    obtain ⟨hn, hm⟩ := ha
    have g2 : nI (N 86) ≤ nI (N 86) := nI_le (Nat.le_refl _) (by omega)
    have e86 : fi_ τ 1686 y = nI (N 86) := (mo_n hm.1.1 (j := 86) (cj := 1686) (m := 12) (by decide)).1
    exact ⟨_, by simp [f_X15_freshen_b9, gt_, lt_, nn_, oc_, bd_, mo_y hm.1.1, e86, g2]; rfl, hn, hm⟩
end MC71
section C71
variable {ka : Nat → Nat} {TX : Nat → Nat → (Nat → Int32) → Nat → (Nat → Int32) → Prop} {x y o N0 : Nat}
theorem ob_chk {A : AS} {G : GH} {N : Nat → Nat} {r i : Nat} {m : CE} (j : Nat) (v : Int32) (hd : ¬ r ∈ ([32, 36] : List Nat)) (h : ob_ ka TX A G N r i m) : ob_ ka TX (A.1, up2_ (aV A) 19 j v, A.2.2) G N r i m := by
  match r, hd, h with
  | 0, hd, h => exact h
  | 1, hd, h => exact h
  | 2, hd, h => exact h
  | 3, hd, h => exact h
  | 4, hd, h => exact h
  | 5, hd, h => exact h
  | 6, hd, h => exact h
  | 7, hd, h => exact h
  | 8, hd, h => exact h
  | 9, hd, h => exact h
  | 10, hd, h => exact h
  | 11, hd, h => exact h
  | 12, hd, h => exact h
  | 13, hd, h => exact h
  | 14, hd, h => exact h
  | 15, hd, h => exact h
  | 16, hd, h => exact h
  | 17, hd, h => exact h
  | 18, hd, h => exact h
  | 19, hd, h => exact h
  | 20, hd, h => exact h
  | 21, hd, h => exact h
  | 22, hd, h => exact h
  | 23, hd, h => exact h
  | 24, hd, h => exact h
  | 25, hd, h => exact h
  | 26, hd, h => exact h
  | 27, hd, h => exact h
  | 28, hd, h => exact h
  | 29, hd, h => exact h
  | 30, hd, h => exact h
  | 31, hd, h => exact h
  | 32, hd, h => exact absurd (by decide) hd
  | 33, hd, h => exact h
  | 34, hd, h => exact h
  | 35, hd, h => exact h
  | 36, hd, h => exact absurd (by decide) hd
  | 37, hd, h => exact h
  | 38, hd, h => exact h
  | 39, hd, h => exact h
  | 40, hd, h => exact h
  | 41, hd, h => exact h
  | 42, hd, h => exact h
  | 43, hd, h => exact h
  | 44, hd, h => exact h
  | 45, hd, h => exact h
  | 46, hd, h => exact h
  | 47, hd, h => exact h
  | 48, hd, h => exact h
  | 49, hd, h => exact h
  | 50, hd, h => exact h
  | 51, hd, h => exact h
  | 52, hd, h => exact h
  | 53, hd, h => exact h
  | 54, hd, h => exact h
  | 55, hd, h => exact h
  | 56, hd, h => exact h
  | 57, hd, h => exact h
  | 58, hd, h => exact h
  | r + 59, hd, h => exact h
theorem rc_chk {σ : TH} {G : GH} {A : AS} {N : Nat → Nat} (h : rc_ ka TX σ x G A N) (hT : pvT A N) (hN : N 5 ≤ 30) {p k t : Nat} (hp : p < N 5) (hk : k < 10) (ht : lt9_ A N p k = some t) {d : Nat} (hd : d < 2 ^ 31) {τ : TH} (e0 : τ = si_ σ 905 (ga_ G 36 t) (nI d)) : rc_ ka TX τ x G (A.1, up2_ (aV A) 19 (10 * p + k) (nI d), A.2.2) N ∧ fq_ (fun q => q = ga_ G 36 t) σ τ := by
  have h1 := (la_some ht).1
  have hc : t < gc_ G 36 := by rw [rc_36 h]; exact h1
  have hf : fq_ (fun q => q = ga_ G 36 t) σ τ := by
    rw [e0]
    exact fqi (fq_rf h.1.1) rfl
  have h4 : aV A 20 t = nI p ∧ aV A 21 t = nI k := by simpa [tq_] using (la_some ht).2.1
  refine ⟨rc_gen h hf (fun r i => r ∈ ([32, 36] : List Nat)) (tne_ (T := fun q => q = ga_ G 36 t) h.1 (fun q hq => ⟨36, t, by decide, hc, hq⟩)) (fun r i mm hi hd2 h9 => ob_chk _ _ hd2 h9) (fun r i hi hd2 => ?_), hf⟩
  simp only [List.mem_cons, List.not_mem_nil, or_false] at hd2
  rcases hd2 with rfl | rfl
  · have hi5 : i < N 5 := by rw [← rc_32 h]; exact hi
    rw [e0, ce_si (sh_ne h.1 hi hc (Or.inl (by decide)))]
    intro j hj
    obtain ⟨q1, q2⟩ := h.2.2.2 32 i hi j hj
    refine ⟨q1, ?_⟩
    show up2_ (aV A) 19 (10 * p + k) (nI d) 19 (10 * i + j) = -1 ↔ lt9_ A N i j = none
    by_cases e : 10 * i + j = 10 * p + k
    · have e1 : i = p := by omega
      have e2 : j = k := by omega
      subst e1; subst e2
      rw [up2_s]
      exact ⟨fun z => absurd z (nI_n1 hd), fun z => by rw [ht] at z; cases z⟩
    · rw [up2_n e]; exact q2
  · have hi17 : i < N 17 := by rw [← rc_36 h]; exact hi
    rw [e0]
    obtain ⟨⟨P, hP, eP⟩, ⟨K, hK, eK⟩, -⟩ := hT i hi17
    by_cases e : i = t
    · subst e
      obtain ⟨q0, q1, q2, q3, q4, q5, q6⟩ := h.2.2.2 36 i hc
      refine ⟨q0, q1, q2, q3, q4, fun _ => ?_, q6⟩
      show up2_ (fi_ σ) 905 (ga_ G 36 i) (nI d) 905 (ga_ G 36 i) = up2_ (aV A) 19 (10 * p + k) (nI d) 19 (10 * (aV A 20 i).toNatClampNeg + (aV A 21 i).toNatClampNeg)
      rw [h4.1, h4.2, nI_clamp (show p < 2 ^ 31 by omega), nI_clamp (show k < 2 ^ 31 by omega), up2_s, up2_s]
    · rw [ce_si (sh_ne h.1 hi hc (Or.inr e))]
      obtain ⟨q0, q1, q2, q3, q4, q5, q6⟩ := h.2.2.2 36 i hi
      refine ⟨q0, q1, q2, q3, q4, fun z => ?_, q6⟩
      have q5 := q5 z
      rw [eP, eK, nI_clamp (show P < 2 ^ 31 by omega), nI_clamp (show K < 2 ^ 31 by omega)] at q5
      show _ = up2_ (aV A) 19 (10 * p + k) (nI d) 19 (10 * (aV A 20 i).toNatClampNeg + (aV A 21 i).toNatClampNeg)
      rw [eP, eK, nI_clamp (show P < 2 ^ 31 by omega), nI_clamp (show K < 2 ^ 31 by omega)]
      have ne : 10 * P + K ≠ 10 * p + k := fun e9 => e (by
        have e1 : P = p := by omega
        have e2 : K = k := by omega
        have z : la_ (tq_ A (aV A 20 i) (aV A 21 i)) (N 17) = some i := z
        rw [eP, eK, e1, e2] at z
        have z2 : la_ (tq_ A (nI p) (nI k)) (N 17) = some t := ht
        rw [z] at z2
        exact Option.some.inj z2)
      rw [up2_n ne]
      exact q5
theorem lt9_fv {A : AS} {V : Nat → Nat → Int32} {N : Nat → Nat} {i j : Nat} (hV : ∀ j, j ≠ 19 → V j = aV A j) : lt9_ (A.1, V, A.2.2) N i j = lt9_ A N i j := by
  have e : V = fun j => if j = 19 then V 19 else aV A j := funext fun j => by
    by_cases hj : j = 19
    · rw [if_pos hj, hj]
    · rw [if_neg hj]; exact hV j hj
  rw [e]
  rfl
theorem pvT_fv {A : AS} {V : Nat → Nat → Int32} {N : Nat → Nat} (h : pvT A N) (hV : ∀ j, j ≠ 19 → V j = aV A j) : pvT (A.1, V, A.2.2) N := by
  have e : V = fun j => if j = 19 then V 19 else aV A j := funext fun j => by
    by_cases hj : j = 19
    · rw [if_pos hj, hj]
    · rw [if_neg hj]; exact hV j hj
  rw [e]
  exact h
/-- one person's stale facts are checked -/
theorem k_checkStale {σ0 σ : TH} {G : GH} {A : AS} {V : Nat → Nat → Int32} {N : Nat → Nat} (h : rc_ ka TX σ x G (A.1, V, A.2.2) N) (hT : pvT A N) (hV : ∀ j, j ≠ 19 → V j = aV A j) (hN : N 5 ≤ 30) (hm : aS A 6 = nI (N 6)) (hb : N 6 ≤ 5257439) {p : Nat} (hp : p < N 5) (hf : fq_ (fun q => ∃ t, q = ga_ G 36 t) σ0 σ) : ∃ τ, f_X11_checkStale σ x (some (ga_ G 31 p)) = some (nI (cn_ (sl9_ (A.1, V, A.2.2) p (nI (td_ N))) 10), τ) ∧ rc_ ka TX τ x G (A.1, fv9_ A V p (nI (td_ N)) 10, A.2.2) N ∧ fq_ (fun q => ∃ t, q = ga_ G 36 t) σ0 τ ∧ nx_ τ = nx_ σ ∧ sl_ τ = sl_ σ := by
  have hx := rc_x h
  have htd : td_ N < 2 ^ 31 := Nat.lt_of_le_of_lt (Nat.div_le_self _ _) (by omega)
  have n6 := k_now h hm hb
  have sk := k_staleKinds h hp hN (nI (td_ N))
  obtain ⟨⟨τ⟩, e2, h1, h2, h3, h4⟩ := lpc_ (F := fun g (a : TH × Unit) k => f_X11_checkStale_b12 g a.1 x (some (ga_ G 31 p)) (bo_ (sl9_ (A.1, V, A.2.2) p (nI (td_ N))) 10) k) 10 (fun k a => rc_ ka TX a.1 x G (A.1, fv9_ A V p (nI (td_ N)) k, A.2.2) N ∧ fq_ (fun q => ∃ t, q = ga_ G 36 t) σ0 a.1 ∧ nx_ a.1 = nx_ σ ∧ sl_ a.1 = sl_ σ) (fun a => some (bcf (bo_ (sl9_ (A.1, V, A.2.2) p (nI (td_ N))) 10), a.1)) (fun g k a hk ha => by
    obtain ⟨τ, u⟩ := a
    obtain ⟨r1, r2, r3, r4⟩ := ha
    dsimp only at r1 r2 r3 r4 ⊢
    have hx := rc_x r1
    have g0 := kin_ hk
    have g1 : ¬ nI k < 0 := nI_pos (by omega)
    have g3 : (nI k).toNatClampNeg = k := nI_clamp (by omega)
    have g4 : ¬ 10 ≤ k := by omega
    obtain ⟨f1, f2, f3, f4, f5⟩ := k_facts r1 hp
    obtain ⟨f6, f7⟩ := f5 k hk
    have n6 := k_now r1 hm hb
    have hVk : ∀ j, j ≠ 19 → fv9_ A V p (nI (td_ N)) k j = aV A j := fun j hj => by rw [fv9_o hj]; exact hV j hj
    have hbit := bit_and (bo_ (sl9_ (A.1, V, A.2.2) p (nI (td_ N))) 10) (k := k) (by omega)
    rw [bt_bo _ 10 (by decide) k (by omega), decide_eq_true hk, Bool.true_and] at hbit
    cases ht : lt9_ (A.1, fv9_ A V p (nI (td_ N)) k, A.2.2) N p k with
    | none =>
      have z1 := f7.mpr ht
      have z2 : fv9_ A V p (nI (td_ N)) k 19 (10 * p + k) = -1 := z1
      rw [fv9_i k (fun j hj => by omega)] at z2
      have z : ¬ sl9_ (A.1, V, A.2.2) p (nI (td_ N)) k = true := by
        show ¬ (!decide (V 19 (10 * p + k) = -1) && _) = true
        simp [z2]
      rw [ht] at f6
      refine ⟨(τ, u), ?_, ?_, r2, r3, r4⟩
      · simp [f_X11_checkStale_b12, f_X11_checkStale_b48, gt_, lt_, nn_, oc_, bd_, g0, f1, f2, f3, f4, f6, g1, g3, g4, nI_1]
      · show rc_ ka TX τ x G (A.1, (if sl9_ (A.1, V, A.2.2) p (nI (td_ N)) k = true then _ else fv9_ A V p (nI (td_ N)) k), A.2.2) N
        rw [if_neg z]; exact r1
    | some t =>
      rw [ht] at f6
      by_cases z : sl9_ (A.1, V, A.2.2) p (nI (td_ N)) k = true
      · obtain ⟨w1, w2⟩ := rc_chk r1 (pvT_fv hT hVk) hN hp hk ht htd rfl
        obtain ⟨-, s1, -⟩ := k_tell r1 hp hN hk ht
        have hbz : ¬ bo_ (sl9_ (A.1, V, A.2.2) p (nI (td_ N))) 10 &&& ((1 : Int32) <<< (nI k &&& 31)) = 0 := fun q => by rw [hbit.mp q] at z; cases z
        refine ⟨(si_ τ 905 (ga_ G 36 t) (nI (td_ N)), u), ?_, ?_, fq_tr r2 (fq_w w2 (fun q hq => ⟨t, hq⟩)), r3, r4⟩
        · simp [f_X11_checkStale_b12, f_X11_checkStale_b48, gt_, lt_, nn_, oc_, bd_, hx, g0, f1, f2, f3, f4, f6, g1, g3, g4, hbz, n6, s1, nI_1]
        · show rc_ ka TX _ x G (A.1, (if sl9_ (A.1, V, A.2.2) p (nI (td_ N)) k = true then up2_ (fv9_ A V p (nI (td_ N)) k) 19 (10 * p + k) (nI (td_ N)) else fv9_ A V p (nI (td_ N)) k), A.2.2) N
          rw [if_pos z]; exact w1
      · have hbz : bo_ (sl9_ (A.1, V, A.2.2) p (nI (td_ N))) 10 &&& ((1 : Int32) <<< (nI k &&& 31)) = 0 := hbit.mpr (by simpa using z)
        refine ⟨(τ, u), ?_, ?_, r2, r3, r4⟩
        · simp [f_X11_checkStale_b12, f_X11_checkStale_b48, gt_, lt_, nn_, oc_, bd_, g0, f1, f2, f3, f4, f6, g1, g3, g4, hbz, nI_1]
        · show rc_ ka TX τ x G (A.1, (if sl9_ (A.1, V, A.2.2) p (nI (td_ N)) k = true then _ else fv9_ A V p (nI (td_ N)) k), A.2.2) N
          rw [if_neg z]; exact r1) (fun g a ha => by simp [f_X11_checkStale_b12, gt_, lt_, nn_, oc_, bd_, k_bits, show (10 : Int32) ≤ nI 10 from by decide]) (by decide) (σ, ()) ⟨h, hf, rfl, rfl⟩
  refine ⟨τ, ?_, h1, h2, h3, h4⟩
  unfold f_X11_checkStale
  rw [gt_t hx, n6, bd_s, sk, bd_s, ← bcf_cn]
  exact e2
theorem pv_fv {A : AS} {V : Nat → Nat → Int32} {N : Nat → Nat} {S : Nat → Int32} (h : pv_ A N) (hV : ∀ j, j ≠ 19 → V j = aV A j) (h19 : ∀ p, N 5 ≤ p → ∀ k, k < 10 → V 19 (10 * p + k) = aV A 19 (10 * p + k)) : pv_ (S, V, A.2.2) N := by
  have e : V = fun j => if j = 19 then V 19 else aV A j := funext fun j => by
    by_cases hj : j = 19
    · rw [if_pos hj, hj]
    · rw [if_neg hj]; exact hV j hj
  rw [e]
  obtain ⟨h1, h2, h3, h4, h5, h6, h7, d1, d2, d3⟩ := h
  exact ⟨h1, h2, h3, h4, h5, h6, h7, d1, fun q hq hq2 => ⟨(d2 q hq hq2).1, (d2 q hq hq2).2.1, (d2 q hq hq2).2.2.1, fun j hj => (h19 q hq j hj).trans ((d2 q hq hq2).2.2.2 j hj)⟩, d3⟩
theorem ok_freshen : St_freshen ka x y (inv_ ka TX pv_ x y o N0) := fun n c m  hn hI => by
  obtain ⟨GC, GM, N, k1, k2, k3, k4, k5, k6, k7, k8⟩ := id hI
  have hN := (mo_n k1 (j := 5) (cj := 1605) (m := 30) (by decide)).2
  obtain ⟨e6, hN6⟩ := mo_n k1 (j := 6) (cj := 1606) (m := 5257439) (by decide)
  have hb : mr_ (bm_ m c) y GM (as_ m y GM) N := mr_bm (mr_of k1) (Nat.le_of_eq k5.1)
  have hx := rc_x k2
  obtain ⟨e9, hN86⟩ := mo_n k1 (j := 86) (cj := 1686) (m := 12) (by decide)
  obtain ⟨e1, e2⟩ := rc_r1218 k2
  have hW := k3.2.2.2.2.2.2.1
  have hA : (as_ m y GM) = ((as_ m y GM).1, aV (as_ m y GM), (as_ m y GM).2.2) := rfl
  have r84 : ∀ i, fw9_ (as_ m y GM) (nI (td_ N)) i 84 = aV (as_ m y GM) 84 := fun i => fw9_o (by decide) i
  obtain ⟨⟨r, τ⟩, g1c, hr1, rr, rf, rn⟩ := lpe_ (F := fun f (a : TH × Int32) i => f_X11_freshen_b4 f a.1 x a.2 i) (N 86) (fun i a => a.2 = nI (fc9_ (as_ m y GM) (nI (td_ N)) i) ∧ rc_ ka TX a.1 x GC ((as_ m y GM).1, fw9_ (as_ m y GM) (nI (td_ N)) i, (as_ m y GM).2.2) N ∧ fq_ (fun q => ∃ t, q = ga_ GC 36 t) c a.1 ∧ nx_ a.1 = nx_ c ∧ sl_ a.1 = sl_ c) (fun r => r.1 = nI (fc9_ (as_ m y GM) (nI (td_ N)) (N 86)) ∧ rc_ ka TX r.2 x GC ((as_ m y GM).1, fw9_ (as_ m y GM) (nI (td_ N)) (N 86), (as_ m y GM).2.2) N ∧ fq_ (fun q => ∃ t, q = ga_ GC 36 t) c r.2 ∧ nx_ r.2 = nx_ c ∧ sl_ r.2 = sl_ c) (fun f i a hi ha => by
    obtain ⟨τ, n⟩ := a
    obtain ⟨hn, h1, h2, h3, h4⟩ := ha
    dsimp only at hn h1 h2 h3 h4 ⊢
    subst hn
    have hx := rc_x h1
    obtain ⟨e1, e2⟩ := rc_r1218 h1
    have hW1 : pvW ((as_ m y GM).1, fw9_ (as_ m y GM) (nI (td_ N)) i, (as_ m y GM).2.2) N := by
      refine ⟨fun j hj => ?_, fun w hw => ?_⟩
      · obtain ⟨p, hp, ep⟩ := hW.1 j hj
        exact ⟨p, hp, (congrFun (r84 i) j).trans ep⟩
      · have e7 : fw9_ (as_ m y GM) (nI (td_ N)) i 7 w = aV (as_ m y GM) 7 w := congrFun (fw9_o (by decide) i) w
        have := hW.2 w hw
        show 0 ≤ fw9_ (as_ m y GM) (nI (td_ N)) i 7 w ∧ fw9_ (as_ m y GM) (nI (td_ N)) i 7 w ≤ 60
        rw [e7]; exact this
    have hl := rc_l8 h1 hN hN86 hW1
    have l1 := l_size hl
    have l2 := l_get hl hi
    obtain ⟨p, hp, ep⟩ := hW.1 i hi
    have epc : (aV (as_ m y GM) 84 i).toNatClampNeg = p := by rw [ep]; exact nI_clamp (by omega)
    have l2 : f_Jx4a65c_get_915e3 τ (ga_ GC 8 0) (nI i) = some (some (ga_ GC 31 p), τ) := by
      rw [l2]
      show some (some (ga_ GC 31 (fw9_ (as_ m y GM) (nI (td_ N)) i 84 i).toNatClampNeg), τ) = _
      rw [r84, epc]
    have hc31 : p < gc_ GC 31 := by rw [rc_31 h1]; exact hp
    have hk31 : kd_ τ (ga_ GC 31 p) = 4 := (h1.1.2 31 p hc31).1
    have g2 : ¬ nI (N 86) ≤ nI i := nI_ge hi (by omega)
    obtain ⟨τ2, c1, c2, c3, c4, c5⟩ := k_checkStale h1 k3.1 (fun j hj => fw9_o hj i) hN e6 hN6 hp h2
    refine ⟨(τ2, nI (fc9_ (as_ m y GM) (nI (td_ N)) (i + 1))), ?_, rfl, ?_, c3, c4.trans h3, c5.trans h4⟩
    · rw [f_X11_freshen_b4, gt_t hx, lt_e, e1, nn_s, gt_t e2, l1, bd_s, if_neg g2, lt_e, e1, nn_s, gt_t e2, l2, bd_s, gt_t (show Option.elim (some (ga_ GC 31 p)) 4 (kd_ τ) = 4 from hk31), c1, bd_s, lt_e, lt_e, nI_add, nI_1]
      show f_X11_freshen_b4 f τ2 x (nI (fc9_ (as_ m y GM) (nI (td_ N)) i + cn_ (sl9_ ((as_ m y GM).1, fw9_ (as_ m y GM) (nI (td_ N)) i, (as_ m y GM).2.2) p (nI (td_ N))) 10)) (nI (i + 1)) = f_X11_freshen_b4 f τ2 x (nI (fc9_ (as_ m y GM) (nI (td_ N)) i + cn_ (sl9_ ((as_ m y GM).1, fw9_ (as_ m y GM) (nI (td_ N)) i, (as_ m y GM).2.2) (aV (as_ m y GM) 84 i).toNatClampNeg (nI (td_ N))) 10)) (nI (i + 1))
      rw [epc]
    · show rc_ ka TX τ2 x GC ((as_ m y GM).1, fv9_ (as_ m y GM) (fw9_ (as_ m y GM) (nI (td_ N)) i) (aV (as_ m y GM) 84 i).toNatClampNeg (nI (td_ N)) 10, (as_ m y GM).2.2) N
      rw [epc]; exact c2) (fun f a ha => by
    obtain ⟨τ, n⟩ := a
    obtain ⟨hn, h1, h2, h3, h4⟩ := ha
    dsimp only at hn h1 h2 h3 h4 ⊢
    subst hn
    have hx := rc_x h1
    obtain ⟨e1, e2⟩ := rc_r1218 h1
    have q8 := (h1.2.2.2 8 0 (rc_1 h1 (by decide))).1
    have l1 : f_Jx4a65c_size_8abf5 τ (ga_ GC 8 0) = some (nI (N 86), τ) := by
      have q8 : fi_ τ 2 (ga_ GC 8 0) = nI (N 86) := q8
      simp [f_Jx4a65c_size_8abf5, gt_, lt_, nn_, oc_, bd_, e2, q8]
    have g2 : nI (N 86) ≤ nI (N 86) := nI_le (Nat.le_refl _) (by omega)
    refine ⟨(nI (fc9_ (as_ m y GM) (nI (td_ N)) (N 86)), τ), ?_, rfl, h1, h2, h3, h4⟩
    rw [f_X11_freshen_b4, gt_t hx, lt_e, e1, nn_s, gt_t e2, l1, bd_s, if_pos g2]) (by omega) (c, 0) ⟨rfl, k2, fq_rf k2.1.1, rfl, rfl⟩
  dsimp only at hr1 rr rf rn
  subst hr1
  have h0 := mr_bm (z := τ) (mr_of k1) (by rw [k5.1, rn.1]; exact Nat.le_refl _)
  obtain ⟨⟨r2, m1⟩, g1r, hr2, hmd⟩ := m_freshen h0 hW
  dsimp only at hr2 hmd
  subst hr2
  refine ⟨_, τ, m1, g1c, g1r, inv_fin hI rf ⟨by rw [rn.1]; exact Nat.le_add_right _ _, by rw [rn.2]; exact Nat.le_add_right _ _⟩ (U := fun q => q = y ∨ ∃ j, j ∈ MA ∧ q = ga_ GM j 0) (fq_tr (fqi (fq_rf h0.1.1.1) (Or.inl rfl)) hmd.2.1) ⟨?_, ?_⟩ hmd.1 (fun j hj => ?_) rr (pv_fv k3 (fun j hj => fw9_o hj _) (fun p hp k hk => ?_))⟩
  · rw [hmd.2.2.2.1]; exact Nat.le_add_right _ _
  · rw [hmd.2.2.2.2]; exact Nat.le_add_right _ _
  · rw [hmd.2.2.1, fi_si]
    have hj0 : ∀ j, j ∈ DS → j ≠ 0 := by decide
    rw [up2_c (show 1600 + j ≠ 1600 by have := hj0 j hj; omega)]
    rfl
  · have : ∀ i, i ≤ N 86 → fw9_ (as_ m y GM) (nI (td_ N)) i 19 (10 * p + k) = aV (as_ m y GM) 19 (10 * p + k) := by
      intro i
      induction i with
      | zero => intro _; rfl
      | succ i ih =>
        intro hi
        obtain ⟨q, hq, eq⟩ := hW.1 i (by omega)
        show fv9_ (as_ m y GM) (fw9_ (as_ m y GM) (nI (td_ N)) i) (aV (as_ m y GM) 84 i).toNatClampNeg (nI (td_ N)) 10 19 (10 * p + k) = _
        rw [eq, nI_clamp (show q < 2 ^ 31 by omega), fv9_i 10 (fun j hj => by omega)]
        exact ih (by omega)
    exact this (N 86) (Nat.le_refl _)
end C71
