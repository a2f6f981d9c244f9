/-! TEXTS KEPT: what steps stand for; a story's paragraphs on both sides; what is printed. Written by wip/b/mk99z7.py. -/
def w9_ (n : Nat) (B : Nat → Int32) (k : Nat) : Nat := if k < n then (B k &&& 255).toNatClampNeg else 999
theorem and255 (v : Int32) : v &&& 255 = nI (v &&& 255).toNatClampNeg ∧ (v &&& 255).toNatClampNeg < 256 := by
  obtain ⟨j, hj, e⟩ := pk_andE v (m := 255) 8 (by decide)
  have hj : j < 256 := hj
  rw [e, nI_clamp (by omega)]
  exact ⟨rfl, hj⟩
theorem w9_wn {n : Nat} {B : Nat → Int32} (hn : n ≤ 400) : wn_ (w9_ n B) n := by
  refine ⟨fun k hk => if_neg (by omega), fun k hk => ?_, hn⟩
  show (if k < n then _ else _) < 256
  rw [if_pos hk]
  exact (and255 _).2
theorem w9_ext {n : Nat} {B B' : Nat → Int32} (h : ∀ k, k < n → B k = B' k) : w9_ n B = w9_ n B' := by
  funext k
  unfold w9_
  by_cases z : k < n
  · rw [if_pos z, if_pos z, h k z]
  · rw [if_neg z, if_neg z]
/-- THE STEPS STAND FOR THE BYTES -/
def TXp_ (kind n : Nat) (B : Nat → Int32) (len : Nat) (arr : Nat → Int32) : Prop := n ≤ 400 ∧ ∃ m' : MM, rN_ (decide (kind = 1)) (w9_ n B) n (m0_ (decide (kind = 1))) 0 = .inr m' ∧ len = (mS_ m').length ∧ len ≤ 900 ∧ (∀ i, i < len → arr i = se9_ ((mS_ m').getD i (0, 0))) ∧ ∀ s, s ∈ mS_ m' → sk9_ (decide (kind = 1)) s
theorem tx_P {n : Nat} {B : Nat → Int32} {len : Nat} {arr : Nat → Int32} (h : TXp_ 0 n B len arr) : n ≤ 400 ∧ ∃ S : List SP, len = S.length ∧ len ≤ 900 ∧ (∀ i, i < len → arr i = se9_ (S.getD i (0, 0))) ∧ (∀ s, s ∈ S → sk9_ false s) ∧ ∀ E, ∃ x, pP_ E (w9_ n B) n = .inr x ∧ x.2.2.1 = S := by
  obtain ⟨hn, m', h1, h2, h3, h4, h5⟩ := h
  refine ⟨hn, mS_ m', h2, h3, h4, h5, fun E => ?_⟩
  have q := rN_P (E := E) (w9_wn (B := B) hn) (m := m0_ false) rfl rfl rfl rfl rfl (fun _ => rfl)
  have h1 : rN_ false (w9_ n B) n (m0_ false) 0 = .inr m' := h1
  revert q
  cases pP_ E (w9_ n B) n with
  | inl e =>
    intro q
    have q : rN_ false (w9_ n B) n (m0_ false) 0 = .inl e := q
    rw [h1] at q
    cases q
  | inr x =>
    intro q
    obtain ⟨m2, e1, e2, e3⟩ := q
    rw [h1] at e1
    cases e1
    exact ⟨x, rfl, e3.symm⟩
theorem tx_R {n : Nat} {B : Nat → Int32} {len : Nat} {arr : Nat → Int32} (h : TXp_ 1 n B len arr) : n ≤ 400 ∧ ∃ S : List SP, len = S.length ∧ len ≤ 900 ∧ (∀ i, i < len → arr i = se9_ (S.getD i (0, 0))) ∧ (∀ s, s ∈ S → sk9_ true s) ∧ ∀ E, ∃ x, pR_ E (w9_ n B) = .inr x ∧ x.2.1 = S := by
  obtain ⟨hn, m', h1, h2, h3, h4, h5⟩ := h
  refine ⟨hn, mS_ m', h2, h3, h4, h5, fun E => ?_⟩
  have q := rN_RR (E := E) (w9_wn (B := B) hn) (m := m0_ true) rfl rfl rfl rfl
  have h1 : rN_ true (w9_ n B) n (m0_ true) 0 = .inr m' := h1
  revert q
  cases pR_ E (w9_ n B) with
  | inl e =>
    intro q
    have q : rN_ true (w9_ n B) n (m0_ true) 0 = .inl e := q
    rw [h1] at q
    cases q
  | inr x =>
    intro q
    obtain ⟨m2, e1, e2, e3⟩ := q
    rw [h1] at e1
    cases e1
    exact ⟨x, rfl, e3.symm⟩
/-- the first that has it, of m from i on -/
def ff9_ (q : Nat → Bool) : Nat → Nat → Option Nat
  | 0, _ => none
  | m + 1, i => if q i = true then some i else ff9_ q m (i + 1)
theorem ff9_some {q : Nat → Bool} {k : Nat} : ∀ {m i : Nat}, ff9_ q m i = some k → i ≤ k ∧ k < i + m ∧ q k = true
  | 0, i, h => nomatch h
  | m + 1, i, h => by
    unfold ff9_ at h
    by_cases e : q i = true
    · rw [if_pos e] at h
      cases h
      exact ⟨Nat.le_refl _, by omega, e⟩
    · rw [if_neg e] at h
      obtain ⟨h1, h2, h3⟩ := ff9_some h
      exact ⟨by omega, by omega, h3⟩
theorem ff9_none {q : Nat → Bool} : ∀ {m i : Nat}, ff9_ q m i = none → ∀ j, i ≤ j → j < i + m → q j = false
  | 0, i, _, j, h1, h2 => by omega
  | m + 1, i, h, j, h1, h2 => by
    unfold ff9_ at h
    by_cases e : q i = true
    · rw [if_pos e] at h; cases h
    · rw [if_neg e] at h
      by_cases e2 : j = i
      · subst e2; simpa using e
      · exact ff9_none h j (by omega) (by omega)
theorem cn_s (q : Nat → Bool) (n : Nat) : cn_ q (n + 1) = cn_ q n + (if q n = true then 1 else 0) := rfl
theorem cn_mono (q : Nat → Bool) : ∀ {a b : Nat}, a ≤ b → cn_ q a ≤ cn_ q b := by
  intro a b h
  induction b with
  | zero => rw [Nat.le_zero.mp h]; exact Nat.le_refl _
  | succ b ih =>
    by_cases e : a = b + 1
    · rw [e]; exact Nat.le_refl _
    · have := ih (by omega)
      rw [cn_s]
      omega
theorem cn_lt9 {q : Nat → Bool} {k n : Nat} (hk : k < n) (hq : q k = true) : cn_ q k < cn_ q n := by
  have h1 := cn_mono q (show k + 1 ≤ n by omega)
  rw [cn_s, if_pos hq] at h1
  omega
theorem cn_ex {q : Nat → Bool} : ∀ {n j : Nat}, j < cn_ q n → ∃ k, k < n ∧ q k = true ∧ cn_ q k = j := by
  intro n
  induction n with
  | zero => intro j h; exact absurd h (Nat.not_lt_zero _)
  | succ n ih =>
    intro j h
    rw [cn_s] at h
    by_cases e : q n = true
    · rw [if_pos e] at h
      by_cases z : j = cn_ q n
      · exact ⟨n, by omega, e, z.symm⟩
      · obtain ⟨k, h1, h2, h3⟩ := ih (show j < cn_ q n by omega)
        exact ⟨k, by omega, h2, h3⟩
    · rw [if_neg e] at h
      obtain ⟨k, h1, h2, h3⟩ := ih (show j < cn_ q n by omega)
      exact ⟨k, by omega, h2, h3⟩
/-- a story's paragraph by its place -/
def pf9_ (A : AS) (N : Nat → Nat) (p : Nat) (b : Int32) : Option Nat := ff9_ (fun k => decide (aP A 1400 k = nI p) && decide (aP A 1401 k = b)) (N 47) 0
theorem pf9_some {A : AS} {N : Nat → Nat} {p : Nat} {b : Int32} {k : Nat} (h : pf9_ A N p b = some k) : k < N 47 ∧ aP A 1400 k = nI p ∧ aP A 1401 k = b := by
  obtain ⟨h1, h2, h3⟩ := ff9_some h
  have h3 : aP A 1400 k = nI p ∧ aP A 1401 k = b := by simpa using h3
  exact ⟨by omega, h3⟩
/-- what is printed of it today -/
def ot9_ (A : AS) (N : Nat → Nat) (p k : Nat) : List Nat := match pP_ (EP_ A N p) (w9_ (aL A k) (aB A k)) (aL A k) with
  | .inr x => x.2.2.2
  | .inl _ => []
theorem kh_kh {σ : TH} {R S K : Nat} {F X Y F' X' Y' : Nat → Int32} : kh_ (kh_ σ R S K F X Y) R S K F' X' Y' = kh_ σ R S K F' X' Y' := by
  have e1 : (fun c a => if a = R then F' c else fi_ (kh_ σ R S K F X Y) c a) = fun c a => if a = R then F' c else fi_ σ c a := by
    funext c a
    by_cases z : a = R
    · rw [if_pos z, if_pos z]
    · rw [if_neg z, if_neg z]; exact if_neg z
  have e2 : (fun a i => if a = S then X' i else if a = K then Y' i else ai_ (kh_ σ R S K F X Y) a i) = fun a i => if a = S then X' i else if a = K then Y' i else ai_ σ a i := by
    funext a i
    by_cases z : a = S
    · rw [if_pos z, if_pos z]
    · rw [if_neg z, if_neg z]
      by_cases z2 : a = K
      · rw [if_pos z2, if_pos z2]
      · rw [if_neg z2, if_neg z2]; exact (if_neg z).trans (if_neg z2)
  show (kd_ σ, ln_ σ, (fun c a => if a = R then F' c else fi_ (kh_ σ R S K F X Y) c a), fr_ σ, fl_ σ, (fun a i => if a = S then X' i else if a = K then Y' i else ai_ (kh_ σ R S K F X Y) a i), ar_ σ, al_ σ, ow_ σ, nx_ σ, sl_ σ) = _
  rw [e1, e2]
  rfl
section KT9
variable {ka : Nat → Nat} {TX : Nat → Nat → (Nat → Int32) → Nat → (Nat → Int32) → Prop} {σ : TH} {x : Nat} {G : GH} {A : AS} {N : Nat → Nat}
theorem rc_37 (h : rc_ ka TX σ x G A N) : gc_ G 37 = N 47 ∧ gc_ G 38 = N 47 ∧ gc_ G 33 = N 5 ∧ gc_ G 34 = N 5 ∧ gc_ G 35 = N 5 := by
  have := h.2.2.1
  unfold cg_ at this
  simp only [this, and_self]
/-- a text -/
theorem k_text (h : rc_ ka TX σ x G A N) {k : Nat} (hk : k < N 47) : kd_ σ (ga_ G 37 k) = 11 ∧ aP A 1401 k = nI (pl_ A k) ∧ fr_ σ 1000 (ga_ G 37 k) = some (ga_ G 38 k) ∧ fi_ σ 1001 (ga_ G 37 k) = aP A 1404 k ∧ fi_ σ 1002 (ga_ G 37 k) = aP A 1405 k ∧ kd_ σ (ga_ G 38 k) = 20 ∧ TX 0 (aL A k) (aB A k) (ln_ σ (ga_ G 38 k)) (ai_ σ (ga_ G 38 k)) := by
  obtain ⟨g1, g2, -⟩ := rc_37 h
  obtain ⟨q1, q2, q3, q4⟩ := h.2.2.2 37 k (by rw [g1]; exact hk)
  have q5 := h.2.2.2 38 k (by rw [g2]; exact hk)
  exact ⟨(h.1.2 37 k (by rw [g1]; exact hk)).1, q1, q2, q3, q4, (h.1.2 38 k (by rw [g2]; exact hk)).1, q5⟩
/-- the arrays of a story -/
theorem k_story (h : rc_ ka TX σ x G A N) {p : Nat} (hp : p < N 5) : (fi_ σ 313 (ga_ G 31 p) = nI (st_ A N p)) ∧ (fr_ σ 310 (ga_ G 31 p) = some (ga_ G 33 p) ∧ kd_ σ (ga_ G 33 p) = 26 ∧ ln_ σ (ga_ G 33 p) = 14) ∧ (fr_ σ 311 (ga_ G 31 p) = some (ga_ G 34 p) ∧ kd_ σ (ga_ G 34 p) = 20 ∧ ln_ σ (ga_ G 34 p) = 14) ∧ (fr_ σ 312 (ga_ G 31 p) = some (ga_ G 35 p) ∧ kd_ σ (ga_ G 35 p) = 20 ∧ ln_ σ (ga_ G 35 p) = 14) ∧ (∀ k, k < N 47 → aP A 1400 k = nI p → ar_ σ (ga_ G 33 p) (pl_ A k) = some (ga_ G 37 k) ∧ ai_ σ (ga_ G 34 p) (pl_ A k) = aP A 1402 k ∧ ai_ σ (ga_ G 35 p) (pl_ A k) = aP A 1403 k) := by
  obtain ⟨-, -, g3, g4, g5⟩ := rc_37 h
  have g1 := rc_31 h
  obtain ⟨q0, q1, q2, q3, q4, q5, q6, q7, q8, q9, q10, q11, q12, q13, q14⟩ := h.2.2.2 31 p (by rw [g1]; exact hp)
  have a := h.2.2.2 33 p (by rw [g3]; exact hp)
  have b := h.2.2.2 34 p (by rw [g4]; exact hp)
  have c := h.2.2.2 35 p (by rw [g5]; exact hp)
  have ka := h.1.2 33 p (by rw [g3]; exact hp)
  have kb := h.1.2 34 p (by rw [g4]; exact hp)
  have kc := h.1.2 35 p (by rw [g5]; exact hp)
  exact ⟨q8, ⟨q10, ka.1, ka.2.2.1 (by decide)⟩, ⟨q11, kb.1, kb.2.2.1 (by decide)⟩, ⟨q12, kc.1, kc.2.2.1 (by decide)⟩, fun k hk e => ⟨a k hk e, b k hk e, c k hk e⟩⟩
theorem pl_st {A : AS} {N : Nat → Nat} {p k : Nat} (hk : k < N 47) (e : aP A 1400 k = nI p) : pl_ A k < st_ A N p := by
  unfold pl_ st_
  rw [e]
  exact cn_lt9 (q := fun q => decide (aP A 1400 q = nI p)) hk (by simpa using e)
theorem pl_ex {A : AS} {N : Nat → Nat} {p j : Nat} (h : j < st_ A N p) : ∃ k, k < N 47 ∧ aP A 1400 k = nI p ∧ pl_ A k = j := by
  obtain ⟨k, h1, h2, h3⟩ := cn_ex h
  have h2 : aP A 1400 k = nI p := by simpa using h2
  refine ⟨k, h1, h2, ?_⟩
  unfold pl_
  rw [h2]
  exact h3
theorem k_textAt (h : rc_ ka TX σ x G A N) (hH : pvH A N) {p : Nat} (hp : p < N 5) (b : Int32) : f_X11_textAt σ (some (ga_ G 31 p)) b = some ((pf9_ A N p b).map (ga_ G 37), σ) := by
  have hst := (hH p hp).2.2.2
  obtain ⟨s1, ⟨s2, s3, s4⟩, -, -, s5⟩ := k_story h hp
  obtain ⟨pk, -⟩ := k_per h hp
  unfold f_X11_textAt f_X11_textAt_b18 f_X11_textAt_b28
  rw [oc_s, gt_t pk, lt_e, s1, k_within, bd_s]
  cases hf : pf9_ A N p b with
  | some k =>
    obtain ⟨f1, f2, f3⟩ := pf9_some hf
    have e1 := (k_text h f1).2.1
    have lt := pl_st f1 f2
    rw [e1] at f3
    subst f3
    have rg : (0 : Int32) ≤ nI (pl_ A k) ∧ nI (pl_ A k) ≤ nI (st_ A N p) - 1 := rg_in lt (by omega)
    rw [bi_t rg, if_neg (by decide), lt_e, s2, nn_s, gt_t s3, nI_clamp (by omega), s4, gt_t (ix9_ (k := pl_ A k) (M := 14) (by omega) (by omega)), lt_e, (s5 k f1 f2).1]
    rfl
  | none =>
    have nrg : ¬ ((0 : Int32) ≤ b ∧ b ≤ nI (st_ A N p) - 1) := fun rg => by
      rcases rg_ b (n := st_ A N p) (by omega) with ⟨j, hj, e⟩ | ho
      · obtain ⟨k, k1, k2, k3⟩ := pl_ex hj
        have q := ff9_none hf k (Nat.zero_le _) (by omega)
        have e1 := (k_text h k1).2.1
        rw [k3, ← e] at e1
        rw [k2, e1] at q
        simp at q
      · exact rg_out (by omega) ho rg
    rw [bi_f nrg, if_pos rfl]
    rfl
theorem k_textAt0 (b : Int32) : f_X11_textAt σ none b = some (none, σ) := rfl
/-- A PARAGRAPH IS PRINTED (the printer is filled) -/
theorem k_prn {τ : TH} (h : rc_ ka TXp_ τ x G A N) {p k : Nat} (hk : kf_ τ x G A N p) (hkN : k < N 47) (hK : KN_ (EP_ A N p) false (fun c => fi_ τ c (ga_ G 14 0)) (ai_ τ (ga_ G 15 0))) (keep : Bool) (v : Int32) (hv : v = bb9_ keep) : ∃ r F' X', f_X4_run τ (ga_ G 14 0) (some (ga_ G 38 k)) v = some (r, kp_ τ G F' X' (ai_ τ (ga_ G 15 0))) ∧ PU_ keep (ai_ τ (ga_ G 16 0)) (ot9_ A N p k) F' X' ∧ ∀ d, d < 505 → F' d = fi_ τ d (ga_ G 14 0) := by
  obtain ⟨hp, hN, hT, hH, hb, hm, h15⟩ := hk
  obtain ⟨t1, t2, t3, t4, t5, t6, t7⟩ := k_text h hkN
  obtain ⟨hn, S, S1, S2, S3, S4, S5⟩ := tx_P t7
  obtain ⟨X, X1, X2⟩ := S5 (EP_ A N p)
  have eB := eB_P hT hH hp hb h15
  obtain ⟨le, re, F', X', r1, r2, r3⟩ := k_run (E := EP_ A N p) (r := false) (S := S) (Z := ga_ G 38 k) (k_hP h) ⟨t6, S1, by omega⟩ (fun i hi => S3 i (by omega)) (fun s hs => ⟨S4 s hs, fun _ => eB, fun q => by cases q⟩) hK v hv
  have hf : x = x := rfl
  have l9 : S.length ≤ fu_ := Nat.le_of_lt (Nat.lt_of_le_of_lt (show S.length ≤ 1000 by omega) (by decide))
  have q := qr_P X1 (f := fu_) (by rw [X2]; exact l9) le re
  rw [X2] at q
  have eo : ot9_ A N p k = X.2.2.2 := by
    unfold ot9_
    rw [X1]
  rw [q, ← eo] at r2
  exact ⟨_, F', X', r1, r2, r3⟩
end KT9
theorem bn9_s {α β : Type} {r : β} {τ : TH} {k : β → TH → Option α} : bn_ (some (.inl r, τ)) k = k r τ := rfl
theorem bc9_l {α β : Type} {r : β} {τ : TH} {k : β → TH → Option α} {h : Nat → TH → Option α} : bc_ (some (.inl r, τ)) k h = k r τ := rfl
theorem bc9_r {α β : Type} {q : Nat} {τ : TH} {k : β → TH → Option α} {h : Nat → TH → Option α} : bc_ (some (.inr q, τ)) k h = h q τ := rfl
section MT9
variable {σ τ : TH} {y : Nat} {G : GH} {A : AS} {N : Nat → Nat}
theorem m_at (h : mr_ σ y G A N) {p : Nat} (b : Int32) : f_X15_at σ y (nI p) b = some ((pf9_ A N p b).map (ga_ G 100), σ) := by
  have hy := mo_y h.1
  obtain ⟨e47, hN⟩ := mo_n h.1 (j := 47) (cj := 1647) (m := 150) (by decide)
  obtain ⟨a48, b48, c48⟩ := mo_a h.1 (j := 48) (cj := 1648) (K := 27) (n := 150) (by decide)
  have key : ∀ (m i f : Nat), i + m = N 47 → m < f → f_X15_at_b2 f σ y (nI p) b (nI i) = some ((ff9_ (fun k => decide (aP A 1400 k = nI p) && decide (aP A 1401 k = b)) m i).map (ga_ G 100), σ) := by
    intro m
    induction m with
    | zero =>
      intro i f hi hf
      obtain ⟨g, rfl⟩ : ∃ g, f = g + 1 := ⟨f - 1, by omega⟩
      rw [f_X15_at_b2, gt_t hy, lt_e, e47, if_pos (nI_le (by omega) (by omega))]
      rfl
    | succ m ih =>
      intro i f hi hf
      obtain ⟨g, rfl⟩ : ∃ g, f = g + 1 := ⟨f - 1, by omega⟩
      obtain ⟨p1, p2, p3, p4, p5, p6, p7⟩ := mr_P h (k := i) (by omega)
      have q0 := p1 1400 (by decide)
      have q1 := p1 1401 (by decide)
      have st := ih (i + 1) g (by omega) (by omega)
      unfold ff9_
      rw [f_X15_at_b2, gt_t hy, lt_e, e47, if_neg (nI_ge (by omega) (by omega)), lt_e, a48, nn_s, gt_t b48, nI_clamp (by omega), c48, gt_t (ix9_ (k := i) (M := 150) (by omega) (by omega)), lt_e, p6, nn_s, gt_t p4, lt_e, q0]
      by_cases z1 : aP A 1400 i = nI p
      · rw [if_pos z1, lt_e, nn_s, gt_t b48, c48, gt_t (ix9_ (k := i) (M := 150) (by omega) (by omega)), lt_e, p6, nn_s, gt_t p4, lt_e, q1]
        by_cases z2 : aP A 1401 i = b
        · rw [if_pos z2, lt_e, nn_s, gt_t b48, c48, gt_t (ix9_ (k := i) (M := 150) (by omega) (by omega)), lt_e, p6, if_pos (by simp [z1, z2])]
          rfl
        · rw [if_neg z2, if_neg (by simp [z2])]
          unfold f_X15_at_b43
          rw [lt_e, nI_1]
          exact st
      · rw [if_neg z1, if_neg (by simp [z1])]
        unfold f_X15_at_b43
        rw [lt_e, nI_1]
        exact st
  exact key (N 47) 0 fu_ (Nat.zero_add _) (Nat.lt_of_le_of_lt hN (by decide))
/-- the reference prints it: the list stands in its scratch -/
theorem m_lengthOf (hf : wf_ σ) (h : mr_ σ y G A N) (hT : pvT A N) (hH : pvH A N) (hR : pvR A N) {p k : Nat} (hp : p < N 5) (hk : k < N 47) (e : aP A 1400 k = nI p) (h15 : aV A 15 p = bi_ (0 ≤ aV A 12 p)) {len : Nat} {arr : Nat → Int32} (hX : TXp_ 0 (aL A k) (aB A k) len arr) : ∃ τ', f_X15_lengthOf σ y (some (ga_ G 100 k)) = some (nI (ot9_ A N p k).length, τ') ∧ mr_ τ' y G A N ∧ fq_ (rU_ y G) σ τ' ∧ (nx_ τ' = nx_ σ ∧ sl_ τ' = sl_ σ) ∧ (∀ j, j ∈ DS → fi_ τ' (1600 + j) y = fi_ σ (1600 + j) y) ∧ (ot9_ A N p k).length ≤ 880 ∧ (∀ i, i < (ot9_ A N p k).length → ai_ τ' (ga_ G 27 0) i = by9_ ((ot9_ A N p k).getD i 0)) := by
  have hy := mo_y h.1
  have hN5 := (mo_n h.1 (j := 5) (cj := 1605) (m := 30) (by decide)).2
  have hN6 := (mo_n h.1 (j := 6) (cj := 1606) (m := 5257439) (by decide)).2
  obtain ⟨p1, p2, p3, p4, p5, p6, p7⟩ := mr_P h hk
  obtain ⟨hn, S, S1, S2, S3, S4, S5⟩ := tx_P hX
  obtain ⟨X, X1, X2⟩ := S5 (EP_ A N p)
  have hb : tbx_ σ G (ga_ G 101 k) (aL A k) (w9_ (aL A k) (aB A k)) := by
    have hw := w9_wn (B := aB A k) hn
    refine ⟨⟨p5, by rw [p3]; exact Nat.le_refl _, ?_⟩, fun j hj => ⟨?_, hw.2.1 j hj⟩, hw.1, hn⟩
    · have g1 : 0 < gc_ G 27 := by rw [(h.1.2.2.1 27 (by decide)).1]; decide
      exact sh_ne h.1.1 (by rw [h.1.2.1.2.2.1.2.1]; exact hk) g1 (Or.inl (by decide))
    · rw [p2]
      show _ = nI (if j < aL A k then _ else _)
      rw [if_pos hj]
      exact (and255 _).1
  have eB := eB_P hT hH hp hN6 h15
  have g := m_goes (E := EP_ A N p) (p := p) hf h hb (ve_P hT hR (by omega)) eB true
  rw [X1] at g
  obtain ⟨u, τ', g1, g2⟩ := g
  obtain ⟨r1, r2, r3, r4, r5⟩ := g2
  have eo : ot9_ A N p k = X.2.2.2 := by
    unfold ot9_
    rw [X1]
  have el : lq9_ true [] X.2.2.2 = ot9_ A N p k := by rw [eo]; rfl
  rw [el] at r4 r5
  refine ⟨τ', ?_, r1.1, r1.2.1, r1.2.2.1, r1.2.2.2.2.2.2, by have := r3.2.1; have := r2.1; omega, r5⟩
  have lz : Int32.ofNat (ln_ σ (ga_ G 101 k)) = nI (aL A k) := by rw [p3]; rfl
  have g1 : f_X15_goes σ y (some (ga_ G 101 k)) (nI (aL A k)) (nI p) 1 = some (.inl u, τ') := g1
  unfold f_X15_lengthOf
  rw [nn_s, gt_t p4, lt_e, p7, lt_e, nn_s, gt_t p5, lt_e, lz, lt_e, p1 1400 (by decide), e, gt_t hy, g1, bn9_s, lt_e, r4.1]
end MT9
