/-! CALLS: the reference scans all sets. Written by wip/b/mk99zs.py. -/
def lo9_ (a b : Nat) : Bool := (List.range (a + 1)).any (fun k => a.testBit k && !b.testBit k && (List.range k).all (fun j => a.testBit j == b.testBit j))
theorem lo9_iff {a b : Nat} : lo9_ a b = true ↔ lo_ a b := by
  unfold lo9_
  rw [List.any_eq_true]
  constructor
  · rintro ⟨k, -, h⟩
    obtain ⟨h1, h2⟩ := Bool.and_eq_true _ _ ▸ h
    obtain ⟨h3, h4⟩ := Bool.and_eq_true _ _ ▸ h1
    refine ⟨k, h3, by rw [Bool.not_eq_true'] at h4; exact h4, fun j hj => ?_⟩
    exact eq_of_beq (List.all_eq_true.mp h2 j (List.mem_range.mpr hj))
  · rintro ⟨k, h1, h2, h3⟩
    refine ⟨k, List.mem_range.mpr ?_, ?_⟩
    · exact Classical.byContradiction (fun q => by
        have e := Nat.testBit_lt_two_pow (x := a) (i := k) (Nat.lt_of_lt_of_le (Nat.lt_two_pow_self (n := a)) (Nat.pow_le_pow_right (by decide) (by omega)))
        rw [e] at h1
        cases h1)
    · rw [h1, h2]
      exact List.all_eq_true.mpr (fun j hj => by rw [h3 j (List.mem_range.mp hj)]; exact beq_self_eq_true _)
/-- the better one -/
def f9_ (lim : Int) (b t : CH) : CH := if t.2.2 ≤ lim ∧ (b.2.1 < t.2.1 ∨ (t.2.1 = b.2.1 ∧ (t.2.2 < b.2.2 ∨ (t.2.2 = b.2.2 ∧ lo9_ t.1 b.1 = true)))) then t else b
theorem f9_hf (lim : Int) (b t : CH) : f9_ lim b t = t ∧ t.2.2 ≤ lim ∧ bt_ t b ∨ f9_ lim b t = b ∧ ¬ (t.2.2 ≤ lim ∧ bt_ t b) := by
  unfold f9_ bt_
  by_cases h : t.2.2 ≤ lim ∧ (b.2.1 < t.2.1 ∨ (t.2.1 = b.2.1 ∧ (t.2.2 < b.2.2 ∨ (t.2.2 = b.2.2 ∧ lo9_ t.1 b.1 = true))))
  · rw [if_pos h]
    rw [lo9_iff] at h
    exact Or.inl ⟨rfl, h.1, h.2⟩
  · rw [if_neg h]
    rw [lo9_iff] at h
    exact Or.inr ⟨rfl, h⟩
def fe9_ (ln : Nat → Int) (op : Nat → Bool) (u : Nat) : Nat → Bool
  | 0 => true
  | n + 1 => fe9_ ln op u n && (!u.testBit n || (op n && (decide (ln n = -1) || u.testBit (ln n).toNat)))
theorem fe9_iff {ln : Nat → Int} {op : Nat → Bool} {u : Nat} : ∀ {n : Nat}, fe9_ ln op u n = true ↔ fe_ ln op u n
  | 0 => ⟨fun _ i hi => absurd hi (Nat.not_lt_zero i), fun _ => rfl⟩
  | n + 1 => by
    have ih := fe9_iff (ln := ln) (op := op) (u := u) (n := n)
    show (fe9_ ln op u n && (!u.testBit n || (op n && (decide (ln n = -1) || u.testBit (ln n).toNat)))) = true ↔ _
    rw [Bool.and_eq_true, ih]
    constructor
    · rintro ⟨h1, h2⟩ i hi hb
      by_cases e : i = n
      · subst e
        rw [hb] at h2
        simpa using h2
      · exact h1 i (by omega) hb
    · intro h
      refine ⟨fun i hi => h i (by omega), ?_⟩
      cases hb : u.testBit n
      · rfl
      · have := h n (Nat.lt_succ_self n) hb
        simpa using this
section SCN
variable {g c ln : Nat → Int} {op : Nat → Bool} {gap lim : Int} {n : Nat}
/-- the best of the sets below u -/
def bu9_ (g c ln : Nat → Int) (op : Nat → Bool) (gap lim : Int) (n : Nat) : Nat → CH
  | 0 => (0, 0, 0)
  | u + 1 => if (decide (0 < u) && fe9_ ln op u n) = true then f9_ lim (bu9_ g c ln op gap lim n u) (pa_ g c gap u n 0 (0, 0, 0)) else bu9_ g c ln op gap lim n u
def lu9_ (g c ln : Nat → Int) (op : Nat → Bool) (gap : Int) (n : Nat) : Nat → List CH
  | 0 => []
  | u + 1 => lu9_ g c ln op gap n u ++ (if (decide (0 < u) && fe9_ ln op u n) = true then [pa_ g c gap u n 0 (0, 0, 0)] else [])
theorem bu9_fold : ∀ u, bu9_ g c ln op gap lim n u = (lu9_ g c ln op gap n u).foldl (f9_ lim) (0, 0, 0)
  | 0 => rfl
  | u + 1 => by
    have ih := bu9_fold u
    show (if (decide (0 < u) && fe9_ ln op u n) = true then f9_ lim (bu9_ g c ln op gap lim n u) (pa_ g c gap u n 0 (0, 0, 0)) else bu9_ g c ln op gap lim n u) = (lu9_ g c ln op gap n u ++ (if (decide (0 < u) && fe9_ ln op u n) = true then [pa_ g c gap u n 0 (0, 0, 0)] else [])).foldl (f9_ lim) (0, 0, 0)
    rw [List.foldl_append, ← ih]
    by_cases z : (decide (0 < u) && fe9_ ln op u n) = true
    · rw [if_pos z, if_pos z]; rfl
    · rw [if_neg z, if_neg z]; rfl
theorem lu9_mem {t : CH} : ∀ m, t ∈ lu9_ g c ln op gap n m ↔ ∃ u, 0 < u ∧ u < m ∧ fe_ ln op u n ∧ t = pa_ g c gap u n 0 (0, 0, 0)
  | 0 => ⟨fun h => absurd h List.not_mem_nil, fun ⟨u, _, h, _⟩ => absurd h (Nat.not_lt_zero u)⟩
  | m + 1 => by
    have ih := lu9_mem (t := t) m
    show t ∈ lu9_ g c ln op gap n m ++ (if (decide (0 < m) && fe9_ ln op m n) = true then [pa_ g c gap m n 0 (0, 0, 0)] else []) ↔ _
    rw [List.mem_append, ih]
    constructor
    · rintro (⟨u, h1, h2, h3⟩ | h)
      · exact ⟨u, h1, by omega, h3⟩
      · by_cases z : (decide (0 < m) && fe9_ ln op m n) = true
        · rw [if_pos z] at h
          obtain ⟨z1, z2⟩ := Bool.and_eq_true _ _ ▸ z
          exact ⟨m, of_decide_eq_true z1, Nat.lt_succ_self m, fe9_iff.mp z2, List.mem_singleton.mp h⟩
        · rw [if_neg z] at h
          exact absurd h List.not_mem_nil
    · rintro ⟨u, h1, h2, h3, h4⟩
      by_cases e : u = m
      · subst e
        right
        rw [if_pos (by rw [decide_eq_true h1, fe9_iff.mpr h3]; rfl), h4]
        exact List.mem_singleton.mpr rfl
      · exact Or.inl ⟨u, h1, by omega, h3, h4⟩
/-- BOTH CHOOSE THE SAME -/
theorem scan_same (hg : ∀ j, 0 ≤ g j) (hc : ∀ j, 0 ≤ c j) (hp : 0 ≤ gap) (hl : 0 ≤ lim) (hln : ∀ i, ln i = -1 ∨ (0 ≤ ln i ∧ ln i < i)) : bu9_ g c ln op gap lim n (2 ^ n) = pk_ g c ln op gap lim n 0 (0, 0, 0) (0, -1, lim + 1) := by
  rw [bu9_fold]
  exact choice_same hg hc hp hl hln n (f9_ lim) (f9_hf lim) _ (fun t => lu9_mem (2 ^ n))
end SCN
/-- the best so far stands in the reference -/
def cbm8_ (σ : TH) (y : Nat) (t : CH) : TH := si_ (si_ (si_ σ 1653 y (nI t.1)) 1654 y (zI t.2.1)) 1655 y (zI t.2.2)
theorem cbm8_f {σ : TH} {a : Nat} {t : CH} {c : Nat} (h : c ≠ 1653 ∧ c ≠ 1654 ∧ c ≠ 1655) : fi_ (cbm8_ σ a t) c = fi_ σ c := by
  unfold cbm8_
  rw [fi_si, up2_c h.2.2, fi_si, up2_c h.2.1, fi_si, up2_c h.1]
theorem cbm8_3 {σ : TH} {a : Nat} {t : CH} : fi_ (cbm8_ σ a t) 1653 a = nI t.1 := by
  unfold cbm8_
  rw [fi_si, up2_c (by decide), fi_si, up2_c (by decide), fi_si, up2_s]
theorem cbm8_4 {σ : TH} {a : Nat} {t : CH} : fi_ (cbm8_ σ a t) 1654 a = zI t.2.1 := by
  unfold cbm8_
  rw [fi_si, up2_c (by decide), fi_si, up2_s]
theorem cbm8_5 {σ : TH} {a : Nat} {t : CH} : fi_ (cbm8_ σ a t) 1655 a = zI t.2.2 := by
  unfold cbm8_
  rw [fi_si, up2_s]
theorem cbm8_cm {σ : TH} {a : Nat} {s t : CH} : cbm8_ (cbm8_ σ a s) a t = cbm8_ σ a t := by
  have e : fi_ (cbm8_ (cbm8_ σ a s) a t) = fi_ (cbm8_ σ a t) := by
    funext c q
    by_cases hq : q = a
    · subst hq
      by_cases h8 : c = 1653
      · subst h8; rw [cbm8_3, cbm8_3]
      by_cases h9 : c = 1654
      · subst h9; rw [cbm8_4, cbm8_4]
      by_cases h10 : c = 1655
      · subst h10; rw [cbm8_5, cbm8_5]
      rw [cbm8_f ⟨h8, h9, h10⟩, cbm8_f ⟨h8, h9, h10⟩, cbm8_f ⟨h8, h9, h10⟩]
    · unfold cbm8_
      simp only [fi_si]
      rw [up2_ne (fun z => hq z.2), up2_ne (fun z => hq z.2), up2_ne (fun z => hq z.2), up2_ne (fun z => hq z.2), up2_ne (fun z => hq z.2), up2_ne (fun z => hq z.2), up2_ne (fun z => hq z.2), up2_ne (fun z => hq z.2), up2_ne (fun z => hq z.2)]
  show (kd_ σ, ln_ σ, fi_ (cbm8_ (cbm8_ σ a s) a t), fr_ σ, fl_ σ, ai_ σ, ar_ σ, al_ σ, ow_ σ, nx_ σ, sl_ σ) = (kd_ σ, ln_ σ, fi_ (cbm8_ σ a t), fr_ σ, fl_ σ, ai_ σ, ar_ σ, al_ σ, ow_ σ, nx_ σ, sl_ σ)
  rw [e]
section MSC
variable {σ : TH} {y : Nat} {G : GH} {A : AS} {N : Nat → Nat} {g c ln : Nat → Int} {op : Nat → Bool} {lim : Int} {n : Nat}
/-- what the reference laid out -/
def mlo8_ (σ : TH) (G : GH) (g c ln : Nat → Int) (op : Nat → Bool) (lim : Int) (n : Nat) : Prop := n ≤ 14 ∧ (∀ i, i < n → ai_ σ (ga_ G 49 0) i = zI (c i) ∧ ai_ σ (ga_ G 50 0) i = zI (ln i) ∧ ai_ σ (ga_ G 51 0) i = zI (g i) ∧ ai_ σ (ga_ G 52 0) i = bi_ (op i = true)) ∧ (∀ i, 0 ≤ g i ∧ g i ≤ 100000000) ∧ (∀ i, 0 ≤ c i ∧ c i ≤ 10000000) ∧ (∀ i, ln i = -1 ∨ (0 ≤ ln i ∧ ln i < i)) ∧ (0 ≤ lim ∧ lim ≤ 10000000)
theorem m_scanIn (h : mr_ σ y G A N) (hl : mlo8_ σ G g c ln op lim n) (R : TH → Nat → Int32 → Int32 → Int32 → Option (Unit × TH)) {u : Nat} (hu : u < 2 ^ 14) {P : Int} (hP : 0 ≤ P ∧ P ≤ 14) (b : CH) : ∀ (m i f : Nat), i + m = n → m < f → f_X15_cuts_b139 R f (cbm8_ σ y b) y (zI lim) (nI n) (nI u) (zI (P + su9_ c u i)) (zI (su9_ g u i)) (bi_ (fe9_ ln op u i = true)) (nI i) = if fe9_ ln op u n = true then f_X15_cuts_b238 R (cbm8_ σ y b) y (zI lim) (nI n) (nI u) (zI (P + su9_ c u n)) (zI (su9_ g u n)) 1 else f_X15_cuts_b342 R (cbm8_ σ y b) y (zI lim) (nI n) (nI u) := by
  obtain ⟨hn, hv, hg, hc, hln, hlim⟩ := hl
  have hy : kd_ (cbm8_ σ y b) y = 17 := (mo_y h.1 : kd_ σ y = 17)
  obtain ⟨a49, b49, c49⟩ := mo_a h.1 (j := 49) (cj := 1649) (K := 20) (n := 14) (by decide)
  obtain ⟨a50, b50, c50⟩ := mo_a h.1 (j := 50) (cj := 1650) (K := 20) (n := 14) (by decide)
  obtain ⟨a51, b51, c51⟩ := mo_a h.1 (j := 51) (cj := 1651) (K := 20) (n := 14) (by decide)
  obtain ⟨a52, b52, c52⟩ := mo_a h.1 (j := 52) (cj := 1652) (K := 22) (n := 14) (by decide)
  have a49 : fr_ (cbm8_ σ y b) 1649 y = some (ga_ G 49 0) := a49
  have a50 : fr_ (cbm8_ σ y b) 1650 y = some (ga_ G 50 0) := a50
  have a51 : fr_ (cbm8_ σ y b) 1651 y = some (ga_ G 51 0) := a51
  have a52 : fr_ (cbm8_ σ y b) 1652 y = some (ga_ G 52 0) := a52
  have b49 : kd_ (cbm8_ σ y b) (ga_ G 49 0) = 20 := b49
  have b50 : kd_ (cbm8_ σ y b) (ga_ G 50 0) = 20 := b50
  have b51 : kd_ (cbm8_ σ y b) (ga_ G 51 0) = 20 := b51
  have b52 : kd_ (cbm8_ σ y b) (ga_ G 52 0) = 22 := b52
  have c49 : ln_ (cbm8_ σ y b) (ga_ G 49 0) = 14 := c49
  have c50 : ln_ (cbm8_ σ y b) (ga_ G 50 0) = 14 := c50
  have c51 : ln_ (cbm8_ σ y b) (ga_ G 51 0) = 14 := c51
  have c52 : ln_ (cbm8_ σ y b) (ga_ G 52 0) = 14 := c52
  have hv : ∀ i, i < n → ai_ (cbm8_ σ y b) (ga_ G 49 0) i = zI (c i) ∧ ai_ (cbm8_ σ y b) (ga_ G 50 0) i = zI (ln i) ∧ ai_ (cbm8_ σ y b) (ga_ G 51 0) i = zI (g i) ∧ ai_ (cbm8_ σ y b) (ga_ G 52 0) i = bi_ (op i = true) := hv
  generalize cbm8_ σ y b = τ at hy a49 a50 a51 a52 b49 b50 b51 b52 c49 c50 c51 c52 hv
  -- once gone, it stays gone
  have gone : ∀ (f i : Nat) (l6 l7 : Int32), f_X15_cuts_b139 R (f + 1) τ y (zI lim) (nI n) (nI u) l6 l7 0 (nI i) = f_X15_cuts_b342 R τ y (zI lim) (nI n) (nI u) := fun f i l6 l7 => by
    rw [f_X15_cuts_b139]
    unfold f_X15_cuts_b238
    by_cases z : nI n ≤ nI i
    · rw [if_pos z, if_pos rfl]
    · rw [if_neg z, if_pos rfl, if_pos rfl]
  have mono : ∀ i, i ≤ n → fe9_ ln op u n = true → fe9_ ln op u i = true := fun i hi q => by
    rw [fe9_iff] at q ⊢
    exact fun j hj => q j (by omega)
  intro m
  induction m with
  | zero =>
    intro i f hi hf
    obtain ⟨f, rfl⟩ : ∃ e, f = e + 1 := ⟨f - 1, by omega⟩
    have : i = n := by omega
    subst this
    rw [f_X15_cuts_b139, if_pos (nI_le (Nat.le_refl _) (by omega))]
    by_cases z : fe9_ ln op u i = true
    · rw [bi_t z, if_pos z]
    · rw [bi_f z, if_neg z]
      unfold f_X15_cuts_b238
      rw [if_pos rfl]
  | succ m ih =>
    intro i f hi hf
    obtain ⟨f, rfl⟩ : ∃ e, f = e + 1 := ⟨f - 1, by omega⟩
    by_cases fe : fe9_ ln op u i = true
    · have hin : i < n := by omega
      have ix := ix9_ (k := i) (M := 14) (by omega) (by omega)
      have cl : (nI i).toNatClampNeg = i := nI_clamp (by omega)
      obtain ⟨v49, v50, v51, v52⟩ := hv i hin
      have hb := bit_shr (nI u) (k := i) (by omega)
      rw [bt_nI (by omega)] at hb
      have nxt := ih (i + 1) f (by omega) (by omega)
      rw [f_X15_cuts_b139, if_neg (nI_ge hin (by omega)), bi_t fe, if_neg (by decide), hb]
      have e1 : su9_ c u (i + 1) = su9_ c u i + (if u.testBit i = true then c i else 0) := rfl
      have e2 : su9_ g u (i + 1) = su9_ g u i + (if u.testBit i = true then g i else 0) := rfl
      have e3 : fe9_ ln op u (i + 1) = (fe9_ ln op u i && (!u.testBit i || (op i && (decide (ln i = -1) || u.testBit (ln i).toNat)))) := rfl
      by_cases w : u.testBit i = true
      · rw [if_pos w] at e1 e2
        rw [fe, w, Bool.true_and, Bool.not_true, Bool.false_or] at e3
        have b206 : ∀ t0, f_X15_cuts_b206 (f_X15_cuts_b139 R f) τ y (zI lim) (nI n) (nI u) (zI (P + su9_ c u i)) (zI (su9_ g u i)) (nI i) t0 = f_X15_cuts_b139 R f τ y (zI lim) (nI n) (nI u) (zI (P + su9_ c u (i + 1))) (zI (su9_ g u (i + 1))) t0 (nI (i + 1)) := fun t0 => by
          unfold f_X15_cuts_b206 f_X15_cuts_b232
          rw [gt_t hy, lt_e, a49, nn_s, gt_t b49, cl, c49, gt_t ix, lt_e, v49, lt_e, lt_e, a51, nn_s, gt_t b51, c51, gt_t ix, lt_e, v51, lt_e, lt_e, zI_add, zI_add, nI_1, e1, e2, Int.add_assoc]
        have y1 : fe9_ ln op u (i + 1) = true → f_X15_cuts_b201 (f_X15_cuts_b139 R f) τ y (zI lim) (nI n) (nI u) (zI (P + su9_ c u i)) (zI (su9_ g u i)) (nI i) = if fe9_ ln op u n = true then f_X15_cuts_b238 R τ y (zI lim) (nI n) (nI u) (zI (P + su9_ c u n)) (zI (su9_ g u n)) 1 else f_X15_cuts_b342 R τ y (zI lim) (nI n) (nI u) := fun q => by
          unfold f_X15_cuts_b201
          rw [b206]
          rw [bi_t q] at nxt
          exact nxt
        have y0 : ¬ fe9_ ln op u (i + 1) = true → f_X15_cuts_b205 (f_X15_cuts_b139 R f) τ y (zI lim) (nI n) (nI u) (zI (P + su9_ c u i)) (zI (su9_ g u i)) (nI i) = if fe9_ ln op u n = true then f_X15_cuts_b238 R τ y (zI lim) (nI n) (nI u) (zI (P + su9_ c u n)) (zI (su9_ g u n)) 1 else f_X15_cuts_b342 R τ y (zI lim) (nI n) (nI u) := fun q => by
          unfold f_X15_cuts_b205
          rw [b206]
          rw [bi_f q] at nxt
          exact nxt
        rw [bi_t w, if_neg (by decide), gt_t hy, lt_e, a52, nn_s, gt_t b52, cl, c52, gt_t ix, lt_e, v52]
        by_cases w1 : op i = true
        · rw [w1, Bool.true_and] at e3
          rw [bi_t w1, if_neg (by decide), lt_e, a50, nn_s, gt_t b50, c50, gt_t ix, lt_e, v50]
          rcases hln i with w2 | ⟨w2, w3⟩
          · rw [w2, if_pos zI_m1, y1 (by rw [e3, w2]; rfl)]
          · obtain ⟨j, hj⟩ : ∃ j : Nat, ln i = j := ⟨(ln i).toNat, by omega⟩
            rw [hj] at w3 e3
            have w4 : ¬ zI (j : Int) = -1 := fun q => by
              have := (zI_eq (a := (j : Int)) (b := -1) (by omega) (by omega) (by decide) (by decide)).mp (q.trans zI_m1.symm)
              omega
            have w5 : ¬ ((j : Int) = -1) := by omega
            have eb := bit_shr (nI u) (k := j) (by omega)
            rw [bt_nI (by omega)] at eb
            rw [decide_eq_false w5, Bool.false_or, Int.toNat_natCast] at e3
            rw [hj, if_neg w4, lt_e, nn_s, gt_t b50, c50, gt_t ix, lt_e, v50, hj, zI_nI, eb]
            by_cases w6 : u.testBit j = true
            · rw [bi_t w6, if_pos rfl, y1 (e3.trans w6)]
            · rw [bi_f w6, if_neg (by decide), y0 (by rw [e3]; exact w6)]
        · rw [bi_f w1, if_pos rfl, y0 (by rw [e3, Bool.eq_false_iff.mpr w1, Bool.false_and]; decide)]
      · rw [if_neg w, Int.add_zero] at e1 e2
        have w' : u.testBit i = false := Bool.eq_false_iff.mpr w
        rw [fe, w', Bool.not_false, Bool.true_or, Bool.and_true] at e3
        rw [bi_f w, if_pos rfl]
        unfold f_X15_cuts_b232
        rw [e1, e2, e3, bi_t rfl] at nxt
        rw [lt_e, nI_1]
        exact nxt
    · rw [bi_f fe, gone f i, if_neg (fun q => fe (mono i (by omega) q))]
end MSC
