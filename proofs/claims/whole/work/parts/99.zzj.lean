/-! A WEEK: the reference. Written by wip/b/mk99zzj.py. -/
theorem tr8_len {g : Nat → Nat} : ∀ (k : Nat) (l : List Nat), l.length = k + 12 → (tr8_ g k l).length = 12
  | 0, l, h => h
  | k + 1, l, h => by
    have h1 := (li9_p (g := g) l l.length (by omega)).1
    exact tr8_len k _ (by rw [List.length_eraseIdx, if_pos h1]; omega)
theorem top9_len {g : Nat → Nat} {l : List Nat} (hu : up8_ l) : (top9_ g l).length ≤ 12 := by
  by_cases z : l.length ≤ 12
  · rw [top9_all z]; exact z
  · rw [← tr8_top (l.length - 12) l hu (by omega), tr8_len (l.length - 12) l (by omega)]
    exact Nat.le_refl _
def wkR_ (A : AS) (N : Nat → Nat) (w : Int32) (p : Nat) : Bool := wkQ_ A N w p && decide (cn_ (fun r => bea9_ (wkG_ A N) r p && wkQ_ A N w r) (N 5) < 12)
section MWE
variable {σ : TH} {y : Nat} {G : GH} {A : AS} {N : Nat → Nat}
/-- what the reference asks of a story -/
theorem wkQ_f {w : Int32} {p : Nat} : wkQ_ A N w p = true ↔ aV A 11 p = w ∧ aV A 15 p = 0 ∧ ¬ bo_ (sl9_ A p (nI (td_ N))) 10 = 0 := by
  unfold wkQ_
  rw [← (wkS_e A N p).2.2]
  simp
/-- how many go before -/
theorem m_before (h : mr_ σ y G A N) (hH : pvH A N) (hN : N 5 ≤ 30) (h15 : ∀ p, p < N 5 → aV A 15 p = bi_ (0 ≤ aV A 12 p)) (R : TH → Nat → Int32 → Int32 → Option (Int32 × TH)) (w : Int32) {p : Nat} (hp : p < N 5) : f_X15_week_b73 R fu_ σ y w (nI p) 0 (nI 0) = if nI (cn_ (fun r => bea9_ (wkG_ A N) r p && wkQ_ A N w r) (N 5)) < (12 : Int32) then (lt_ (fr_ σ 1683 y) fun r49 => lt_ (fi_ σ 1685 y) fun x50 => nn_ r49 fun a51 => gt_ (kd_ σ a51 = 20) <| gt_ (¬ (x50 < 0 ∨ ln_ σ a51 ≤ x50.toNatClampNeg)) <| lt_ (sa_ σ a51 x50.toNatClampNeg (nI p)) fun s52 => lt_ (fi_ s52 1685 y) fun x53 => lt_ (si_ s52 1685 y (x53 + (1 : Int32))) fun s54 => f_X15_week_b196 R s54 y w (nI p)) else (f_X15_week_b196 R σ y w (nI p)) := by
  have hy := mo_y h.1
  obtain ⟨e5, -⟩ := mo_n h.1 (j := 5) (cj := 1605) (m := 30) (by decide)
  obtain ⟨a11, b11, c11⟩ := mo_a h.1 (j := 11) (cj := 1611) (K := 20) (n := 30) (by decide)
  obtain ⟨a15, b15, c15⟩ := mo_a h.1 (j := 15) (cj := 1615) (K := 22) (n := 30) (by decide)
  refine lp_ (F := fun f (a : Int32) k => f_X15_week_b73 R f σ y w (nI p) a k) (N 5) (fun i => nI (cn_ (fun r => bea9_ (wkG_ A N) r p && wkQ_ A N w r) i)) (fun f q hq => ?_) (fun f => ?_) (by omega)
  · show f_X15_week_b73 R (f + 1) σ y w (nI p) (nI (cn_ (fun r => bea9_ (wkG_ A N) r p && wkQ_ A N w r) q)) (nI q) = f_X15_week_b73 R f σ y w (nI p) (nI (cn_ (fun r => bea9_ (wkG_ A N) r p && wkQ_ A N w r) (q + 1))) (nI (q + 1))
    have v11 := mr_V h (j := 11) (by decide) q
    have v15 := mr_V h (j := 15) (by decide) q
    have ix := ix9_ (k := q) (M := 30) (by omega) (by omega)
    have cl : (nI q).toNatClampNeg = q := nI_clamp (by omega)
    have e : cn_ (fun r => bea9_ (wkG_ A N) r p && wkQ_ A N w r) (q + 1) = cn_ (fun r => bea9_ (wkG_ A N) r p && wkQ_ A N w r) q + (if (bea9_ (wkG_ A N) q p && wkQ_ A N w q) = true then 1 else 0) := rfl
    generalize cn_ (fun r => bea9_ (wkG_ A N) r p && wkQ_ A N w r) q = n at e ⊢
    rw [e]
    have b161 : ∀ a, f_X15_week_b161 (f_X15_week_b73 R f) σ y w (nI p) a (nI q) = f_X15_week_b73 R f σ y w (nI p) a (nI (q + 1)) := fun a => by
      unfold f_X15_week_b161
      rw [lt_e, nI_1]
    have b154 : f_X15_week_b154 (f_X15_week_b73 R f) σ y w (nI p) (nI q) (nI n) = f_X15_week_b73 R f σ y w (nI p) (nI (n + 1)) (nI (q + 1)) := by
      unfold f_X15_week_b154 f_X15_week_b159
      rw [lt_e, nI_1, b161]
    have b158 : f_X15_week_b158 (f_X15_week_b73 R f) σ y w (nI p) (nI q) (nI n) = f_X15_week_b73 R f σ y w (nI p) (nI n) (nI (q + 1)) := by
      unfold f_X15_week_b158 f_X15_week_b159
      rw [lt_e, b161, Int32.add_zero]
    have no : wkQ_ A N w q = false → f_X15_week_b161 (f_X15_week_b73 R f) σ y w (nI p) (nI n) (nI q) = f_X15_week_b73 R f σ y w (nI p) (nI (n + if (bea9_ (wkG_ A N) q p && wkQ_ A N w q) = true then 1 else 0)) (nI (q + 1)) := fun z => by
      rw [z, Bool.and_false, if_neg (by decide), Nat.add_zero, b161]
    rw [f_X15_week_b73, gt_t hy, lt_e, e5, if_neg (nI_ge hq (by omega)), lt_e, a11, nn_s, gt_t b11, cl, c11, gt_t ix, lt_e, v11]
    by_cases z1 : aV A 11 q = w
    · rw [if_pos z1, lt_e, a15, nn_s, gt_t b15, c15, gt_t ix, lt_e, v15]
      by_cases z2 : aV A 15 q = 0
      · rw [if_pos z2, m_today2 h, bd_s, m_staleOf h (by omega), bd_s]
        by_cases z3 : bo_ (sl9_ A q (nI (td_ N))) 10 = 0
        · rw [if_pos z3]
          exact no (eq_false_of_ne_true (fun z => (wkQ_f.mp z).2.2 z3))
        · have hQ : wkQ_ A N w q = true := wkQ_f.mpr ⟨z1, z2, z3⟩
          have gq := m_gainOf h hH hq hN (h15 q hq)
          have gp := m_gainOf h hH hp hN (h15 p hp)
          have bq := wkG_le hH hq
          have bp := wkG_le hH hp
          rw [if_neg z3, gq, bd_s, gp, bd_s, hQ, Bool.and_true]
          by_cases u1 : wkG_ A N p < wkG_ A N q
          · rw [if_pos (nI_lt u1 (by omega)), if_pos (bea9_iff.mpr (Or.inl u1)), b154]
          · rw [if_neg (nI_nlt (by omega) (by omega)), gq, bd_s, gp, bd_s]
            by_cases u2 : wkG_ A N q = wkG_ A N p
            · rw [if_pos (by rw [u2])]
              by_cases u3 : q < p
              · rw [if_neg (nI_ge u3 (by omega)), if_pos (bea9_iff.mpr (Or.inr ⟨u2, u3⟩)), b154]
              · rw [if_pos (nI_le (by omega) (by omega)), if_neg (fun z => by rcases bea9_iff.mp z with z | z <;> omega), Nat.add_zero, b158]
            · rw [if_neg (fun z => u2 ((nI_eq (by omega) (by omega)).mp z)), if_neg (fun z => by rcases bea9_iff.mp z with z | z <;> omega), Nat.add_zero, b158]
      · rw [if_neg z2]
        exact no (eq_false_of_ne_true (fun z => z2 (wkQ_f.mp z).2.1))
    · rw [if_neg z1]
      exact no (eq_false_of_ne_true (fun z => z1 (wkQ_f.mp z).1))
  · rw [f_X15_week_b73, gt_t hy, lt_e, e5, if_pos (Int32.le_refl _)]
/-- noted so far -/
def ri8_ (y : Nat) (G : GH) (A : AS) (N : Nat → Nat) (l : List Nat) (σ τ : TH) : Prop := mr_ τ y G A N ∧ fi_ τ 1685 y = nI l.length ∧ (∀ j, j < l.length → ai_ τ (ga_ G 83 0) j = nI (l.getD j 0)) ∧ fq_ (fun _ => True) σ τ ∧ (nx_ τ = nx_ σ ∧ sl_ τ = sl_ σ) ∧ ∀ j, j ∈ DS → fi_ τ (1600 + j) y = fi_ σ (1600 + j) y
theorem m_note1 (hH : pvH A N) (hN : N 5 ≤ 30) (h15 : ∀ p, p < N 5 → aV A 15 p = bi_ (0 ≤ aV A 12 p)) (w : Int32) {p : Nat} {τ : TH} (hp : p < N 5) (hI : ri8_ y G A N (fl9_ (wkR_ A N w) p) σ τ) (f : Nat) : ∃ τ2, f_X15_week_b26 (f + 1) τ y w (nI p) = f_X15_week_b26 f τ2 y w (nI (p + 1)) ∧ ri8_ y G A N (fl9_ (wkR_ A N w) (p + 1)) σ τ2 := by
  obtain ⟨h, h85, hv, hf, hn, hd⟩ := id hI
  have hy := mo_y h.1
  have hli : (fl9_ (wkR_ A N w) p).length ≤ p := by
    rw [fl9_len]
    exact cn_le _ _
  obtain ⟨e5, -⟩ := mo_n h.1 (j := 5) (cj := 1605) (m := 30) (by decide)
  obtain ⟨a11, b11, c11⟩ := mo_a h.1 (j := 11) (cj := 1611) (K := 20) (n := 30) (by decide)
  obtain ⟨a15, b15, c15⟩ := mo_a h.1 (j := 15) (cj := 1615) (K := 22) (n := 30) (by decide)
  obtain ⟨a83, b83, c83⟩ := mo_a h.1 (j := 83) (cj := 1683) (K := 20) (n := 30) (by decide)
  have v11 := mr_V h (j := 11) (by decide) p
  have v15 := mr_V h (j := 15) (by decide) p
  have ix := ix9_ (k := p) (M := 30) (by omega) (by omega)
  have cl : (nI p).toNatClampNeg = p := nI_clamp (by omega)
  have b196 : ∀ τ : TH, f_X15_week_b196 (f_X15_week_b26 f) τ y w (nI p) = f_X15_week_b26 f τ y w (nI (p + 1)) := fun τ => by
    unfold f_X15_week_b196
    rw [lt_e, nI_1]
  have no : wkR_ A N w p = false → ri8_ y G A N (fl9_ (wkR_ A N w) (p + 1)) σ τ := fun z => by
    have e : fl9_ (wkR_ A N w) (p + 1) = fl9_ (wkR_ A N w) p := by
      show fl9_ (wkR_ A N w) p ++ (if wkR_ A N w p = true then [p] else []) = _
      rw [z, if_neg (by decide), List.append_nil]
    rw [e]
    exact hI
  have noQ : wkQ_ A N w p = false → wkR_ A N w p = false := fun z => by
    unfold wkR_
    rw [z, Bool.false_and]
  rw [f_X15_week_b26, gt_t hy, lt_e, e5, if_neg (nI_ge hp (by omega)), lt_e, a11, nn_s, gt_t b11, cl, c11, gt_t ix, lt_e, v11]
  by_cases z1 : aV A 11 p = w
  · rw [if_pos z1, lt_e, a15, nn_s, gt_t b15, c15, gt_t ix, lt_e, v15]
    by_cases z2 : aV A 15 p = 0
    · rw [if_pos z2, m_today2 h, bd_s, m_staleOf h (by omega), bd_s]
      by_cases z3 : bo_ (sl9_ A p (nI (td_ N))) 10 = 0
      · rw [if_pos z3, b196]
        exact ⟨τ, rfl, no (noQ (eq_false_of_ne_true (fun z => (wkQ_f.mp z).2.2 z3)))⟩
      · have hQ : wkQ_ A N w p = true := wkQ_f.mpr ⟨z1, z2, z3⟩
        have hbf := m_before h hH hN h15 (f_X15_week_b26 f) w hp
        have hbf : f_X15_week_b73 (f_X15_week_b26 f) fu_ τ y w (nI p) 0 0 = _ := hbf
        have hc := cn_le (fun r => bea9_ (wkG_ A N) r p && wkQ_ A N w r) (N 5)
        rw [if_neg z3, hbf]
        by_cases z4 : cn_ (fun r => bea9_ (wkG_ A N) r p && wkQ_ A N w r) (N 5) < 12
        · have hR : wkR_ A N w p = true := by
            unfold wkR_
            rw [hQ, decide_eq_true z4]
            rfl
          have e : fl9_ (wkR_ A N w) (p + 1) = fl9_ (wkR_ A N w) p ++ [p] := by
            show fl9_ (wkR_ A N w) p ++ (if wkR_ A N w p = true then [p] else []) = _
            rw [if_pos hR]
          have ixl := ix9_ (k := (fl9_ (wkR_ A N w) p).length) (M := 30) (by omega) (by omega)
          have cll : (nI (fl9_ (wkR_ A N w) p).length).toNatClampNeg = (fl9_ (wkR_ A N w) p).length := nI_clamp (by omega)
          rw [if_pos (show nI (cn_ (fun r => bea9_ (wkG_ A N) r p && wkQ_ A N w r) (N 5)) < 12 from nI_c (k := 12) rfl z4 (by decide)), lt_e, a83, lt_e, h85, nn_s, gt_t b83, cll, c83, gt_t ixl, lt_e, lt_e, show fi_ (sa_ τ (ga_ G 83 0) (fl9_ (wkR_ A N w) p).length (nI p)) 1685 y = nI (fl9_ (wkR_ A N w) p).length from h85, lt_e, nI_1, b196, e]
          have r1 := mr_sx h (j := 83) (by decide) (fl9_ (wkR_ A N w) p).length (nI p)
          have r2 := mr_si r1 (j := 85) (c := 1685) (by decide) (nI ((fl9_ (wkR_ A N w) p).length + 1))
          have hlen : (fl9_ (wkR_ A N w) p ++ [p]).length = (fl9_ (wkR_ A N w) p).length + 1 := by rw [List.length_append]; rfl
          refine ⟨_, rfl, r2, ?_, fun j hj => ?_, fqi (fqa hf trivial) trivial, hn, fun j hj => ?_⟩
          · rw [hlen, fi_si, up2_s]
          · rw [hlen] at hj
            show up2_ (ai_ τ) (ga_ G 83 0) (fl9_ (wkR_ A N w) p).length (nI p) (ga_ G 83 0) j = _
            by_cases zj : j = (fl9_ (wkR_ A N w) p).length
            · rw [zj, up2_s, gd_r (Nat.le_refl _), Nat.sub_self]
              rfl
            · rw [up2_n zj, gd_l (by omega)]
              exact hv j (by omega)
          · have hj0 : ∀ j, j ∈ DS → j ≠ 85 := by decide
            have h0 := hj0 j hj
            rw [fi_si, up2_c (by omega)]
            exact hd j hj
        · rw [if_neg (show ¬ nI (cn_ (fun r => bea9_ (wkG_ A N) r p && wkQ_ A N w r) (N 5)) < 12 from nI_nlt (b := 12) (by omega) (by omega)), b196]
          refine ⟨τ, rfl, no ?_⟩
          unfold wkR_
          rw [decide_eq_false z4, Bool.and_false]
    · rw [if_neg z2, b196]
      exact ⟨τ, rfl, no (noQ (eq_false_of_ne_true (fun z => z2 (wkQ_f.mp z).2.1)))⟩
  · rw [if_neg z1, b196]
    exact ⟨τ, rfl, no (noQ (eq_false_of_ne_true (fun z => z1 (wkQ_f.mp z).1)))⟩
/-- one set is weighed -/
theorem m_weigh {L : List Nat} {τ : TH} {H w : Nat} (h : mr_ τ y G A N) (hH : pvH A N) (hN : N 5 ≤ 30) (hN4 : N 4 ≤ 6) (h15 : ∀ p, p < N 5 → aV A 15 p = bi_ (0 ≤ aV A 12 p)) (hL : L.length ≤ 12) (hm : ∀ p, p ∈ L → p < N 5) (h85 : fi_ τ 1685 y = nI L.length) (hv : ∀ j, j < L.length → ai_ τ (ga_ G 83 0) j = nI (L.getD j 0)) (hw : w < N 4) (hh : aV A 7 w = nI H) (hH6 : H ≤ 60) (R : TH → Nat → Int32 → Int32 → Int32 → Int32 → Int32 → Option (Int32 × TH)) {u : Nat} (hu : u < 2 ^ L.length) {b : CH} (hb : be9_ b) (ht : be9_ (pa_ (wkg_ A N L) (wkh_ A N L) 0 u L.length 0 (0, 0, 0))) : f_X15_week_b232 R fu_ τ y (nI w) (nI b.1) (zI b.2.1) (zI b.2.2) (nI u) 0 0 (nI 0) = R τ y (nI w) (nI (f9_ (H : Int) b (pa_ (wkg_ A N L) (wkh_ A N L) 0 u L.length 0 (0, 0, 0))).1) (zI (f9_ (H : Int) b (pa_ (wkg_ A N L) (wkh_ A N L) 0 u L.length 0 (0, 0, 0))).2.1) (zI (f9_ (H : Int) b (pa_ (wkg_ A N L) (wkh_ A N L) 0 u L.length 0 (0, 0, 0))).2.2) (nI (u + 1)) := by
  have hy := mo_y h.1
  obtain ⟨a83, b83, c83⟩ := mo_a h.1 (j := 83) (cj := 1683) (K := 20) (n := 30) (by decide)
  obtain ⟨a7, b7, c7⟩ := mo_a h.1 (j := 7) (cj := 1607) (K := 20) (n := 6) (by decide)
  have v7 := mr_V h (j := 7) (by decide) w
  have ixw := ix9_ (k := w) (M := 6) (by omega) (by omega)
  have clw : (nI w).toNatClampNeg = w := nI_clamp (by omega)
  have b362 : ∀ l2 l3 l4, f_X15_week_b362 R τ y (nI w) l2 l3 l4 (nI u) = R τ y (nI w) l2 l3 l4 (nI (u + 1)) := fun l2 l3 l4 => by
    unfold f_X15_week_b362
    rw [lt_e, nI_1]
  obtain ⟨-, s1, s2⟩ := pa_sum (g := wkg_ A N L) (c := wkh_ A N L) (gap := 0) u L.length
  have s3 := pa_1 (g := wkg_ A N L) (c := wkh_ A N L) (gap := 0) hu
  rw [Int.zero_mul, Int.add_zero] at s2
  generalize pa_ (wkg_ A N L) (wkh_ A N L) 0 u L.length 0 (0, 0, 0) = t at ht s1 s2 s3 ⊢
  obtain ⟨b1, b2, b3, b4⟩ := hb
  obtain ⟨t1, t2, t3, t4⟩ := ht
  have low := low9_ (u := u) (b := b.1) (Nat.lt_of_lt_of_le hu (Nat.le_trans (Nat.pow_le_pow_right (by decide) (show L.length ≤ 12 from hL)) (by decide)))
  rw [← s3] at low
  have b331 : ∀ t0 : Int32, f_X15_week_b331 R τ y (nI w) (nI b.1) (zI b.2.1) (zI b.2.2) (nI u) (zI t.2.1) (zI t.2.2) t0 = if (H : Int) < t.2.2 then R τ y (nI w) (nI b.1) (zI b.2.1) (zI b.2.2) (nI (u + 1)) else if t0 = 0 then R τ y (nI w) (nI b.1) (zI b.2.1) (zI b.2.2) (nI (u + 1)) else R τ y (nI w) (nI t.1) (zI t.2.1) (zI t.2.2) (nI (u + 1)) := fun t0 => by
    unfold f_X15_week_b331
    rw [gt_t hy, lt_e, a7, nn_s, gt_t b7, clw, c7, gt_t ixw, lt_e, v7, hh, ← zI_nI H, b362, b362, s3]
    by_cases z : (H : Int) < t.2.2
    · rw [if_pos ((zI_lt (by omega) (by omega) (by omega) (by omega)).mpr z), if_pos z]
    · rw [if_neg (fun q => z ((zI_lt (by omega) (by omega) (by omega) (by omega)).mp q)), if_neg z]
  have yes : t.2.2 ≤ (H : Int) ∧ (b.2.1 < t.2.1 ∨ (t.2.1 = b.2.1 ∧ (t.2.2 < b.2.2 ∨ (t.2.2 = b.2.2 ∧ lo9_ t.1 b.1 = true)))) → f9_ (H : Int) b t = t := fun q => if_pos q
  have no : ¬ (t.2.2 ≤ (H : Int) ∧ (b.2.1 < t.2.1 ∨ (t.2.1 = b.2.1 ∧ (t.2.2 < b.2.2 ∨ (t.2.2 = b.2.2 ∧ lo9_ t.1 b.1 = true))))) → f9_ (H : Int) b t = b := fun q => if_neg q
  have up : (b.2.1 < t.2.1 ∨ (t.2.1 = b.2.1 ∧ (t.2.2 < b.2.2 ∨ (t.2.2 = b.2.2 ∧ lo9_ t.1 b.1 = true)))) → f_X15_week_b326 R τ y (nI w) (nI b.1) (zI b.2.1) (zI b.2.2) (nI u) (zI t.2.1) (zI t.2.2) = R τ y (nI w) (nI (f9_ (H : Int) b t).1) (zI (f9_ (H : Int) b t).2.1) (zI (f9_ (H : Int) b t).2.2) (nI (u + 1)) := fun q => by
    unfold f_X15_week_b326
    rw [b331]
    by_cases z : (H : Int) < t.2.2
    · rw [if_pos z, no (fun k => by omega)]
    · rw [if_neg z, if_neg (by decide), yes ⟨by omega, q⟩]
  have dn : ¬ (b.2.1 < t.2.1 ∨ (t.2.1 = b.2.1 ∧ (t.2.2 < b.2.2 ∨ (t.2.2 = b.2.2 ∧ lo9_ t.1 b.1 = true)))) → f_X15_week_b330 R τ y (nI w) (nI b.1) (zI b.2.1) (zI b.2.2) (nI u) (zI t.2.1) (zI t.2.2) = R τ y (nI w) (nI (f9_ (H : Int) b t).1) (zI (f9_ (H : Int) b t).2.1) (zI (f9_ (H : Int) b t).2.2) (nI (u + 1)) := fun q => by
    unfold f_X15_week_b330
    rw [b331, no (fun k => q k.2)]
    by_cases z : (H : Int) < t.2.2
    · rw [if_pos z]
    · rw [if_neg z, if_pos rfl]
  have key : ∀ (m i f : Nat), i + m = L.length → m < f → f_X15_week_b232 R f τ y (nI w) (nI b.1) (zI b.2.1) (zI b.2.2) (nI u) (zI (su9_ (wkg_ A N L) u i)) (zI (su9_ (wkh_ A N L) u i)) (nI i) = R τ y (nI w) (nI (f9_ (H : Int) b t).1) (zI (f9_ (H : Int) b t).2.1) (zI (f9_ (H : Int) b t).2.2) (nI (u + 1)) := by
    intro m
    induction m with
    | zero =>
      intro i f him hf
      obtain ⟨f, rfl⟩ : ∃ e, f = e + 1 := ⟨f - 1, by omega⟩
      have : i = L.length := by omega
      subst this
      rw [f_X15_week_b232, gt_t hy, lt_e, h85, if_pos (Int32.le_refl _), lt_e, ← s1, ← s2]
      by_cases z3 : b.2.1 < t.2.1
      · rw [if_pos ((zI_lt (by omega) (by omega) (by omega) (by omega)).mpr z3)]
        exact up (Or.inl z3)
      rw [if_neg (fun q => z3 ((zI_lt (by omega) (by omega) (by omega) (by omega)).mp q))]
      by_cases z2 : t.2.1 = b.2.1
      · rw [if_pos (by rw [z2])]
        by_cases z4 : t.2.2 < b.2.2
        · rw [if_pos ((zI_lt (by omega) (by omega) (by omega) (by omega)).mpr z4)]
          exact up (Or.inr ⟨z2, Or.inl z4⟩)
        rw [if_neg (fun q => z4 ((zI_lt (by omega) (by omega) (by omega) (by omega)).mp q))]
        by_cases z5 : t.2.2 = b.2.2
        · rw [if_pos (by rw [z5]), ← s3]
          by_cases z6 : lo_ t.1 b.1
          · rw [if_neg (fun q => low.mp q z6), s3]
            exact up (Or.inr ⟨z2, Or.inr ⟨z5, lo9_iff.mpr z6⟩⟩)
          · rw [if_pos (low.mpr z6), s3]
            refine dn (fun q => ?_)
            rcases q with q | ⟨-, q | ⟨-, q⟩⟩
            · omega
            · omega
            · exact z6 (lo9_iff.mp q)
        · rw [if_neg (fun q => z5 ((zI_eq (by omega) (by omega) (by omega) (by omega)).mp q))]
          exact dn (fun q => by
            rcases q with q | ⟨-, q | ⟨q, -⟩⟩
            · omega
            · omega
            · exact z5 q)
      · rw [if_neg (fun q => z2 ((zI_eq (by omega) (by omega) (by omega) (by omega)).mp q))]
        exact dn (fun q => by
          rcases q with q | ⟨q, -⟩
          · omega
          · exact z2 q)
    | succ m ih =>
      intro i f him hf
      obtain ⟨f, rfl⟩ : ∃ e, f = e + 1 := ⟨f - 1, by omega⟩
      have hi : i < L.length := by omega
      have nxt := ih (i + 1) f (by omega) (by omega)
      have hbt := bit_shr (nI u) (k := i) (by omega)
      rw [bt_nI (by omega)] at hbt
      have e1 : su9_ (wkg_ A N L) u (i + 1) = su9_ (wkg_ A N L) u i + (if u.testBit i = true then wkg_ A N L i else 0) := rfl
      have e2 : su9_ (wkh_ A N L) u (i + 1) = su9_ (wkh_ A N L) u i + (if u.testBit i = true then wkh_ A N L i else 0) := rfl
      have b276 : ∀ l6 l7, f_X15_week_b276 (f_X15_week_b232 R f) τ y (nI w) (nI b.1) (zI b.2.1) (zI b.2.2) (nI u) l6 l7 (nI i) = f_X15_week_b232 R f τ y (nI w) (nI b.1) (zI b.2.1) (zI b.2.2) (nI u) l6 l7 (nI (i + 1)) := fun l6 l7 => by
        unfold f_X15_week_b276
        rw [lt_e, nI_1]
      rw [f_X15_week_b232, gt_t hy, lt_e, h85, if_neg (nI_ge hi (by omega)), hbt]
      by_cases z : u.testBit i = true
      · have ixi := ix9_ (k := i) (M := 30) (by omega) (by omega)
        have cli : (nI i).toNatClampNeg = i := nI_clamp (by omega)
        have hp := hm _ (gdm_ hi)
        have gg : f_X15_gains τ y (nI i) = some (zI (wkg_ A N L i), τ) := by
          unfold f_X15_gains
          rw [gt_t hy, lt_e, a83, nn_s, gt_t b83, cli, c83, gt_t ixi, lt_e, hv i hi, m_gainOf h hH hp hN (h15 _ hp), bd_s]
          unfold wkg_
          rw [if_pos hi, zI_nI]
        have gh : f_X15_times τ y (nI i) = some (zI (wkh_ A N L i), τ) := by
          unfold f_X15_times
          rw [gt_t hy, lt_e, a83, nn_s, gt_t b83, cli, c83, gt_t ixi, lt_e, hv i hi, m_hoursOf h (by omega), bd_s]
          unfold wkh_
          rw [zI_nI]
        rw [if_pos z] at e1 e2
        rw [bi_t z, if_neg (by decide), gg, bd_s, lt_e, zI_add, gh, bd_s, lt_e, zI_add, b276, ← e1, ← e2]
        exact nxt
      · rw [if_neg z, Int.add_zero] at e1 e2
        rw [bi_f z, if_pos rfl, b276, ← e1, ← e2]
        exact nxt
  exact key L.length 0 fu_ (by omega) (by unfold fu_; omega)
end MWE
