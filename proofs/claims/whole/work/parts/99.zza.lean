/-! CALLS: an edition's quotes, and the reference's picture and quotes. Written by wip/b/mk99zza.py. -/
section KQU
variable {ka : Nat → Nat} {TX : Nat → Nat → (Nat → Int32) → Nat → (Nat → Int32) → Prop} {x : Nat} {σ : TH} {G : GH} {A : AS} {N : Nat → Nat}
theorem k_quo (h : rc_ ka TX σ x G A N) {i : Nat} (hi : i < N 70) : kd_ σ (ga_ G 45 i) = 7 ∧ fi_ σ 600 (ga_ G 45 i) = aV A 78 i ∧ fi_ σ 602 (ga_ G 45 i) = (if aV A 80 i = -1 then 0 else aV A 80 i) ∧ fi_ σ 603 (ga_ G 45 i) = aV A 81 i := by
  have hg : i < gc_ G 45 := by rw [rc_45 h]; exact hi
  obtain ⟨q0, q1, q2, q3, q4⟩ := h.2.2.2 45 i hg
  exact ⟨(h.1.2 45 i hg).1, q0, q2, q3⟩
theorem sub9_ {a b : Nat} (h : b ≤ a) : nI a - nI b = nI (a - b) := by
  obtain ⟨c, rfl⟩ : ∃ c, a = c + b := ⟨a - b, by omega⟩
  rw [Nat.add_sub_cancel, ← nI_add]
  exact Int32.add_sub_cancel _ _
theorem k_layQuotesL (hQ : pvQ A N) (hN : N 70 ≤ 60) {E p L : Nat} (hL : L ≤ 4000) (fE : fh_ G E) : ∀ (m i f r n : Nat) (τ : TH), i + m = N 70 → m < f → r ≤ L → rc_ ka TX τ x G A N → kd_ τ E = 3 → fi_ τ 200 E = nI p → fi_ τ 202 E = nI (L - r) → fi_ τ 205 E = nI n → ∃ τ2, f_X11_layQuotes_b2 f τ x (some E) (nI L) (nI i) = some ((), τ2) ∧ rc_ ka TX τ2 x G A N ∧ fq_ (fun q => q = E) τ τ2 ∧ (nx_ τ2 = nx_ τ ∧ sl_ τ2 = sl_ τ) ∧ (∀ c, fr_ τ2 c E = fr_ τ c E) ∧ ∀ c, fi_ τ2 c E = if c = 202 then nI (L - (edQ_ A p m i r).1) else if c = 205 then nI (n + (edQ_ A p m i r).2) else fi_ τ c E
  | 0, i, f, r, n, τ, him, hf, hr, h, kE, e0, e2, e5 => by
    obtain ⟨f, rfl⟩ : ∃ e, f = e + 1 := ⟨f - 1, by omega⟩
    have r5 := rc_r1205 h
    have hl := rc_l6 h (by omega)
    refine ⟨τ, ?_, h, fq_rf h.1.1, ⟨rfl, rfl⟩, fun _ => rfl, fun c => ?_⟩
    · rw [f_X11_layQuotes_b2, gt_t (rc_x h), lt_e, r5.1, nn_s, gt_t r5.2, l_size hl, bd_s, if_pos (by rw [show i = N 70 by omega]; exact Int32.le_refl _)]
    · show _ = if c = 202 then nI (L - r) else if c = 205 then nI (n + 0) else fi_ τ c E
      by_cases z : c = 202
      · rw [if_pos z, z, e2]
      · rw [if_neg z]
        by_cases z2 : c = 205
        · rw [if_pos z2, z2, e5, Nat.add_zero]
        · rw [if_neg z2]
  | m + 1, i, f, r, n, τ, him, hf, hr, h, kE, e0, e2, e5 => by
    obtain ⟨f, rfl⟩ : ∃ e, f = e + 1 := ⟨f - 1, by omega⟩
    have r5 := rc_r1205 h
    have hl := rc_l6 h (by omega)
    have hi : i < N 70 := by omega
    obtain ⟨q0, q1, q2, q3⟩ := k_quo h hi
    have b88 : ∀ τ : TH, f_X11_layQuotes_b88 (f_X11_layQuotes_b2 f) τ x (some E) (nI L) (nI i) = f_X11_layQuotes_b2 f τ x (some E) (nI L) (nI (i + 1)) := fun τ => by
      unfold f_X11_layQuotes_b88
      rw [lt_e, nI_1]
    rw [f_X11_layQuotes_b2, gt_t (rc_x h), lt_e, r5.1, nn_s, gt_t r5.2, l_size hl, bd_s, if_neg (nI_ge hi (by omega)), lt_e, r5.1, nn_s, gt_t r5.2, l_get hl hi, bd_s, gt_t (show Option.elim (some (ga_ G 45 i)) 7 (kd_ τ) = 7 from q0), nn_s, gt_t q0, lt_e, q1, nn_s, gt_t kE, lt_e, e0]
    by_cases z : aV A 78 i = nI p
    · rw [if_pos z, lt_e, q3]
      by_cases w : aV A 81 i = 0
      · rw [if_pos w, b88]
        have eQ : edQ_ A p (m + 1) i r = edQ_ A p m (i + 1) r := by rw [edQ_, if_neg (fun q => q.2 w)]
        rw [eQ]
        exact k_layQuotesL hQ hN hL fE m (i + 1) f r n τ (by omega) (by omega) hr h kE e0 e2 e5
      · obtain ⟨l, l1, l2, l3, l4⟩ := edq_l hQ hi w
        have q2' : fi_ τ 602 (ga_ G 45 i) = nI l := by rw [q2, l3, if_neg (nI_n1 (by omega))]
        rw [if_neg w, lt_e, q2', lt_e, e2, sub9_ (by omega), show L - (L - r) = r by omega]
        by_cases u : l ≤ r
        · have eQ : edQ_ A p (m + 1) i r = ((edQ_ A p m (i + 1) (r - l)).1, (edQ_ A p m (i + 1) (r - l)).2 + 1) := by rw [edQ_, if_pos ⟨z, w⟩, l4, if_pos u]
          rw [if_pos (nI_le u (by omega)), lt_e, lt_e, lt_e, nI_add, show L - r + l = L - (r - l) by omega, lt_e, fi_si, up2_c (by decide), e5, lt_e, nI_1, b88, eQ]
          have h1 := rc_fh h (fq_si (T := fun q => q = E) (c := 202) (v := nI (L - (r - l))) h.1.1 rfl) (fun q z => by rw [z]; exact fE)
          have h2 := rc_fh h1 (fq_si (T := fun q => q = E) (c := 205) (v := nI (n + 1)) h1.1.1 rfl) (fun q z => by rw [z]; exact fE)
          obtain ⟨τ2, w1, w2, w3, w4, w5, w6⟩ := k_layQuotesL hQ hN hL fE m (i + 1) f (r - l) (n + 1) (si_ (si_ τ 202 E (nI (L - (r - l)))) 205 E (nI (n + 1))) (by omega) (by omega) (by omega) h2 kE (by rw [fi_si, up2_c (by decide), fi_si, up2_c (by decide)]; exact e0) (by rw [fi_si, up2_c (by decide), fi_si, up2_s]) (by rw [fi_si, up2_s])
          refine ⟨τ2, w1, w2, fq_tr (fqi (fqi (fq_rf h.1.1) rfl) rfl) w3, w4, w5, fun c => ?_⟩
          rw [w6 c]
          by_cases z2 : c = 202
          · rw [if_pos z2, if_pos z2]
          · rw [if_neg z2, if_neg z2]
            by_cases z5 : c = 205
            · rw [if_pos z5, if_pos z5, show n + 1 + (edQ_ A p m (i + 1) (r - l)).2 = n + ((edQ_ A p m (i + 1) (r - l)).2 + 1) by omega]
            · rw [if_neg z5, if_neg z5, fi_si, up2_c z5, fi_si, up2_c z2]
        · have eQ : edQ_ A p (m + 1) i r = (r, 0) := by rw [edQ_, if_pos ⟨z, w⟩, l4, if_neg u]
          rw [if_neg (nI_ge (by omega) (by omega)), eQ]
          refine ⟨τ, rfl, h, fq_rf h.1.1, ⟨rfl, rfl⟩, fun _ => rfl, fun c => ?_⟩
          by_cases z : c = 202
          · rw [if_pos z, z, e2]
          · rw [if_neg z]
            by_cases z2 : c = 205
            · rw [if_pos z2, z2, e5]
              rfl
            · rw [if_neg z2]
    · rw [if_neg z, b88]
      have eQ : edQ_ A p (m + 1) i r = edQ_ A p m (i + 1) r := by rw [edQ_, if_neg (fun q => z q.1)]
      rw [eQ]
      exact k_layQuotesL hQ hN hL fE m (i + 1) f r n τ (by omega) (by omega) hr h kE e0 e2 e5
end KQU
section MQU
variable {σ : TH} {y : Nat} {G : GH} {A : AS} {N : Nat → Nat}
theorem m_bestPicture (h : mr_ σ y G A N) (p : Nat) : f_X15_bestPicture σ y (nI p) = some (edI_ (edB_ A N p (N 69)), σ) := by
  have hy := mo_y h.1
  obtain ⟨e69, hN⟩ := mo_n h.1 (j := 69) (cj := 1669) (m := 40) (by decide)
  obtain ⟨a2, b2, c2⟩ := mo_a h.1 (j := 72) (cj := 1672) (K := 20) (n := 40) (by decide)
  obtain ⟨a3, b3, c3⟩ := mo_a h.1 (j := 73) (cj := 1673) (K := 20) (n := 40) (by decide)
  obtain ⟨a4, b4, c4⟩ := mo_a h.1 (j := 74) (cj := 1674) (K := 20) (n := 40) (by decide)
  obtain ⟨a5, b5, c5⟩ := mo_a h.1 (j := 75) (cj := 1675) (K := 20) (n := 40) (by decide)
  obtain ⟨a6, b6, c6⟩ := mo_a h.1 (j := 76) (cj := 1676) (K := 20) (n := 40) (by decide)
  obtain ⟨a7, b7, c7⟩ := mo_a h.1 (j := 77) (cj := 1677) (K := 20) (n := 40) (by decide)
  unfold f_X15_bestPicture
  refine lp_ (F := fun f (a : Int32) k => f_X15_bestPicture_b5 f σ y (nI p) a k) (N 69) (fun i => edI_ (edB_ A N p i)) (fun f i hi => ?_) (fun f => ?_) (by omega)
  · have v2 := mr_V h (j := 72) (by decide) i
    have v3 := mr_V h (j := 73) (by decide)
    have v4 := mr_V h (j := 74) (by decide) i
    have v5 := mr_V h (j := 75) (by decide) i
    have v6 := mr_V h (j := 76) (by decide) i
    have v7 := mr_V h (j := 77) (by decide) i
    have ix := ix9_ (k := i) (M := 40) (by omega) (by omega)
    have cl : (nI i).toNatClampNeg = i := nI_clamp (by omega)
    have b86 : ∀ a, f_X15_bestPicture_b86 (f_X15_bestPicture_b5 f) σ y (nI p) a (nI i) = f_X15_bestPicture_b5 f σ y (nI p) a (nI (i + 1)) := fun a => by
      unfold f_X15_bestPicture_b86
      rw [lt_e, nI_1]
    have no : edF_ A N p i = false → edB_ A N p (i + 1) = edB_ A N p i := fun z => by
      rw [edB_]
      cases e : edB_ A N p i with
      | none => simp [z]
      | some j => simp [z]
    rw [f_X15_bestPicture_b5, gt_t hy, lt_e, e69, if_neg (nI_ge hi (by omega)), lt_e, a2, nn_s, gt_t b2, c2, cl, gt_t ix, lt_e, v2]
    by_cases z : aV A 72 i = nI p
    · rw [if_pos z, m_today2 h, bd_s, lt_e, a4, nn_s, gt_t b4, c4, gt_t ix, lt_e, v4, lt_e, a5, nn_s, gt_t b5, c5, gt_t ix, lt_e, v5, m_in, bd_s]
      by_cases w : aV A 74 i ≤ nI (td_ N) ∧ nI (td_ N) ≤ aV A 75 i
      · rw [bi_t w, if_neg (by decide), lt_e, a7, nn_s, gt_t b7, c7, gt_t ix, lt_e, v7, lt_e, a6, nn_s, gt_t b6, c6, gt_t ix, lt_e, v6]
        by_cases u : aV A 77 i < aV A 76 i
        · have wF : edF_ A N p i = true := by
            unfold edF_ edf_
            rw [decide_eq_true z, decide_eq_false (Int32.not_lt.mpr w.1), decide_eq_false (Int32.not_lt.mpr w.2), decide_eq_false (Int32.not_le.mpr u)]
            rfl
          rw [if_pos u]
          unfold f_X15_bestPicture_b84
          cases e : edB_ A N p i with
          | none =>
            have eB : edB_ A N p (i + 1) = some i := by rw [edB_, e]; simp [wF]
            rw [if_pos (show edI_ none = -2 from rfl), b86, eB]
            rfl
          | some j =>
            have hj := edB_lt e
            have ixj := ix9_ (k := j) (M := 40) (by omega) (by omega)
            have clj : (nI j).toNatClampNeg = j := nI_clamp (by omega)
            have nj : ¬ edI_ (some j) = -2 := fun q => by
              have q : nI j = -2 := q
              have h2 := nI_pos' (n := j) (by omega)
              rw [q] at h2
              exact absurd h2 (by decide)
            rw [if_neg nj, lt_e, a3, nn_s, gt_t b3, c3, gt_t ix, lt_e, v3 i, lt_e, nn_s, gt_t b3]
            show gt_ (¬ (nI j < 0 ∨ ln_ σ (ga_ G 73 0) ≤ (nI j).toNatClampNeg)) _ = _
            rw [c3, clj, gt_t ixj, lt_e]
            show (if aV A 73 i ≤ ai_ σ (ga_ G 73 0) (nI j).toNatClampNeg then _ else _) = _
            rw [clj, v3 j]
            by_cases t : aV A 73 i ≤ aV A 73 j
            · have eB : edB_ A N p (i + 1) = some j := by rw [edB_, e]; simp [t]
              rw [if_pos t, b86, eB]
            · have eB : edB_ A N p (i + 1) = some i := by rw [edB_, e]; simp [wF, t]
              rw [if_neg t, b86, eB]
              rfl
        · rw [if_neg u, b86, no (by
            unfold edF_ edf_
            rw [decide_eq_true (Int32.not_lt.mp u)]
            simp)]
      · rw [bi_f w, if_pos rfl, b86, no (by
          unfold edF_ edf_
          by_cases w1 : nI (td_ N) < aV A 74 i
          · rw [decide_eq_true w1]
            simp
          · rw [decide_eq_true (Int32.not_le.mp (fun q => w ⟨Int32.not_lt.mp w1, q⟩))]
            simp)]
    · rw [if_neg z, b86, no (by
        unfold edF_
        rw [decide_eq_false z, Bool.false_and])]
  · rw [f_X15_bestPicture_b5, gt_t hy, lt_e, e69, if_pos (Int32.le_refl _)]
/-- what the reference does behind the quotes -/
def edC_ (τ : TH) (y : Nat) (p l2 v : Int32) (E : Nat) (r : Int32) : Option (Int32 × TH) := bd_ (f_X15_cuts τ y p r v) fun x35 s36 => lt_ (fi_ s36 1653 y) fun x37 => nn_ (some E) fun a38 => gt_ (kd_ s36 a38 = 14) <| lt_ (si_ s36 1303 a38 x37) fun s39 => lt_ (fi_ s39 1655 y) fun x40 => lt_ (si_ s39 1302 a38 ((l2 - r) + x40)) fun s41 => f_X15_edition_b296 fu_ s41 y p (some a38) (0 : Int32) (0 : Int32)
theorem m_quotes0 (h : mr_ σ y G A N) {p L r : Int32} {v : Int32} {E : Nat} : ∀ (m i f : Nat), i + m = N 70 → m < f → f_X15_edition_b165 f σ y p L v (some E) r 0 (nI i) = edC_ σ y p L v E r
  | 0, i, f, him, hf => by
    obtain ⟨f, rfl⟩ : ∃ e, f = e + 1 := ⟨f - 1, by omega⟩
    obtain ⟨e70, hN⟩ := mo_n h.1 (j := 70) (cj := 1670) (m := 60) (by decide)
    rw [f_X15_edition_b165, gt_t (mo_y h.1), lt_e, e70, if_pos (by rw [show i = N 70 by omega]; exact Int32.le_refl _)]
    rfl
  | m + 1, i, f, him, hf => by
    obtain ⟨f, rfl⟩ : ∃ e, f = e + 1 := ⟨f - 1, by omega⟩
    obtain ⟨e70, hN⟩ := mo_n h.1 (j := 70) (cj := 1670) (m := 60) (by decide)
    rw [f_X15_edition_b165, gt_t (mo_y h.1), lt_e, e70, if_neg (nI_ge (by omega) (by omega)), if_pos rfl]
    unfold f_X15_edition_b253
    rw [lt_e, nI_1]
    exact m_quotes0 h m (i + 1) f (by omega) (by omega)
theorem m_quotes (hQ : pvQ A N) {p : Nat} {L v : Int32} {E : Nat} (fE : fh_ G E) : ∀ (m i f r n : Nat) (τ : TH), i + m = N 70 → m < f → r ≤ 4000 → mr_ τ y G A N → kd_ τ E = 14 → fi_ τ 1305 E = nI n → ∃ τ2, f_X15_edition_b165 f τ y (nI p) L v (some E) (nI r) 1 (nI i) = edC_ τ2 y (nI p) L v E (nI (edQ_ A p m i r).1) ∧ mr_ τ2 y G A N ∧ fq_ (fun q => q = E) τ τ2 ∧ (nx_ τ2 = nx_ τ ∧ sl_ τ2 = sl_ τ) ∧ (∀ c, fr_ τ2 c E = fr_ τ c E) ∧ ∀ c, fi_ τ2 c E = if c = 1305 then nI (n + (edQ_ A p m i r).2) else fi_ τ c E
  | 0, i, f, r, n, τ, him, hf, hr, h, kE, e5 => by
    obtain ⟨f, rfl⟩ : ∃ e, f = e + 1 := ⟨f - 1, by omega⟩
    obtain ⟨e70, hN⟩ := mo_n h.1 (j := 70) (cj := 1670) (m := 60) (by decide)
    refine ⟨τ, ?_, h, fq_rf h.1.1.1, ⟨rfl, rfl⟩, fun _ => rfl, fun c => ?_⟩
    · rw [f_X15_edition_b165, gt_t (mo_y h.1), lt_e, e70, if_pos (by rw [show i = N 70 by omega]; exact Int32.le_refl _)]
      rfl
    · show _ = if c = 1305 then nI (n + 0) else fi_ τ c E
      by_cases z : c = 1305
      · rw [if_pos z, z, e5, Nat.add_zero]
      · rw [if_neg z]
  | m + 1, i, f, r, n, τ, him, hf, hr, h, kE, e5 => by
    obtain ⟨f, rfl⟩ : ∃ e, f = e + 1 := ⟨f - 1, by omega⟩
    obtain ⟨e70, hN⟩ := mo_n h.1 (j := 70) (cj := 1670) (m := 60) (by decide)
    have hy := mo_y h.1
    have hi : i < N 70 := by omega
    obtain ⟨a8, b8, c8⟩ := mo_a h.1 (j := 78) (cj := 1678) (K := 20) (n := 60) (by decide)
    obtain ⟨a0, b0, c0⟩ := mo_a h.1 (j := 80) (cj := 1680) (K := 20) (n := 60) (by decide)
    obtain ⟨a1, b1, c1⟩ := mo_a h.1 (j := 81) (cj := 1681) (K := 22) (n := 60) (by decide)
    have v8 := mr_V h (j := 78) (by decide) i
    have v0 := mr_V h (j := 80) (by decide) i
    have v1 := mr_V h (j := 81) (by decide) i
    have ix := ix9_ (k := i) (M := 60) (by omega) (by omega)
    have cl : (nI i).toNatClampNeg = i := nI_clamp (by omega)
    have b253 : ∀ (τ : TH) (r t : Int32), f_X15_edition_b253 (f_X15_edition_b165 f) τ y (nI p) L v (some E) r t (nI i) = f_X15_edition_b165 f τ y (nI p) L v (some E) r t (nI (i + 1)) := fun τ r t => by
      unfold f_X15_edition_b253
      rw [lt_e, nI_1]
    rw [f_X15_edition_b165, gt_t hy, lt_e, e70, if_neg (nI_ge hi (by omega)), if_neg (by decide), lt_e, a8, nn_s, gt_t b8, c8, cl, gt_t ix, lt_e, v8]
    by_cases z : aV A 78 i = nI p
    · rw [if_pos z, lt_e, a1, nn_s, gt_t b1, c1, gt_t ix, lt_e, v1]
      by_cases w : aV A 81 i = 0
      · rw [if_pos w, b253]
        have eQ : edQ_ A p (m + 1) i r = edQ_ A p m (i + 1) r := by rw [edQ_, if_neg (fun q => q.2 w)]
        rw [eQ]
        exact m_quotes hQ fE m (i + 1) f r n τ (by omega) (by omega) hr h kE e5
      · obtain ⟨l, l1, l2, l3, l4⟩ := edq_l hQ hi w
        rw [if_neg w, lt_e, a0, nn_s, gt_t b0, c0, gt_t ix, lt_e, v0, l3]
        unfold f_X15_edition_b220
        by_cases u : l ≤ r
        · have eQ : edQ_ A p (m + 1) i r = ((edQ_ A p m (i + 1) (r - l)).1, (edQ_ A p m (i + 1) (r - l)).2 + 1) := by rw [edQ_, if_pos ⟨z, w⟩, l4, if_pos u]
          rw [if_neg (nI_nlt u (by omega)), if_neg (by decide), gt_t hy, lt_e, a0, nn_s, gt_t b0, c0, cl, gt_t ix, lt_e, v0, l3, lt_e, sub9_ u, nn_s, gt_t kE, lt_e, e5, lt_e, nI_1, b253, eQ]
          have h1 := mr_fh h (fq_si (T := fun q => q = E) (c := 1305) (v := nI (n + 1)) h.1.1.1 rfl) (fun q z => by rw [z]; exact fE)
          obtain ⟨τ2, w1, w2, w3, w4, w5, w6⟩ := m_quotes hQ fE m (i + 1) f (r - l) (n + 1) (si_ τ 1305 E (nI (n + 1))) (by omega) (by omega) (by omega) h1 kE (by rw [fi_si, up2_s])
          refine ⟨τ2, w1, w2, fq_tr (fqi (fq_rf h.1.1.1) rfl) w3, w4, w5, fun c => ?_⟩
          rw [w6 c]
          by_cases z5 : c = 1305
          · rw [if_pos z5, if_pos z5, show n + 1 + (edQ_ A p m (i + 1) (r - l)).2 = n + ((edQ_ A p m (i + 1) (r - l)).2 + 1) by omega]
          · rw [if_neg z5, if_neg z5, fi_si, up2_c z5]
        · have eQ : edQ_ A p (m + 1) i r = (r, 0) := by rw [edQ_, if_pos ⟨z, w⟩, l4, if_neg u]
          rw [if_pos (nI_lt (by omega) (by omega)), if_pos rfl, b253, m_quotes0 h m (i + 1) f (by omega) (by omega), eQ]
          refine ⟨τ, rfl, h, fq_rf h.1.1.1, ⟨rfl, rfl⟩, fun _ => rfl, fun c => ?_⟩
          by_cases z : c = 1305
          · rw [if_pos z, z, e5]
            rfl
          · rw [if_neg z]
    · rw [if_neg z, b253]
      have eQ : edQ_ A p (m + 1) i r = edQ_ A p m (i + 1) r := by rw [edQ_, if_neg (fun q => z q.1)]
      rw [eQ]
      exact m_quotes hQ fE m (i + 1) f r n τ (by omega) (by omega) hr h kE e5
end MQU
