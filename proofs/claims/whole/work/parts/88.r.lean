/-! THE REFERENCE PRINTS: bytes and numbers into its scratch. Written by wip/b/mk88.py. -/
def by9_ (c : Nat) : Int32 := vp_nar .byte ((Int32.toInt8 (nI c)).toInt32)
section RPUT
variable {σ τ τ0 : TH} {y : Nat} {G : GH} {A : AS} {N : Nat → Nat} {t n p : Nat} {w : Nat → Nat} {ru : Int32} {L : List Nat}
def pu_ (σ : TH) (y : Nat) (G : GH) (A : AS) (N : Nat → Nat) (t n p : Nat) (w : Nat → Nat) (ru : Int32) (τ0 : TH) (L : List Nat) (τ : TH) : Prop := rs_ σ y G A N t n p w ru τ ∧ (∀ c, c ≠ 1641 → fi_ τ c y = fi_ τ0 c y) ∧ fi_ τ 1641 y = nI L.length ∧ ∀ i, i < L.length → ai_ τ (ga_ G 27 0) i = by9_ (L.getD i 0)
theorem m_prints (h : pu_ σ y G A N t n p w ru τ0 L τ) (hl : L.length < 1200) (c : Nat) : ∃ τ', f_X15_prints τ y (nI c) = some ((), τ') ∧ pu_ σ y G A N t n p w ru τ0 (L ++ [c]) τ' := by
  obtain ⟨h1, h2, h3, h4⟩ := h
  have hy := rs_y h1
  obtain ⟨a27, b27, c27⟩ := mo_a h1.1.1 (j := 27) (cj := 1627) (K := 21) (n := 1200) (by decide)
  have g1 : ¬ nI L.length < 0 := nI_pos (by omega)
  have g3 : (nI L.length).toNatClampNeg = L.length := nI_clamp (by omega)
  have g4 : ¬ 1200 ≤ L.length := by omega
  refine ⟨si_ (sa_ τ (ga_ G 27 0) L.length (by9_ c)) 1641 y (nI (L.length + 1)), ?_, rs_si (rs_sc h1 _ _) (j := 41) (by decide) rfl _, fun d hd => ?_, ?_, fun i hi => ?_⟩
  · simp [f_X15_prints, gt_, lt_, nn_, oc_, bd_, kd_si, ln_si, fi_si, fr_si, fl_si, ai_si, ar_si, al_si, ow_si, nx_si, sl_si, kd_sr, ln_sr, fi_sr, fr_sr, fl_sr, ai_sr, ar_sr, al_sr, ow_sr, nx_sr, sl_sr, kd_so, ln_so, fi_so, fr_so, fl_so, ai_so, ar_so, al_so, ow_so, nx_so, sl_so, kd_sa, ln_sa, fi_sa, fr_sa, fl_sa, ai_sa, ar_sa, al_sa, ow_sa, nx_sa, sl_sa, kd_sq, ln_sq, fi_sq, fr_sq, fl_sq, ai_sq, ar_sq, al_sq, ow_sq, nx_sq, sl_sq, kd_sj, ln_sj, fi_sj, fr_sj, fl_sj, ai_sj, ar_sj, al_sj, ow_sj, nx_sj, sl_sj, hy, a27, b27, c27, h3, g1, g3, g4, nI_1, by9_]
  · rw [fi_si, up2_c hd]; exact h2 d hd
  · rw [fi_si, up2_s, List.length_append]; rfl
  · rw [List.length_append] at hi
    show ai_ (sa_ τ (ga_ G 27 0) L.length (by9_ c)) (ga_ G 27 0) i = _
    by_cases z : i = L.length
    · subst z
      rw [ai_sa, up2_s]
      simp [List.getD, List.getElem?_append_right]
    · have z2 : i < L.length := by simp only [List.length_cons, List.length_nil] at hi; omega
      rw [ai_sa, up2_n z, h4 i z2]
      simp [List.getD, List.getElem?_append_left z2]
/-- the last j digits -/
def dj_ (m : Nat) : Nat → List Nat
  | 0 => []
  | j + 1 => (48 + m / 10 ^ j % 10) :: dj_ m j
theorem dj_len (m : Nat) : ∀ j, (dj_ m j).length = j
  | 0 => rfl
  | j + 1 => congrArg (· + 1) (dj_len m j)
theorem dn_dj {m : Nat} : ∀ j, j < 7 → (10 ^ j ≤ m ∨ j = 0) → m < 10 ^ (j + 1) → dn9_ m = dj_ m (j + 1)
  | 0, _, h1, h2 => by
    simp only [Nat.reducePow, Nat.reduceAdd] at h1 h2
    have e6 : (decide (1000000 ≤ m) || decide (1000000 = 1)) = false := by simp; omega
    have e5 : (decide (100000 ≤ m) || decide (100000 = 1)) = false := by simp; omega
    have e4 : (decide (10000 ≤ m) || decide (10000 = 1)) = false := by simp; omega
    have e3 : (decide (1000 ≤ m) || decide (1000 = 1)) = false := by simp; omega
    have e2 : (decide (100 ≤ m) || decide (100 = 1)) = false := by simp; omega
    have e1 : (decide (10 ≤ m) || decide (10 = 1)) = false := by simp; omega
    have e0 : (decide (1 ≤ m) || decide (1 = 1)) = true := by simp
    simp only [dn9_, List.filter, e6, e5, e4, e3, e2, e1, e0, decide_true, Bool.or_true, List.map, dj_, Nat.reducePow]
  | 1, _, h1, h2 => by
    simp only [Nat.reducePow, Nat.reduceAdd] at h1 h2
    have e6 : (decide (1000000 ≤ m) || decide (1000000 = 1)) = false := by simp; omega
    have e5 : (decide (100000 ≤ m) || decide (100000 = 1)) = false := by simp; omega
    have e4 : (decide (10000 ≤ m) || decide (10000 = 1)) = false := by simp; omega
    have e3 : (decide (1000 ≤ m) || decide (1000 = 1)) = false := by simp; omega
    have e2 : (decide (100 ≤ m) || decide (100 = 1)) = false := by simp; omega
    have e1 : (decide (10 ≤ m) || decide (10 = 1)) = true := by simp; omega
    have e0 : (decide (1 ≤ m) || decide (1 = 1)) = true := by simp
    simp only [dn9_, List.filter, e6, e5, e4, e3, e2, e1, e0, decide_true, Bool.or_true, List.map, dj_, Nat.reducePow]
  | 2, _, h1, h2 => by
    simp only [Nat.reducePow, Nat.reduceAdd] at h1 h2
    have e6 : (decide (1000000 ≤ m) || decide (1000000 = 1)) = false := by simp; omega
    have e5 : (decide (100000 ≤ m) || decide (100000 = 1)) = false := by simp; omega
    have e4 : (decide (10000 ≤ m) || decide (10000 = 1)) = false := by simp; omega
    have e3 : (decide (1000 ≤ m) || decide (1000 = 1)) = false := by simp; omega
    have e2 : (decide (100 ≤ m) || decide (100 = 1)) = true := by simp; omega
    have e1 : (decide (10 ≤ m) || decide (10 = 1)) = true := by simp; omega
    have e0 : (decide (1 ≤ m) || decide (1 = 1)) = true := by simp
    simp only [dn9_, List.filter, e6, e5, e4, e3, e2, e1, e0, decide_true, Bool.or_true, List.map, dj_, Nat.reducePow]
  | 3, _, h1, h2 => by
    simp only [Nat.reducePow, Nat.reduceAdd] at h1 h2
    have e6 : (decide (1000000 ≤ m) || decide (1000000 = 1)) = false := by simp; omega
    have e5 : (decide (100000 ≤ m) || decide (100000 = 1)) = false := by simp; omega
    have e4 : (decide (10000 ≤ m) || decide (10000 = 1)) = false := by simp; omega
    have e3 : (decide (1000 ≤ m) || decide (1000 = 1)) = true := by simp; omega
    have e2 : (decide (100 ≤ m) || decide (100 = 1)) = true := by simp; omega
    have e1 : (decide (10 ≤ m) || decide (10 = 1)) = true := by simp; omega
    have e0 : (decide (1 ≤ m) || decide (1 = 1)) = true := by simp
    simp only [dn9_, List.filter, e6, e5, e4, e3, e2, e1, e0, decide_true, Bool.or_true, List.map, dj_, Nat.reducePow]
  | 4, _, h1, h2 => by
    simp only [Nat.reducePow, Nat.reduceAdd] at h1 h2
    have e6 : (decide (1000000 ≤ m) || decide (1000000 = 1)) = false := by simp; omega
    have e5 : (decide (100000 ≤ m) || decide (100000 = 1)) = false := by simp; omega
    have e4 : (decide (10000 ≤ m) || decide (10000 = 1)) = true := by simp; omega
    have e3 : (decide (1000 ≤ m) || decide (1000 = 1)) = true := by simp; omega
    have e2 : (decide (100 ≤ m) || decide (100 = 1)) = true := by simp; omega
    have e1 : (decide (10 ≤ m) || decide (10 = 1)) = true := by simp; omega
    have e0 : (decide (1 ≤ m) || decide (1 = 1)) = true := by simp
    simp only [dn9_, List.filter, e6, e5, e4, e3, e2, e1, e0, decide_true, Bool.or_true, List.map, dj_, Nat.reducePow]
  | 5, _, h1, h2 => by
    simp only [Nat.reducePow, Nat.reduceAdd] at h1 h2
    have e6 : (decide (1000000 ≤ m) || decide (1000000 = 1)) = false := by simp; omega
    have e5 : (decide (100000 ≤ m) || decide (100000 = 1)) = true := by simp; omega
    have e4 : (decide (10000 ≤ m) || decide (10000 = 1)) = true := by simp; omega
    have e3 : (decide (1000 ≤ m) || decide (1000 = 1)) = true := by simp; omega
    have e2 : (decide (100 ≤ m) || decide (100 = 1)) = true := by simp; omega
    have e1 : (decide (10 ≤ m) || decide (10 = 1)) = true := by simp; omega
    have e0 : (decide (1 ≤ m) || decide (1 = 1)) = true := by simp
    simp only [dn9_, List.filter, e6, e5, e4, e3, e2, e1, e0, decide_true, Bool.or_true, List.map, dj_, Nat.reducePow]
  | 6, _, h1, h2 => by
    simp only [Nat.reducePow, Nat.reduceAdd] at h1 h2
    have e6 : (decide (1000000 ≤ m) || decide (1000000 = 1)) = true := by simp; omega
    have e5 : (decide (100000 ≤ m) || decide (100000 = 1)) = true := by simp; omega
    have e4 : (decide (10000 ≤ m) || decide (10000 = 1)) = true := by simp; omega
    have e3 : (decide (1000 ≤ m) || decide (1000 = 1)) = true := by simp; omega
    have e2 : (decide (100 ≤ m) || decide (100 = 1)) = true := by simp; omega
    have e1 : (decide (10 ≤ m) || decide (10 = 1)) = true := by simp; omega
    have e0 : (decide (1 ≤ m) || decide (1 = 1)) = true := by simp
    simp only [dn9_, List.filter, e6, e5, e4, e3, e2, e1, e0, decide_true, Bool.or_true, List.map, dj_, Nat.reducePow]
  | j + 7, h, _, _ => by omega
theorem m_digits {m : Nat} (hm : m < 2 ^ 31) : ∀ (j g : Nat) (L : List Nat) (τ : TH), j ≤ 7 → j < g → L.length + j < 1200 → pu_ σ y G A N t n p w ru τ0 L τ → ∃ τ', f_X15_printsNumber_b33 g τ y (nI m) (if j = 0 then 0 else nI (10 ^ (j - 1))) = some ((), τ') ∧ pu_ σ y G A N t n p w ru τ0 (L ++ dj_ m j) τ'
  | _, 0, _, _, _, h, _, _ => by omega
  | 0, g + 1, L, τ, _, _, _, h => by
    refine ⟨τ, ?_, by rw [show dj_ m 0 = [] from rfl, List.append_nil]; exact h⟩
    unfold f_X15_printsNumber_b33
    rw [if_pos rfl, if_pos (by decide)]
  | j + 1, g + 1, L, τ, hj, hg, hl, h => by
    have hp : 10 ^ j ≤ 10 ^ 6 := Nat.pow_le_pow_right (by decide) (by omega)
    have hp0 : 0 < 10 ^ j := Nat.pow_pos (by decide)
    have hp1 : 10 ^ j < 2 ^ 31 := Nat.lt_of_le_of_lt hp (by decide)
    have g1 : ¬ nI (10 ^ j) ≤ 0 := nI_ge (a := 0) hp0 hp1
    have g2 : ¬ nI (10 ^ j) = 0 := fun q => by
      have := (nI_eq (a := 10 ^ j) (b := 0) hp1 (by decide)).mp q
      omega
    have e1 : nI m / nI (10 ^ j) = nI (m / 10 ^ j) := pk_div hm hp0 hp1
    have hq : m / 10 ^ j < 2 ^ 31 := Nat.lt_of_le_of_lt (Nat.div_le_self _ _) hm
    have e2 : nI (m / 10 ^ j) - nI (m / 10 ^ j) / (10 : Int32) * (10 : Int32) = nI (m / 10 ^ j % 10) := pk_rem (d := 10) hq (by decide) (by decide)
    have e3 : (48 : Int32) + nI (m / 10 ^ j % 10) = nI (48 + m / 10 ^ j % 10) := nI_add 48 _
    have e4 : nI (10 ^ j) / (10 : Int32) = (if j = 0 then 0 else nI (10 ^ (j - 1))) := by
      rw [show (10 : Int32) = nI 10 from rfl, pk_div hp1 (by decide) (by decide)]
      cases j with
      | zero => rfl
      | succ j =>
        rw [if_neg (by omega), Nat.pow_succ, Nat.mul_div_cancel _ (by decide)]
        rfl
    obtain ⟨τ1, f1, f2⟩ := m_prints h (by omega) (48 + m / 10 ^ j % 10)
    obtain ⟨τ2, f3, f4⟩ := m_digits hm j g (L ++ [48 + m / 10 ^ j % 10]) τ1 (by omega) (by omega) (by rw [List.length_append]; simp only [List.length_cons, List.length_nil]; omega) f2
    refine ⟨τ2, ?_, by rw [List.append_assoc] at f4; exact f4⟩
    rw [if_neg (Nat.succ_ne_zero j), Nat.add_sub_cancel]
    unfold f_X15_printsNumber_b33
    rw [if_neg g1, gt_t g2, gt_t (by decide), gt_t (rs_y h.1), e1, e2, e3, f1, bd_s, gt_t (by decide), lt_e, e4]
    exact f3
theorem m_num17 {m : Nat} (hm : m < 10 ^ 7) (hl : L.length + 7 < 1200) (h : pu_ σ y G A N t n p w ru τ0 L τ) : ∀ (k j g : Nat), j + k = 6 → k < g → (10 ^ j ≤ m ∨ j = 0) → ∃ τ', f_X15_printsNumber_b17 g τ y (nI m) (nI (10 ^ j)) = some ((), τ') ∧ pu_ σ y G A N t n p w ru τ0 (L ++ dn9_ m) τ'
  | _, _, 0, _, h, _ => by omega
  | k, j, g + 1, h1, h2, h3 => by
    have hp : 10 ^ j ≤ 10 ^ 6 := Nat.pow_le_pow_right (by decide) (by omega)
    have hp0 : 0 < 10 ^ j := Nat.pow_pos (by decide)
    have hp1 : 10 ^ j < 2 ^ 31 := Nat.lt_of_le_of_lt hp (by decide)
    have hm31 : m < 2 ^ 31 := Nat.lt_of_lt_of_le hm (by decide)
    have g2 : ¬ nI (10 ^ j) = 0 := fun q => by
      have := (nI_eq (a := 10 ^ j) (b := 0) hp1 (by decide)).mp q
      omega
    have e1 : nI m / nI (10 ^ j) = nI (m / 10 ^ j) := pk_div hm31 hp0 hp1
    have hq : m / 10 ^ j < 2 ^ 31 := Nat.lt_of_le_of_lt (Nat.div_le_self _ _) hm31
    unfold f_X15_printsNumber_b17
    rw [gt_t g2, e1]
    by_cases z : m < 10 ^ (j + 1)
    · have z2 : m / 10 ^ j < 10 := (Nat.div_lt_iff_lt_mul hp0).mpr (by rw [Nat.pow_succ] at z; omega)
      rw [if_pos (show nI (m / 10 ^ j) ≤ (9 : Int32) from nI_le (b := 9) (Nat.le_of_lt_succ z2) (by decide)), dn_dj j (by omega) h3 z]
      have := m_digits hm31 (j + 1) fu_ L τ (by omega) (Nat.lt_of_le_of_lt (show j + 1 ≤ 7 by omega) (by decide)) (by omega) h
      rw [if_neg (Nat.succ_ne_zero j), Nat.add_sub_cancel] at this
      exact this
    · have z2 : ¬ m / 10 ^ j < 10 := fun q => z (by rw [Nat.pow_succ]; have := (Nat.div_lt_iff_lt_mul hp0).mp q; omega)
      have hk : 0 < k := by
        rcases Nat.eq_zero_or_pos k with q | q
        · subst q
          have : j = 6 := by omega
          subst this
          omega
        · exact q
      rw [if_neg (show ¬ nI (m / 10 ^ j) ≤ (9 : Int32) from nI_ge (a := 9) (by omega) hq), lt_e, show nI (10 ^ j) * (10 : Int32) = nI (10 ^ (j + 1)) from pk_mul _ _]
      exact m_num17 hm hl h (k - 1) (j + 1) g (by omega) (by omega) (Or.inl (by omega))
theorem toi_nI {m : Nat} (h : m < 2 ^ 31) : (nI m).toInt = m := Int32.toInt_ofNat_of_lt h
theorem nI_toi {v : Int32} (h : 0 ≤ v.toInt) : v = nI v.toInt.toNat := by
  have h2 := v.toInt_lt
  refine Int32.toInt_inj.mp ?_
  rw [toi_nI (by omega)]
  omega
theorem neg_toi {v : Int32} (h : -1000000000 < v.toInt) : (-v).toInt = -v.toInt := by
  have h2 := v.toInt_lt
  rw [Int32.toInt_neg]
  exact Int.bmod_eq_of_le (by omega) (by omega)
/-- a number printed -/
theorem m_num {v : Int32} (hv : -10000000 < v.toInt ∧ v.toInt < 10000000) (hl : L.length + 8 < 1200) (h : pu_ σ y G A N t n p w ru τ0 L τ) : ∃ τ', f_X15_printsNumber τ y v = some ((), τ') ∧ pu_ σ y G A N t n p w ru τ0 (L ++ dg9_ v) τ' := by
  have hy := rs_y h.1
  by_cases z : 0 ≤ v
  · have z1 : 0 ≤ v.toInt := Int32.le_iff_toInt_le.mp z
    have z2 : ¬ v < 0 := fun q => by
      have := Int32.lt_iff_toInt_lt.mp q
      simp only [Int32.toInt_zero] at this
      omega
    have e := nI_toi z1
    obtain ⟨m, hm⟩ : ∃ m, m = v.toInt.toNat := ⟨_, rfl⟩
    rw [← hm] at e
    have hm7 : m < 10 ^ 7 := by omega
    have ed : dg9_ v = dn9_ m := by
      unfold dg9_
      rw [if_neg z2, e, nI_clamp (Nat.lt_of_lt_of_le hm7 (by decide))]
    have := m_num17 (τ0 := τ0) hm7 (by omega) h 6 0 fu_ rfl (by decide) (Or.inr rfl)
    unfold f_X15_printsNumber f_X15_printsNumber_b10
    rw [if_pos z, lt_e, if_pos z, ed, e]
    exact this
  · have z1 : v.toInt < 0 := by
      rcases Int.lt_or_le v.toInt 0 with q | q
      · exact q
      · exact absurd (Int32.le_iff_toInt_le.mpr (by simpa using q)) z
    have z2 : v < 0 := Int32.lt_iff_toInt_lt.mpr (by simpa using z1)
    have en := neg_toi (v := v) (by omega)
    have e := nI_toi (v := -v) (by omega)
    obtain ⟨m, hm⟩ : ∃ m, m = (-v).toInt.toNat := ⟨_, rfl⟩
    rw [← hm] at e
    have hm7 : m < 10 ^ 7 := by omega
    have ed : dg9_ v = 45 :: dn9_ m := by
      unfold dg9_
      rw [if_pos z2, e, nI_clamp (Nat.lt_of_lt_of_le hm7 (by decide))]
    obtain ⟨τ1, f1, f2⟩ := m_prints h (by omega) 45
    obtain ⟨τ2, f3, f4⟩ := m_num17 (τ0 := τ0) (τ := τ1) (L := L ++ [45]) hm7 (by rw [List.length_append]; simp only [List.length_cons, List.length_nil]; omega) f2 6 0 fu_ rfl (by decide) (Or.inr rfl)
    refine ⟨τ2, ?_, by rw [ed]; rw [List.append_assoc] at f4; exact f4⟩
    unfold f_X15_printsNumber f_X15_printsNumber_b10
    rw [if_neg z, gt_t hy, show (45 : Int32) = nI 45 from rfl, f1, bd_s, lt_e, if_neg z, Int32.zero_sub, e]
    exact f3
theorem dn_len {m : Nat} (h : m < 10 ^ 7) : (dn9_ m).length ≤ 7 := by
  unfold dn9_
  rw [List.length_map]
  exact Nat.le_trans (List.length_filter_le _ _) (by decide)
theorem dg_len (v : Int32) : (dg9_ v).length ≤ 8 := by
  have h : ∀ m, (dn9_ m).length ≤ 7 := fun m => by
    unfold dn9_
    rw [List.length_map]
    exact Nat.le_trans (List.length_filter_le _ _) (by decide)
  unfold dg9_
  split
  · exact Nat.succ_le_succ (h _)
  · exact Nat.le_succ_of_le (h _)
end RPUT
/-- sums stay small -/
def it9_ (l : List IT) : Prop := ∀ i, i ∈ l → i.2.1 = 1 → i.2.2 < 10000
theorem pT_ok {w : Nat → Nat} {r : Bool} {a tt : Nat} {k : Int32} {x : Nat × Nat × Int32 × Nat × Nat} (h : pT_ w r a tt k = .inr x) : x.2.1 = tt + 1 ∧ x.2.2.2.2 < 10000 := by
  unfold pT_ at h
  have hv := tz_v w a
  split at h
  · split at h
    · cases h
    · split at h
      · cases h
      · cases h
        exact ⟨rfl, hv⟩
  · cases h
theorem pL_ok {w : Nat → Nat} {r : Bool} : ∀ {f a tt : Nat} {k : Int32} {l : List IT} {x : Nat × Nat × Int32 × List IT}, pL_ w r f a tt k l = .inr x → l.length ≤ tt → it9_ l → x.2.2.2.length ≤ x.2.1 ∧ it9_ x.2.2.2
  | 0, _, _, _, _, _, h, _, _ => by cases h
  | f + 1, a, tt, k, l, x, h, h1, h2 => by
    have go : ∀ (sg : Bool), eb_ (pT_ w r (nx9_ w a) tt k) (fun x => pL_ w r f x.1 x.2.1 x.2.2.1 (l ++ [(sg, x.2.2.2)])) = .inr x → x.2.2.2.length ≤ x.2.1 ∧ it9_ x.2.2.2 := fun sg h => by
      cases e : pT_ w r (nx9_ w a) tt k with
      | inl q => rw [e] at h; cases h
      | inr z =>
        rw [e] at h
        obtain ⟨z1, z2⟩ := pT_ok e
        refine pL_ok (f := f) h ?_ (fun i hi => ?_)
        · rw [List.length_append, z1]; exact Nat.succ_le_succ h1
        · rw [List.mem_append] at hi
          rcases hi with q | q
          · exact h2 i q
          · rw [List.mem_singleton] at q
            subst q
            exact fun _ => z2
    unfold pL_ at h
    split at h
    · exact go false h
    · split at h
      · exact go true h
      · cases h; exact ⟨h1, h2⟩
theorem pS_ok {w : Nat → Nat} {r : Bool} {a tt : Nat} {k : Int32} {x : Nat × Nat × Int32 × List IT} (h : pS_ w r a tt k = .inr x) : x.2.2.2.length ≤ x.2.1 ∧ it9_ x.2.2.2 := by
  unfold pS_ at h
  cases e : pT_ w r a tt k with
  | inl q => rw [e] at h; cases h
  | inr z =>
    rw [e] at h
    obtain ⟨z1, z2⟩ := pT_ok e
    refine pL_ok (f := 40) h ?_ (fun i hi => ?_)
    · rw [z1]; exact Nat.succ_le_succ (Nat.zero_le _)
    · rw [List.mem_singleton] at hi
      subst hi
      exact fun _ => z2
def eB_ (E : EV9) : Prop := ∀ c, -20000 ≤ (E.1 c).toInt ∧ (E.1 c).toInt ≤ 20000
theorem add_toi {a b : Int32} (h : -2000000000 < a.toInt + b.toInt ∧ a.toInt + b.toInt < 2000000000) : (a + b).toInt = a.toInt + b.toInt := by
  rw [Int32.toInt_add]
  exact Int.bmod_eq_of_le (by omega) (by omega)
theorem sv_bd {E : EV9} (hB : eB_ E) : ∀ (l : List IT) (s : Int32), it9_ l → l.length ≤ 30 → -20000 * (30 - (l.length : Int)) ≤ s.toInt → s.toInt ≤ 20000 * (30 - (l.length : Int)) → -600000 ≤ (sv9_ E l s).toInt ∧ (sv9_ E l s).toInt ≤ 600000
  | [], s, _, _, h1, h2 => by
    simp only [List.length_nil] at h1 h2
    exact ⟨by show -600000 ≤ s.toInt; omega, by show s.toInt ≤ 600000; omega⟩
  | i :: l, s, hi, hl, h1, h2 => by
    have q1 := hi i List.mem_cons_self
    have q : -20000 ≤ (if i.2.1 = 1 then nI i.2.2 else E.1 i.2.2).toInt ∧ (if i.2.1 = 1 then nI i.2.2 else E.1 i.2.2).toInt ≤ 20000 := by
      by_cases z : i.2.1 = 1
      · rw [if_pos z, toi_nI (Nat.lt_trans (q1 z) (by decide))]
        have := q1 z
        omega
      · rw [if_neg z]; exact hB _
    have q2 : -20000 ≤ (iv9_ E i).toInt ∧ (iv9_ E i).toInt ≤ 20000 := by
      unfold iv9_
      by_cases z : i.1 = true
      · rw [if_pos z, neg_toi (by omega)]; omega
      · rw [if_neg z]; exact q
    simp only [List.length_cons] at h1 h2 hl
    have e : (s + iv9_ E i).toInt = s.toInt + (iv9_ E i).toInt := add_toi (by omega)
    exact sv_bd hB l (s + iv9_ E i) (fun j hj => hi j (List.mem_cons_of_mem _ hj)) (by omega) (by rw [e]; omega) (by rw [e]; omega)
