/-! THE REFERENCE READS: signs, sorts of words, a stop, terms. Written by wip/b/mk85.py. -/
section ISX
variable {τ : TH} {y : Nat} {w : Nat → Nat} {z : TK}
theorem m_is (h : tv9_ τ y w z) (hy : kd_ τ y = 17) (hz : z.2.1 < 2 ^ 31) {c : Nat} {C : Int32} (e : C = nI c) (hc : c < 256) : f_X15_is τ y C = some (bi_ (z.1 = 3 ∧ z.2.1 = c), τ) := by
  subst e
  obtain ⟨-, -, h3⟩ := h
  have no : ¬ z.1 = 3 → ¬ fi_ τ 1633 y = 4 → f_X15_is τ y (nI c) = some (bi_ (z.1 = 3 ∧ z.2.1 = c), τ) := fun n1 n2 => by
    simp [f_X15_is, f_X15_is_b20, f_X15_is_b21, gt_, lt_, nn_, oc_, bd_, hy, n2, bi_, n1]
  rcases h3 with ⟨e1, e2⟩ | ⟨e1, e2⟩ | ⟨e1, e2, -⟩ | ⟨e1, e2, e3⟩ | ⟨e1, e2, -⟩
  · exact no (by omega) (by rw [e2]; decide)
  · exact no (by omega) (by rw [e2]; decide)
  · exact no (by omega) (by rw [e2]; decide)
  · by_cases q : z.2.1 = c
    · simp [f_X15_is, f_X15_is_b20, f_X15_is_b21, gt_, lt_, nn_, oc_, bd_, hy, e2, bi_, e1, e3, q]
    · have q2 : ¬ nI z.2.1 = nI c := fun k => q ((nI_eq hz (by omega)).mp k)
      simp [f_X15_is, f_X15_is_b20, f_X15_is_b21, gt_, lt_, nn_, oc_, bd_, hy, e2, bi_, e3, q, q2]
  · exact no (by omega) (by rw [e2]; decide)
/-- a kind's number -/
theorem m_isFact (h : tv9_ τ y w z) (hy : kd_ τ y = 17) : f_X15_isFact τ y = some (bi_ (z.1 = 4 ∧ z.2.1 < 10), τ) ∧ (z.1 = 4 → z.2.1 < 10 → fi_ τ 1637 y = nI z.2.1) := by
  obtain ⟨-, -, h3⟩ := h
  have no : ¬ z.1 = 4 → ¬ fi_ τ 1633 y = 2 → f_X15_isFact τ y = some (bi_ (z.1 = 4 ∧ z.2.1 < 10), τ) ∧ (z.1 = 4 → z.2.1 < 10 → fi_ τ 1637 y = nI z.2.1) := fun n1 n2 => by
    refine ⟨?_, fun k => absurd k n1⟩
    simp [f_X15_isFact, f_X15_isFact_b31, f_X15_isFact_b32, gt_, lt_, nn_, oc_, bd_, hy, n2, bi_, n1]
  rcases h3 with ⟨e1, e2⟩ | ⟨e1, e2⟩ | ⟨e1, e2, -⟩ | ⟨e1, e2, -⟩ | ⟨e1, e2, p, q, h1, h2, h4, h5, h6, h7⟩
  · exact no (by omega) (by rw [e2]; decide)
  · exact no (by omega) (by rw [e2]; decide)
  · exact no (by omega) (by rw [e2]; decide)
  · exact no (by omega) (by rw [e2]; decide)
  · by_cases zd : tD (w q) = true
    · rw [if_pos zd] at h6
      have h48 : 48 ≤ w q ∧ w q ≤ 57 := by simpa [tD] using zd
      have n1 : ¬ nI (w q - 48) = -1 := nI_n1 (by omega)
      have hlet : ∀ i, p ≤ i → i < p + (q - p) → tL (w i) = true := fun i a b => h4 i a (by omega)
      have heq := pk9x_eq [107] (q - p) (by decide) hlet
      have hlt := pk9x_lt hlet
      have hpw : 32 ^ (q - p) ≤ 32 ^ 8 := Nat.pow_le_pow_right (by decide) (by omega)
      have e7 : z.2.1 = if q = p + 1 ∧ w p = 107 then w q - 48 else 99 := by rw [h7]; unfold wv9_; rw [if_pos zd]
      have hcmp : lg_cmp (fl_ τ 1646 y) 11 = 0 ↔ q = p + 1 ∧ w p = 107 := by
        rw [lgc_0, h5, show (11 : Int64) = lN (rv9_ [107]) from rfl, pk_lEQ (Nat.lt_of_lt_of_le hlt (Nat.le_trans hpw (by decide))) (by decide), heq]
        simp only [sr9_, List.length_cons, List.length_nil, Bool.and_true, decide_eq_true_eq, Nat.add_zero, Nat.zero_add]
        constructor
        · intro ⟨a, b⟩; exact ⟨by omega, b⟩
        · intro ⟨a, b⟩; exact ⟨by omega, b⟩
      by_cases zc : q = p + 1 ∧ w p = 107
      · rw [if_pos zc] at e7
        have e8 : z.2.1 < 10 := by omega
        refine ⟨?_, fun _ _ => by rw [h6, e7]⟩
        simp [f_X15_isFact, f_X15_isFact_b31, f_X15_isFact_b32, gt_, lt_, nn_, oc_, bd_, hy, e2, h6, n1, hcmp.mpr zc, bi_, e1, e8]
      · rw [if_neg zc] at e7
        have e8 : ¬ z.2.1 < 10 := by omega
        have this : ¬ lg_cmp (fl_ τ 1646 y) 11 = 0 := fun q => zc (hcmp.mp q)
        refine ⟨?_, fun _ k => absurd k e8⟩
        simp [f_X15_isFact, f_X15_isFact_b31, f_X15_isFact_b32, gt_, lt_, nn_, oc_, bd_, hy, e2, h6, n1, this, bi_, e8]
    · rw [if_neg zd] at h6
      have e7 : z.2.1 = wc9_ w p (q - p) := by
        rw [h7]; unfold wv9_; rw [if_neg zd]
      have e8 : ¬ z.2.1 < 10 := by
        rw [e7]
        unfold wc9_
        repeat' split
        all_goals decide
      refine ⟨?_, fun _ k => absurd k e8⟩
      simp [f_X15_isFact, f_X15_isFact_b31, f_X15_isFact_b32, gt_, lt_, nn_, oc_, bd_, hy, e2, h6, bi_, e8]
theorem m_isKept (h : tv9_ τ y w z) (hy : kd_ τ y = 17) : f_X15_isKept τ y = some (bi_ (z.1 = 4 ∧ 21 ≤ z.2.1 ∧ z.2.1 ≤ 27), τ) := by
  unfold f_X15_isKept
  rw [gt_t hy, m_w_if h hy, bd_s]
  by_cases q : z.1 = 4
  · by_cases c1 : z.2.1 = 21
    · rw [bi_t ⟨q, c1⟩, if_neg (by decide), bi_t ⟨q, by omega, by omega⟩]; rfl
    rw [bi_f (fun k => c1 k.2), if_pos rfl, m_w_and h hy, bd_s]
    by_cases c2 : z.2.1 = 22
    · rw [bi_t ⟨q, c2⟩, if_neg (by decide), bi_t ⟨q, by omega, by omega⟩]; rfl
    rw [bi_f (fun k => c2 k.2), if_pos rfl, m_w_or h hy, bd_s]
    by_cases c3 : z.2.1 = 23
    · rw [bi_t ⟨q, c3⟩, if_neg (by decide), bi_t ⟨q, by omega, by omega⟩]; rfl
    rw [bi_f (fun k => c3 k.2), if_pos rfl, m_w_not h hy, bd_s]
    by_cases c4 : z.2.1 = 24
    · rw [bi_t ⟨q, c4⟩, if_neg (by decide), bi_t ⟨q, by omega, by omega⟩]; rfl
    rw [bi_f (fun k => c4 k.2), if_pos rfl, m_w_has h hy, bd_s]
    by_cases c5 : z.2.1 = 25
    · rw [bi_t ⟨q, c5⟩, if_neg (by decide), bi_t ⟨q, by omega, by omega⟩]; rfl
    rw [bi_f (fun k => c5 k.2), if_pos rfl, m_w_stale h hy, bd_s]
    by_cases c6 : z.2.1 = 26
    · rw [bi_t ⟨q, c6⟩, if_neg (by decide), bi_t ⟨q, by omega, by omega⟩]; rfl
    rw [bi_f (fun k => c6 k.2), if_pos rfl, m_w_dead h hy, bd_s]
    by_cases c7 : z.2.1 = 27
    · rw [bi_t ⟨q, c7⟩, if_neg (by decide), bi_t ⟨q, by omega, by omega⟩]; rfl
    rw [bi_f (fun k => c7 k.2), if_pos rfl, bi_f (fun k => by omega)]; rfl
  · simp only [bi_f (fun (k : z.1 = 4 ∧ z.2.1 = 21) => q k.1), bi_f (fun (k : z.1 = 4 ∧ 21 ≤ z.2.1 ∧ z.2.1 ≤ 27) => q k.1), m_w_and h hy, m_w_or h hy, m_w_not h hy, m_w_has h hy, m_w_stale h hy, m_w_dead h hy, bd_s, if_pos, bi_f (fun (k : z.1 = 4 ∧ z.2.1 = 22) => q k.1), bi_f (fun (k : z.1 = 4 ∧ z.2.1 = 23) => q k.1), bi_f (fun (k : z.1 = 4 ∧ z.2.1 = 24) => q k.1), bi_f (fun (k : z.1 = 4 ∧ z.2.1 = 25) => q k.1), bi_f (fun (k : z.1 = 4 ∧ z.2.1 = 26) => q k.1), bi_f (fun (k : z.1 = 4 ∧ z.2.1 = 27) => q k.1)]
    rfl
theorem m_isName (h : tv9_ τ y w z) (hy : kd_ τ y = 17) (q : z.1 = 4) : f_X15_isName τ y = some (bi_ (nm9_ false z.2.1 = true), τ) := by
  have e : nm9_ false z.2.1 = decide (z.2.1 ≤ 13) := rfl
  rw [e]
  unfold f_X15_isName
  rw [gt_t hy, (m_isFact h hy).1, bd_s]
  by_cases c1 : z.2.1 < 10
  · rw [bi_t ⟨q, c1⟩, if_neg (by decide), bi_t (decide_eq_true (by omega))]; rfl
  rw [bi_f (fun k => c1 k.2), if_pos rfl, m_w_age h hy, bd_s]
  by_cases c2 : z.2.1 = 10
  · rw [bi_t ⟨q, c2⟩, if_neg (by decide), bi_t (decide_eq_true (by omega))]; rfl
  rw [bi_f (fun k => c2 k.2), if_pos rfl, m_w_born h hy, bd_s]
  by_cases c3 : z.2.1 = 11
  · rw [bi_t ⟨q, c3⟩, if_neg (by decide), bi_t (decide_eq_true (by omega))]; rfl
  rw [bi_f (fun k => c3 k.2), if_pos rfl, m_w_year h hy, bd_s]
  by_cases c4 : z.2.1 = 12
  · rw [bi_t ⟨q, c4⟩, if_neg (by decide), bi_t (decide_eq_true (by omega))]; rfl
  rw [bi_f (fun k => c4 k.2), if_pos rfl, m_w_worth h hy, bd_s]
  by_cases c5 : z.2.1 = 13
  · rw [bi_t ⟨q, c5⟩, if_neg (by decide), bi_t (decide_eq_true (by omega))]; rfl
  rw [bi_f (fun k => c5 k.2), if_pos rfl, bi_f (fun k => by have := of_decide_eq_true k; omega)]; rfl
theorem m_src (h : tv9_ τ y w z) (hy : kd_ τ y = 17) (q : z.1 = 4) : f_X15_sourceHere τ y = some ((if 14 ≤ z.2.1 ∧ z.2.1 ≤ 18 then nI (z.2.1 - 14) else -1), τ) := by
  unfold f_X15_sourceHere
  rw [gt_t hy]
  rw [m_w_kin h hy, bd_s]
  by_cases c0 : z.2.1 = 14
  · rw [bi_t ⟨q, c0⟩, if_neg (by decide), if_pos (by omega), c0]; rfl
  rw [bi_f (fun k => c0 k.2), if_pos rfl]
  rw [m_w_doctor h hy, bd_s]
  by_cases c1 : z.2.1 = 15
  · rw [bi_t ⟨q, c1⟩, if_neg (by decide), if_pos (by omega), c1]; rfl
  rw [bi_f (fun k => c1 k.2), if_pos rfl]
  rw [m_w_office h hy, bd_s]
  by_cases c2 : z.2.1 = 16
  · rw [bi_t ⟨q, c2⟩, if_neg (by decide), if_pos (by omega), c2]; rfl
  rw [bi_f (fun k => c2 k.2), if_pos rfl]
  rw [m_w_agency h hy, bd_s]
  by_cases c3 : z.2.1 = 17
  · rw [bi_t ⟨q, c3⟩, if_neg (by decide), if_pos (by omega), c3]; rfl
  rw [bi_f (fun k => c3 k.2), if_pos rfl]
  rw [m_w_rival h hy, bd_s]
  by_cases c4 : z.2.1 = 18
  · rw [bi_t ⟨q, c4⟩, if_neg (by decide), if_pos (by omega), c4]; rfl
  rw [bi_f (fun k => c4 k.2), if_pos rfl, if_neg (by omega)]; rfl
theorem m_isRuleName (h : tv9_ τ y w z) (hy : kd_ τ y = 17) (q : z.1 = 4) : f_X15_isRuleName τ y = some (bi_ (nm9_ true z.2.1 = true), τ) := by
  have e : nm9_ true z.2.1 = (decide (z.2.1 = 10) || (decide (13 ≤ z.2.1) && decide (z.2.1 ≤ 20))) := rfl
  have e2 : (nm9_ true z.2.1 = true) = (z.2.1 = 10 ∨ (13 ≤ z.2.1 ∧ z.2.1 ≤ 20)) := by rw [e]; simp
  simp only [e2]
  unfold f_X15_isRuleName
  rw [gt_t hy, m_src h hy q, bd_s]
  by_cases c0 : 14 ≤ z.2.1 ∧ z.2.1 ≤ 18
  · rw [if_pos c0, if_neg (nI_n1 (by omega)), bi_t (by omega)]; rfl
  rw [if_neg c0, if_pos rfl]
  rw [m_w_sources h hy, bd_s]
  by_cases d0 : z.2.1 = 19
  · rw [bi_t ⟨q, d0⟩, if_neg (by decide), bi_t (by omega)]; rfl
  rw [bi_f (fun k => d0 k.2), if_pos rfl]
  rw [m_w_hours h hy, bd_s]
  by_cases d1 : z.2.1 = 20
  · rw [bi_t ⟨q, d1⟩, if_neg (by decide), bi_t (by omega)]; rfl
  rw [bi_f (fun k => d1 k.2), if_pos rfl]
  rw [m_w_age h hy, bd_s]
  by_cases d2 : z.2.1 = 10
  · rw [bi_t ⟨q, d2⟩, if_neg (by decide), bi_t (by omega)]; rfl
  rw [bi_f (fun k => d2 k.2), if_pos rfl]
  rw [m_w_worth h hy, bd_s]
  by_cases d3 : z.2.1 = 13
  · rw [bi_t ⟨q, d3⟩, if_neg (by decide), bi_t (by omega)]; rfl
  rw [bi_f (fun k => d3 k.2), if_pos rfl, bi_f (by omega)]; rfl
end ISX
/-- a stop's two numbers -/
theorem mr_st {τ : TH} {y : Nat} {G : GH} {A : AS} {N : Nat → Nat} (h : mr_ τ y G A N) {c a : Nat} (hc : 1500 ≤ c ∧ c < 1600) (v : Int32) : mr_ (si_ τ c a v) y G A N := by
  have e : as_ (si_ τ c a v) y G = as_ τ y G := by
    have e1 : (fun q => fi_ (si_ τ c a v) (1600 + q) y) = fun q => fi_ τ (1600 + q) y := funext fun q => by rw [fi_si, up2_c (by omega)]
    have e2 : (fun c' k => if c' < 1500 ∧ k < gc_ G 100 then fi_ (si_ τ c a v) c' (ga_ G 100 k) else 0) = fun c' k => if c' < 1500 ∧ k < gc_ G 100 then fi_ τ c' (ga_ G 100 k) else 0 := funext fun c' => funext fun k => by
      by_cases z : c' < 1500 ∧ k < gc_ G 100
      · rw [if_pos z, if_pos z, fi_si, up2_c (by omega)]
      · rw [if_neg z, if_neg z]
    have e3 : (fun c' k => if c' < 1400 ∧ k < gc_ G 104 then fi_ (si_ τ c a v) c' (ga_ G 104 k) else 0) = fun c' k => if c' < 1400 ∧ k < gc_ G 104 then fi_ τ c' (ga_ G 104 k) else 0 := funext fun c' => funext fun k => by
      by_cases z : c' < 1400 ∧ k < gc_ G 104
      · rw [if_pos z, if_pos z, fi_si, up2_c (by omega)]
      · rw [if_neg z, if_neg z]
    unfold as_
    rw [e1, e2, e3]
    rfl
  refine ⟨⟨h.1.1, h.1.2.1, h.1.2.2.1, fun j hj => ?_⟩, ?_, ?_⟩
  · rw [fi_si, up2_c (by omega)]; exact h.1.2.2.2 j hj
  · rw [e]; exact h.2.1
  · rw [e]; exact h.2.2
section RT
variable {σ τ : TH} {y : Nat} {G : GH} {A : AS} {N : Nat → Nat} {t n p : Nat} {w : Nat → Nat} {ru : Int32}
theorem rs_st (h : rs_ σ y G A N t n p w ru τ) {c : Nat} (hc : 1500 ≤ c ∧ c < 1600) (v : Int32) : rs_ σ y G A N t n p w ru (si_ τ c (ga_ G 25 0) v) := by
  obtain ⟨h1, h2, h3, h4, h5, ⟨h6, h7, h8, h9⟩, h10⟩ := h
  refine ⟨mr_st h1 hc v, fqi h2 (Or.inr (Or.inr rfl)), h3, h4, h5, ⟨?_, ?_, ?_, ?_⟩, fun i hi => ?_⟩
  · rw [fi_si, up2_c (by omega)]; exact h6
  · rw [fi_si, up2_c (by omega)]; exact h7
  · rw [fi_si, up2_c (by omega)]; exact h8
  · rw [fi_si, up2_c (by omega)]; exact h9
  · rw [fi_si, up2_c (by omega)]; exact h10 i hi
/-- stopped -/
def rz_ (σ : TH) (y : Nat) (G : GH) (A : AS) (N : Nat → Nat) (t n p : Nat) (w : Nat → Nat) (ru : Int32) (e : FT) (τ : TH) : Prop := rs_ σ y G A N t n p w ru τ ∧ kd_ τ (ga_ G 25 0) = 16 ∧ fi_ τ 1506 (ga_ G 25 0) = nI e.1 ∧ fi_ τ 1507 (ga_ G 25 0) = nI e.2
theorem m_stop (h : rs_ σ y G A N t n p w ru τ) (a b : Nat) : ∃ τ', f_X15_stop τ y (nI a) (nI b) = some (some (ga_ G 25 0), τ') ∧ rz_ σ y G A N t n p w ru (a, b) τ' := by
  have hy := rs_y h
  have h25 := h.1.1.2.2.1 25 (by decide)
  have f25 : fr_ τ 1625 y = some (ga_ G 25 0) := h25.2
  have k25 : kd_ τ (ga_ G 25 0) = 16 := (h.1.1.1.2 25 0 (by rw [h25.1]; decide)).1
  refine ⟨si_ (si_ τ 1506 (ga_ G 25 0) (nI a)) 1507 (ga_ G 25 0) (nI b), ?_, rs_st (rs_st h (by decide) _) (by decide) _, k25, ?_, ?_⟩
  · simp [f_X15_stop, gt_, lt_, nn_, oc_, bd_, kd_si, ln_si, fi_si, fr_si, fl_si, ai_si, ar_si, al_si, ow_si, nx_si, sl_si, kd_sr, ln_sr, fi_sr, fr_sr, fl_sr, ai_sr, ar_sr, al_sr, ow_sr, nx_sr, sl_sr, kd_so, ln_so, fi_so, fr_so, fl_so, ai_so, ar_so, al_so, ow_so, nx_so, sl_so, kd_sa, ln_sa, fi_sa, fr_sa, fl_sa, ai_sa, ar_sa, al_sa, ow_sa, nx_sa, sl_sa, kd_sq, ln_sq, fi_sq, fr_sq, fl_sq, ai_sq, ar_sq, al_sq, ow_sq, nx_sq, sl_sq, kd_sj, ln_sj, fi_sj, fr_sj, fl_sj, ai_sj, ar_sj, al_sj, ow_sj, nx_sj, sl_sj, hy, f25, k25]
  · rw [fi_si, up2_c (by decide), fi_si, up2_s]
  · rw [fi_si, up2_s]
end RT
