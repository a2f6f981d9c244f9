/-! THE REFERENCE READS: bytes, tokens. Written by wip/b/mk81.py. -/
def cb9_ (c : Nat) : Int32 := if c = 999 then -1 else nI c
def ok9_ (c : Nat) : Prop := c < 256 ∨ c = 999
theorem cb9_eq {c : Nat} (h : ok9_ c) {d : Nat} (hd : d < 256) {D : Int32} (e : D = nI d) : cb9_ c = D ↔ c = d := by
  subst e
  unfold cb9_
  rcases h with h | h
  · rw [if_neg (by omega)]
    exact nI_eq (by omega) (by omega)
  · subst h
    rw [if_pos rfl]
    constructor
    · intro z
      exact absurd z.symm (nI_n1 (by omega))
    · intro z; omega
theorem cb9_m1 {c : Nat} (h : ok9_ c) : cb9_ c = -1 ↔ c = 999 := by
  unfold cb9_
  rcases h with h | h
  · rw [if_neg (by omega)]
    exact ⟨fun z => absurd z (nI_n1 (by omega)), fun z => by omega⟩
  · rw [if_pos h]; exact ⟨fun _ => h, fun _ => rfl⟩
theorem m_let (σ : TH) {c : Nat} (h : ok9_ c) : f_X15_isLetter σ (cb9_ c) = some (bi_ (tL c = true), σ) := by
  rcases h with h | h
  · have e : cb9_ c = nI c := if_neg (by omega)
    by_cases z1 : c < 97
    · have y1 : nI c < 97 := nI_c (k := 97) rfl z1 (by decide)
      simp [f_X15_isLetter, f_X15_isLetter_b16, f_X15_isLetter_b17, gt_, e, y1, bi_, tL]
      omega
    · have y1 : ¬ nI c < 97 := nI_nlt (b := 97) (by omega) (by omega)
      by_cases z2 : 122 < c
      · have y2 : (122 : Int32) < nI c := nI_lt (a := 122) z2 (by omega)
        simp [f_X15_isLetter, f_X15_isLetter_b16, f_X15_isLetter_b17, gt_, e, y1, y2, bi_, tL]
        omega
      · have y2 : ¬ (122 : Int32) < nI c := nI_nlt (a := 122) (by omega) (by decide)
        simp [f_X15_isLetter, f_X15_isLetter_b16, f_X15_isLetter_b17, gt_, e, y1, y2, bi_, tL]
        omega
  · subst h
    rfl
theorem m_dig (σ : TH) {c : Nat} (h : ok9_ c) : f_X15_isDigit σ (cb9_ c) = some (bi_ (tD c = true), σ) := by
  rcases h with h | h
  · have e : cb9_ c = nI c := if_neg (by omega)
    by_cases z1 : c < 48
    · have y1 : nI c < 48 := nI_c (k := 48) rfl z1 (by decide)
      simp [f_X15_isDigit, f_X15_isDigit_b16, f_X15_isDigit_b17, gt_, e, y1, bi_, tD]
      omega
    · have y1 : ¬ nI c < 48 := nI_nlt (b := 48) (by omega) (by omega)
      by_cases z2 : 57 < c
      · have y2 : (57 : Int32) < nI c := nI_lt (a := 57) z2 (by omega)
        simp [f_X15_isDigit, f_X15_isDigit_b16, f_X15_isDigit_b17, gt_, e, y1, y2, bi_, tD]
        omega
      · have y2 : ¬ (57 : Int32) < nI c := nI_nlt (a := 57) (by omega) (by decide)
        simp [f_X15_isDigit, f_X15_isDigit_b16, f_X15_isDigit_b17, gt_, e, y1, y2, bi_, tD]
        omega
  · subst h
    rfl
theorem m_mark (σ : TH) {c : Nat} (h : ok9_ c) : f_X15_isMark σ (cb9_ c) = some (bi_ (tM c = true), σ) := by
  have q := fun (d : Nat) (D : Int32) (hd : d < 256) (e : D = nI d) => cb9_eq h hd e
  simp only [f_X15_isMark, f_X15_isMark_b60, f_X15_isMark_b65, gt_, q 60 60 (by decide) rfl, q 62 62 (by decide) rfl, q 61 61 (by decide) rfl, q 43 43 (by decide) rfl, q 45 45 (by decide) rfl, q 40 40 (by decide) rfl, q 41 41 (by decide) rfl, q 58 58 (by decide) rfl, q 123 123 (by decide) rfl, q 125 125 (by decide) rfl, bi_, tM]
  by_cases h1 : c = 60 <;> by_cases h2 : c = 62 <;> by_cases h3 : c = 61 <;> by_cases h4 : c = 43 <;> by_cases h5 : c = 45 <;> by_cases h6 : c = 40 <;> by_cases h7 : c = 41 <;> by_cases h8 : c = 58 <;> by_cases h9 : c = 123 <;> by_cases h10 : c = 125 <;> first | omega | simp [h1, h2, h3, h4, h5, h6, h7, h8, h9, h10]
theorem m_pla (σ : TH) {c : Nat} (h : ok9_ c) : f_X15_isPlain σ (cb9_ c) = some (bi_ (tP c = true), σ) := by
  rcases id h with h9 | h9
  · have e : cb9_ c = nI c := if_neg (by omega)
    have q := fun (d : Nat) (D : Int32) (hd : d < 256) (e : D = nI d) => cb9_eq h hd e
    have q1 := q 123 123 (by decide) rfl
    have q2 := q 125 125 (by decide) rfl
    have q3 := q 124 124 (by decide) rfl
    rw [e] at q1 q2 q3 ⊢
    by_cases z1 : c < 32
    · have y1 : nI c < 32 := nI_c (k := 32) rfl z1 (by decide)
      simp [f_X15_isPlain, f_X15_isPlain_b34, f_X15_isPlain_b35, gt_, y1, bi_, tP]
      omega
    · have y1 : ¬ nI c < 32 := nI_nlt (b := 32) (by omega) (by omega)
      by_cases z2 : 126 < c
      · have y2 : (126 : Int32) < nI c := nI_lt (a := 126) z2 (by omega)
        simp [f_X15_isPlain, f_X15_isPlain_b34, f_X15_isPlain_b35, gt_, y1, y2, bi_, tP]
        omega
      · have y2 : ¬ (126 : Int32) < nI c := nI_nlt (a := 126) (by omega) (by decide)
        by_cases w1 : c = 123
        · simp [f_X15_isPlain, f_X15_isPlain_b34, f_X15_isPlain_b35, gt_, y1, y2, q1.mpr w1, bi_, tP, w1]
          simp [w1] at y1 y2 ⊢
          simp [y1, y2, show nI 123 = 123 from rfl]
        · by_cases w2 : c = 125
          · subst w2
            simp [f_X15_isPlain, f_X15_isPlain_b34, f_X15_isPlain_b35, gt_, y1, y2, bi_, tP, show nI 125 = 125 from rfl]
          · by_cases w3 : c = 124
            · subst w3
              simp [f_X15_isPlain, f_X15_isPlain_b34, f_X15_isPlain_b35, gt_, y1, y2, bi_, tP, show nI 124 = 124 from rfl]
            · simp [f_X15_isPlain, f_X15_isPlain_b34, f_X15_isPlain_b35, gt_, y1, y2, q1, q2, q3, w1, w2, w3, bi_, tP]
              omega
  · subst h9
    rfl
/-- runs end -/
theorem en9_ge (q : Nat → Bool) (w : Nat → Nat) : ∀ f a, a ≤ en9_ q w f a
  | 0, a => Nat.le_refl _
  | f + 1, a => by
    unfold en9_
    split
    · exact Nat.le_of_succ_le (en9_ge q w f (a + 1))
    · exact Nat.le_refl _
theorem en9_in {q : Nat → Bool} {w : Nat → Nat} : ∀ {f a i}, a ≤ i → i < en9_ q w f a → q (w i) = true
  | 0, a, i, h1, h2 => by unfold en9_ at h2; omega
  | f + 1, a, i, h1, h2 => by
    unfold en9_ at h2
    by_cases z : q (w a) = true
    · rw [if_pos z] at h2
      by_cases e : i = a
      · rw [e]; exact z
      · exact en9_in (by omega) h2
    · rw [if_neg z] at h2; omega
theorem en9_end {q : Nat → Bool} {w : Nat → Nat} {n : Nat} (h9 : q 999 = false) (hw : ∀ k, n ≤ k → w k = 999) : ∀ {f a}, n < f + a → q (w (en9_ q w f a)) = false
  | 0, a, h => by
    unfold en9_
    rw [hw a (by omega)]; exact h9
  | f + 1, a, h => by
    unfold en9_
    by_cases z : q (w a) = true
    · rw [if_pos z]; exact en9_end h9 hw (by omega)
    · rw [if_neg z]; simpa using z
theorem en9_le {q : Nat → Bool} {w : Nat → Nat} {n : Nat} (h9 : q 999 = false) (hw : ∀ k, n ≤ k → w k = 999) {f a : Nat} (ha : a ≤ n) : en9_ q w f a ≤ n := by
  rcases Nat.lt_or_ge n (en9_ q w f a) with h | h
  · have := en9_in (q := q) (w := w) (f := f) (a := a) (i := n) ha h
    rw [hw n (Nat.le_refl _), h9] at this
    cases this
  · exact h
theorem en9_nx {q : Nat → Bool} {w : Nat → Nat} {f a : Nat} (h : q (w a) = true) : en9_ q w (f + 1) a = en9_ q w f (a + 1) := by
  conv => lhs; unfold en9_
  rw [if_pos h]
theorem en9_st {q : Nat → Bool} {w : Nat → Nat} {f a : Nat} (h : q (w a) = false) : en9_ q w f a = a := by
  cases f with
  | zero => rfl
  | succ f => unfold en9_; rw [if_neg (by rw [h]; decide)]
/-- more fuel, same end -/
theorem en9_fu {q : Nat → Bool} {w : Nat → Nat} {n : Nat} (h9 : q 999 = false) (hw : ∀ k, n ≤ k → w k = 999) : ∀ {f g a}, n < f + a → n < g + a → en9_ q w f a = en9_ q w g a
  | 0, g, a, h1, _ => by rw [en9_st (f := g) (a := a) (by rw [hw a (by omega)]; exact h9)]; rfl
  | f + 1, 0, a, _, h2 => en9_st (by rw [hw a (by omega)]; exact h9)
  | f + 1, g + 1, a, h1, h2 => by
    unfold en9_
    by_cases z : q (w a) = true
    · rw [if_pos z, if_pos z]; exact en9_fu h9 hw (by omega) (by omega)
    · rw [if_neg z, if_neg z]
/-- THE REFERENCE WHILE READING: t its bytes (n of them, w), p of whom -/
def rU_ (y : Nat) (G : GH) : Nat → Prop := fun q => q = y ∨ q = ga_ G 27 0 ∨ q = ga_ G 25 0
def rs_ (σ : TH) (y : Nat) (G : GH) (A : AS) (N : Nat → Nat) (t n p : Nat) (w : Nat → Nat) (ru : Int32) (τ : TH) : Prop := mr_ τ y G A N ∧ fq_ (rU_ y G) σ τ ∧ (nx_ τ = nx_ σ ∧ sl_ τ = sl_ σ) ∧ (fr_ τ 1629 y = some t ∧ kd_ τ t = 21 ∧ n ≤ ln_ τ t ∧ t ≠ ga_ G 27 0) ∧ ((∀ k, k < n → ai_ τ t k &&& 255 = nI (w k) ∧ w k < 256) ∧ (∀ k, n ≤ k → w k = 999) ∧ n ≤ 400) ∧ (fi_ τ 1631 y = nI n ∧ fi_ τ 1643 y = nI p ∧ fi_ τ 1644 y = nI (td_ N) ∧ fi_ τ 1645 y = ru) ∧ ∀ j, j ∈ DS → fi_ τ (1600 + j) y = fi_ σ (1600 + j) y
section RS
variable {σ τ : TH} {y : Nat} {G : GH} {A : AS} {N : Nat → Nat} {t n p : Nat} {w : Nat → Nat} {ru : Int32}
def RJ : List Nat := [32, 33, 34, 35, 36, 37, 38, 39, 40, 41]
theorem rs_y (h : rs_ σ y G A N t n p w ru τ) : kd_ τ y = 17 := mo_y h.1.1
theorem rs_ok (h : rs_ σ y G A N t n p w ru τ) (k : Nat) : ok9_ (w k) := by
  by_cases z : k < n
  · exact Or.inl (h.2.2.2.2.1.1 k z).2
  · exact Or.inr (h.2.2.2.2.1.2.1 k (by omega))
theorem rs_si (h : rs_ σ y G A N t n p w ru τ) {j c : Nat} (hj : j ∈ RJ) (hc : 1600 + j = c) (v : Int32) : rs_ σ y G A N t n p w ru (si_ τ c y v) := by
  obtain ⟨h1, h2, h3, h4, h5, ⟨h6, h7, h8, h9⟩, h10⟩ := h
  have q : ∀ j, j ∈ RJ → j ∉ MN ∧ ¬ j ∈ DS ∧ j ≠ 31 ∧ j ≠ 43 ∧ j ≠ 44 ∧ j ≠ 45 := by decide
  obtain ⟨q1, q2, q3, q4, q5, q6⟩ := q j hj
  refine ⟨mr_si h1 ⟨hc, q1⟩ v, fqi h2 (Or.inl rfl), h3, h4, h5, ⟨?_, ?_, ?_, ?_⟩, fun i hi => ?_⟩
  · rw [fi_si, up2_c (by omega)]; exact h6
  · rw [fi_si, up2_c (by omega)]; exact h7
  · rw [fi_si, up2_c (by omega)]; exact h8
  · rw [fi_si, up2_c (by omega)]; exact h9
  · have : i ≠ j := fun z => q2 (z ▸ hi)
    rw [fi_si, up2_c (by omega)]; exact h10 i hi
theorem rs_so (h : rs_ σ y G A N t n p w ru τ) (v : Int64) : rs_ σ y G A N t n p w ru (so_ τ 1646 y v) := ⟨mr_so h.1 _ _ _, fqo h.2.1 (Or.inl rfl), h.2.2⟩
theorem rs_sc (h : rs_ σ y G A N t n p w ru τ) (i : Nat) (v : Int32) : rs_ σ y G A N t n p w ru (sa_ τ (ga_ G 27 0) i v) := by
  obtain ⟨h1, h2, h3, h4, ⟨h5, h5b⟩, h6⟩ := h
  refine ⟨mr_sx h1 (by decide) i v, fqa h2 (Or.inr (Or.inl rfl)), h3, h4, ⟨fun k hk => ?_, h5b⟩, h6⟩
  rw [ai_sa, up2_row h4.2.2.2]
  exact h5 k hk
theorem m_byte (h : rs_ σ y G A N t n p w ru τ) {a : Nat} (ha : a < 2 ^ 30) : f_X15_byteAt τ y (nI a) = some (cb9_ (w a), τ) := by
  have hy := rs_y h
  obtain ⟨h1, h2, h3, ⟨h4, h4b, h4c, h4d⟩, ⟨h5, h5b, h5c⟩, ⟨h6, -⟩, -⟩ := h
  by_cases z : a < n
  · obtain ⟨z1, z2⟩ := h5 a z
    have g1 : ¬ nI a < 0 := nI_pos (by omega)
    have g2 : ¬ nI n ≤ nI a := nI_ge z (by omega)
    have g3 : (nI a).toNatClampNeg = a := nI_clamp (by omega)
    have g4 : ¬ ln_ τ t ≤ a := by omega
    have e : cb9_ (w a) = nI (w a) := if_neg (by omega)
    simp [f_X15_byteAt, f_X15_byteAt_b22, gt_, lt_, nn_, oc_, bd_, hy, h6, g2, h4, h4b, g1, g3, g4, z1, e]
  · have g2 : nI n ≤ nI a := nI_le (by omega) (by omega)
    have e : cb9_ (w a) = -1 := if_pos (h5b a (by omega))
    simp [f_X15_byteAt, f_X15_byteAt_b22, gt_, lt_, nn_, oc_, bd_, hy, h6, g2, e]
end RS
