/-! THE CLASS'S PRINTER ON THE HEAP. Written by wip/b/mk99z3.py. -/
def bb9_ (b : Bool) : Int32 := if b = true then 1 else 0
theorem bb9_01 (b : Bool) : bb9_ b = 0 ∨ bb9_ b = 1 := by cases b <;> decide
theorem bb9_0 (b : Bool) : bb9_ b = 0 ↔ b = false := by cases b <;> decide
def hP_ (σ : TH) (R P B : Nat) : Prop := kd_ σ R = 6 ∧ (fr_ σ 500 R = some P ∧ fr_ σ 501 R = some B) ∧ (kd_ σ P = 20 ∧ ln_ σ P = 21) ∧ (kd_ σ B = 21 ∧ ln_ σ B = 1024)
/-- L is printed -/
def PU_ (keep : Bool) (X0 : Nat → Int32) (L : List Nat) (F X : Nat → Int32) : Prop := F 505 = nI L.length ∧ F 506 = bb9_ keep ∧ (keep = true → ∀ i, i < L.length → i < 1024 → X i = by9_ (L.getD i 0)) ∧ (keep = false → X = X0)
theorem gn_app {l : List Nat} {x d : Nat} {i : Nat} (h : i < l.length) : (l ++ [x]).getD i d = l.getD i d := by
  simp [List.getD, List.getElem?_append, h]
theorem gn_last {l : List Nat} {x d : Nat} : (l ++ [x]).getD l.length d = x := by
  simp [List.getD]
theorem ln_apn {l : List Nat} {x : Nat} : (l ++ [x]).length = l.length + 1 := by simp
section PH
variable {σ : TH} {R P B : Nat} {F X Y X0 : Nat → Int32} {keep : Bool} {L : List Nat}
theorem hP_ne (h : hP_ σ R P B) : P ≠ B := fun e => by
  have h1 := h.2.2.1.1
  rw [e, h.2.2.2.1] at h1
  cases h1
theorem k6 (h : hP_ σ R P B) : kd_ (kh_ σ R B P F X Y) R = 6 := h.1
theorem k_put28 (hP : hP_ σ R P B) {k : Nat} (e : F 505 = nI k) : f_X4_put_b28 (kh_ σ R B P F X Y) R = some ((), kh_ σ R B P (upd F 505 (nI (k + 1))) X Y) := by
  unfold f_X4_put_b28
  rw [gt_t (k6 hP), lt_e, kh_fi, e, nI_1, lt_e, kh_si]
theorem k_put (hP : hP_ σ R P B) (h : PU_ keep X0 L F X) (hL : L.length < 2 ^ 30) {v : Int32} {c : Nat} (hv : v = nI c) : ∃ F' X', f_X4_put (kh_ σ R B P F X Y) R v = some ((), kh_ σ R B P F' X' Y) ∧ PU_ keep X0 (L ++ [c]) F' X' ∧ ∀ d, d ≠ 505 → F' d = F d := by
  obtain ⟨h1, h2, h3, h4⟩ := h
  subst hv
  unfold f_X4_put
  rw [gt_t (k6 hP), lt_e, kh_fi, h2]
  have l1 : nI (L.length + 1) = nI (L ++ [c]).length := by rw [ln_apn]
  cases keep with
  | false =>
    rw [if_pos (show bb9_ false = 0 from rfl), k_put28 hP h1]
    exact ⟨_, _, rfl, ⟨l1, h2, fun q => (by cases q), h4⟩, fun d hd => if_neg hd⟩
  | true =>
    rw [if_neg (show ¬ bb9_ true = 0 by decide), lt_e, kh_fi, h1]
    by_cases z : 1024 ≤ L.length
    · rw [if_pos (show (1024 : Int32) ≤ nI L.length from nI_le (a := 1024) z (by omega)), k_put28 hP h1]
      refine ⟨_, _, rfl, ⟨l1, h2, fun _ i hi hi2 => ?_, fun q => by cases q⟩, fun d hd => if_neg hd⟩
      rw [ln_apn] at hi
      rw [gn_app (by omega)]
      exact h3 rfl i (by omega) hi2
    · have s1 : fr_ (kh_ σ R B P F X Y) 501 R = some B := hP.2.1.2
      have s2 : kd_ (kh_ σ R B P F X Y) B = 21 := hP.2.2.2.1
      have s3 : ln_ (kh_ σ R B P F X Y) B = 1024 := hP.2.2.2.2
      have q2 : ¬ nI L.length < 0 := nI_pos (by omega)
      rw [if_neg (show ¬ (1024 : Int32) ≤ nI L.length from nI_ge (b := 1024) (by omega) (by decide)), lt_e, s1, lt_e, nn_s, gt_t s2, s3, nI_clamp (by omega), gt_t (ix9_ (k := L.length) (M := 1024) (by omega) (by omega)), lt_e, kh_sS, k_put28 hP h1]
      refine ⟨_, _, rfl, ⟨l1, h2, fun _ i hi hi2 => ?_, fun q => by cases q⟩, fun d hd => if_neg hd⟩
      rw [ln_apn] at hi
      by_cases y : i = L.length
      · rw [y, gn_last]; exact if_pos rfl
      · rw [gn_app (by omega)]; exact (if_neg y).trans (h3 rfl i (by omega) hi2)
/-- one digit -/
theorem k_unit (hP : hP_ σ R P B) (h : PU_ keep X0 L F X) (hL : L.length < 2 ^ 30) {m u : Nat} (hm : m < 2 ^ 31) (hu : 0 < u ∧ u ≤ 1000000) (f : Nat) : ∃ F' X', f_X4_putNumber_b18 (f + 1) (kh_ σ R B P F X Y) R (nI m) (nI u) = f_X4_putNumber_b18 f (kh_ σ R B P F' X' Y) R (nI m) (nI (u / 10)) ∧ PU_ keep X0 (L ++ (if (decide (u ≤ m) || decide (u = 1)) = true then [48 + m / u % 10] else [])) F' X' ∧ ∀ d, d ≠ 505 → F' d = F d := by
  have d10 : nI u / 10 = nI (u / 10) := pk_div (d := 10) (by omega) (by decide) (by decide)
  have pr : (if (decide (u ≤ m) || decide (u = 1)) = true then [48 + m / u % 10] else []) = [48 + m / u % 10] → ∃ F' X', f_X4_putNumber_b32 (f_X4_putNumber_b18 f) (kh_ σ R B P F X Y) R (nI m) (nI u) = f_X4_putNumber_b18 f (kh_ σ R B P F' X' Y) R (nI m) (nI (u / 10)) ∧ PU_ keep X0 (L ++ (if (decide (u ≤ m) || decide (u = 1)) = true then [48 + m / u % 10] else [])) F' X' ∧ ∀ d, d ≠ 505 → F' d = F d := fun e => by
    rw [e]
    have ev : (48 : Int32) + (nI m / nI u - nI m / nI u / 10 * 10) = nI (48 + m / u % 10) := by
      have hq : m / u < 2 ^ 31 := Nat.lt_of_le_of_lt (Nat.div_le_self _ _) hm
      rw [pk_div hm hu.1 (by omega), show nI (m / u) - nI (m / u) / 10 * 10 = nI (m / u % 10) from pk_rem (d := 10) hq (by decide) (by decide)]
      exact nI_add 48 _
    obtain ⟨F1, X1, q1, h1, o1⟩ := k_put (Y := Y) hP h hL (v := (48 : Int32) + (nI m / nI u - nI m / nI u / 10 * 10)) ev
    unfold f_X4_putNumber_b32 f_X4_putNumber_b45
    rw [gt_t (nI_ne0 hu.1 (by omega)), gt_t (by decide), gt_t (k6 hP), q1, bd_s, gt_t (by decide), lt_e, d10]
    exact ⟨_, _, rfl, h1, o1⟩
  rw [f_X4_putNumber_b18, if_neg (nI_nle hu.1 (by omega))]
  by_cases z1 : u ≤ m
  · rw [if_pos (nI_le z1 hm)]
    exact pr (if_pos (by rw [decide_eq_true z1]; rfl))
  · rw [if_neg (fun q => z1 ((nI_leI (by omega) hm).mp q))]
    by_cases z2 : u = 1
    · rw [if_pos (by rw [z2]; rfl)]
      exact pr (if_pos (by rw [decide_eq_true z2]; simp))
    · rw [if_neg (fun q => z2 ((iq9_ (b := 1) (B := 1) rfl (by omega) (by decide)).mp q)), if_neg (show ¬ (decide (u ≤ m) || decide (u = 1)) = true by rw [decide_eq_false z1, decide_eq_false z2]; decide), List.append_nil]
      unfold f_X4_putNumber_b45
      rw [gt_t (by decide), lt_e, d10]
      exact ⟨_, _, rfl, h, fun _ _ => rfl⟩
theorem dn_7 (m : Nat) : dn9_ m = (if (decide (1000000 ≤ m) || decide ((1000000 : Nat) = 1)) = true then [48 + m / 1000000 % 10] else []) ++ (if (decide (100000 ≤ m) || decide ((100000 : Nat) = 1)) = true then [48 + m / 100000 % 10] else []) ++ (if (decide (10000 ≤ m) || decide ((10000 : Nat) = 1)) = true then [48 + m / 10000 % 10] else []) ++ (if (decide (1000 ≤ m) || decide ((1000 : Nat) = 1)) = true then [48 + m / 1000 % 10] else []) ++ (if (decide (100 ≤ m) || decide ((100 : Nat) = 1)) = true then [48 + m / 100 % 10] else []) ++ (if (decide (10 ≤ m) || decide ((10 : Nat) = 1)) = true then [48 + m / 10 % 10] else []) ++ (if (decide (1 ≤ m) || decide ((1 : Nat) = 1)) = true then [48 + m / 1 % 10] else []) := by
  have key : ∀ (l : List Nat), (l.filter (fun u => decide (u ≤ m) || decide (u = 1))).map (fun u => 48 + m / u % 10) = l.flatMap (fun u => if (decide (u ≤ m) || decide (u = 1)) = true then [48 + m / u % 10] else []) := by
    intro l
    induction l with
    | nil => rfl
    | cons u l ih =>
      rw [List.filter_cons, List.flatMap_cons]
      by_cases z : (decide (u ≤ m) || decide (u = 1)) = true
      · rw [if_pos z, if_pos z, List.map_cons, ih]; rfl
      · rw [if_neg z, if_neg z, ih]; rfl
  unfold dn9_
  rw [key]
  simp only [List.flatMap_cons, List.flatMap_nil, List.append_nil, List.append_assoc]
theorem k_putN0 (hP : hP_ σ R P B) (h : PU_ keep X0 L F X) (hL : L.length + 10 < 2 ^ 30) {m : Nat} (hm : m < 2 ^ 31) (f : Nat) : ∃ F' X', f_X4_putNumber_b18 (f + 1 + 1 + 1 + 1 + 1 + 1 + 1 + 1) (kh_ σ R B P F X Y) R (nI m) 1000000 = some ((), kh_ σ R B P F' X' Y) ∧ PU_ keep X0 (L ++ dn9_ m) F' X' ∧ ∀ d, d ≠ 505 → F' d = F d := by
  have hl : ∀ (b : Bool) (x : Nat), (if b = true then [x] else []).length ≤ 1 := fun b x => by cases b <;> simp
  obtain ⟨D0, e0⟩ : ∃ D, D = (if (decide (1000000 ≤ m) || decide ((1000000 : Nat) = 1)) = true then [48 + m / 1000000 % 10] else []) := ⟨_, rfl⟩
  have b0 : D0.length ≤ 1 := by rw [e0]; exact hl _ _
  obtain ⟨D1, e1⟩ : ∃ D, D = (if (decide (100000 ≤ m) || decide ((100000 : Nat) = 1)) = true then [48 + m / 100000 % 10] else []) := ⟨_, rfl⟩
  have b1 : D1.length ≤ 1 := by rw [e1]; exact hl _ _
  obtain ⟨D2, e2⟩ : ∃ D, D = (if (decide (10000 ≤ m) || decide ((10000 : Nat) = 1)) = true then [48 + m / 10000 % 10] else []) := ⟨_, rfl⟩
  have b2 : D2.length ≤ 1 := by rw [e2]; exact hl _ _
  obtain ⟨D3, e3⟩ : ∃ D, D = (if (decide (1000 ≤ m) || decide ((1000 : Nat) = 1)) = true then [48 + m / 1000 % 10] else []) := ⟨_, rfl⟩
  have b3 : D3.length ≤ 1 := by rw [e3]; exact hl _ _
  obtain ⟨D4, e4⟩ : ∃ D, D = (if (decide (100 ≤ m) || decide ((100 : Nat) = 1)) = true then [48 + m / 100 % 10] else []) := ⟨_, rfl⟩
  have b4 : D4.length ≤ 1 := by rw [e4]; exact hl _ _
  obtain ⟨D5, e5⟩ : ∃ D, D = (if (decide (10 ≤ m) || decide ((10 : Nat) = 1)) = true then [48 + m / 10 % 10] else []) := ⟨_, rfl⟩
  have b5 : D5.length ≤ 1 := by rw [e5]; exact hl _ _
  obtain ⟨D6, e6⟩ : ∃ D, D = (if (decide (1 ≤ m) || decide ((1 : Nat) = 1)) = true then [48 + m / 1 % 10] else []) := ⟨_, rfl⟩
  have b6 : D6.length ≤ 1 := by rw [e6]; exact hl _ _
  obtain ⟨F1, X1, q1, h1, o1⟩ := k_unit (Y := Y) (m := m) (u := 1000000) hP h (by simp; omega) hm (by decide) (f + 1 + 1 + 1 + 1 + 1 + 1 + 1)
  rw [← e0] at h1
  obtain ⟨F2, X2, q2, h2, o2⟩ := k_unit (Y := Y) (m := m) (u := 100000) hP h1 (by simp; omega) hm (by decide) (f + 1 + 1 + 1 + 1 + 1 + 1)
  rw [← e1] at h2
  obtain ⟨F3, X3, q3, h3, o3⟩ := k_unit (Y := Y) (m := m) (u := 10000) hP h2 (by simp; omega) hm (by decide) (f + 1 + 1 + 1 + 1 + 1)
  rw [← e2] at h3
  obtain ⟨F4, X4, q4, h4, o4⟩ := k_unit (Y := Y) (m := m) (u := 1000) hP h3 (by simp; omega) hm (by decide) (f + 1 + 1 + 1 + 1)
  rw [← e3] at h4
  obtain ⟨F5, X5, q5, h5, o5⟩ := k_unit (Y := Y) (m := m) (u := 100) hP h4 (by simp; omega) hm (by decide) (f + 1 + 1 + 1)
  rw [← e4] at h5
  obtain ⟨F6, X6, q6, h6, o6⟩ := k_unit (Y := Y) (m := m) (u := 10) hP h5 (by simp; omega) hm (by decide) (f + 1 + 1)
  rw [← e5] at h6
  obtain ⟨F7, X7, q7, h7, o7⟩ := k_unit (Y := Y) (m := m) (u := 1) hP h6 (by simp; omega) hm (by decide) (f + 1)
  rw [← e6] at h7
  refine ⟨F7, X7, ?_, ?_, fun d hd => ?_⟩
  · refine Eq.trans ?_ (Eq.trans q7 ?_)
    · refine Eq.trans q1 (Eq.trans q2 (Eq.trans q3 (Eq.trans q4 (Eq.trans q5 q6))))
    · rw [f_X4_putNumber_b18, if_pos (show nI (1 / 10) ≤ 0 by decide)]
  · rw [dn_7, ← e0, ← e1, ← e2, ← e3, ← e4, ← e5, ← e6]
    simpa only [List.append_assoc] using h7
  · rw [o7 d hd, o6 d hd, o5 d hd, o4 d hd, o3 d hd, o2 d hd, o1 d hd]
theorem k_putN (hP : hP_ σ R P B) (h : PU_ keep X0 L F X) (hL : L.length + 10 < 2 ^ 30) {m : Nat} (hm : m < 2 ^ 31) : ∃ F' X', f_X4_putNumber_b18 fu_ (kh_ σ R B P F X Y) R (nI m) 1000000 = some ((), kh_ σ R B P F' X' Y) ∧ PU_ keep X0 (L ++ dn9_ m) F' X' ∧ ∀ d, d ≠ 505 → F' d = F d := k_putN0 hP h hL hm 39992
/-- A NUMBER -/
theorem k_number (hP : hP_ σ R P B) (h : PU_ keep X0 L F X) (hL : L.length + 20 < 2 ^ 30) {v : Int32} (hv : -1000000000 < v.toInt ∧ v.toInt < 1000000000) : ∃ F' X', f_X4_putNumber (kh_ σ R B P F X Y) R v = some ((), kh_ σ R B P F' X' Y) ∧ PU_ keep X0 (L ++ dg9_ v) F' X' ∧ ∀ d, d ≠ 505 → F' d = F d := by
  unfold f_X4_putNumber f_X4_putNumber_b10 dg9_
  by_cases z : 0 ≤ v
  · have z' : ¬ v < 0 := Int32.not_lt.mpr z
    obtain ⟨m, hm, e⟩ := nI_of z'
    subst e
    rw [if_pos z, lt_e, if_pos z, if_neg z', nI_clamp hm]
    exact k_putN hP h (by omega) hm
  · have z' : v < 0 := Int32.not_le.mp z
    obtain ⟨F1, X1, q1, h1, o1⟩ := k_put (Y := Y) hP h (by omega) (v := 45) (c := 45) rfl
    have en : (0 - v).toInt = -v.toInt := by
      have := neg_toi (v := v) (by omega)
      rw [← this, Int32.zero_sub]
    have e0 : 0 - v = nI (-v.toInt).toNat := by
      have := nI_toi (v := 0 - v) (by rw [en]; have := Int32.lt_iff_toInt_lt.mp z'; simp at this; omega)
      rw [en] at this
      exact this
    have en2 : -v = 0 - v := (Int32.zero_sub v).symm
    rw [if_neg z, gt_t (k6 hP), q1, bd_s, lt_e, if_neg z, if_pos z', en2, e0, nI_clamp (by omega)]
    obtain ⟨F2, X2, q2, h2, o2⟩ := k_putN (Y := Y) (m := (-v.toInt).toNat) hP h1 (by simp; omega) (by omega)
    refine ⟨F2, X2, q2, ?_, fun d hd => (o2 d hd).trans (o1 d hd)⟩
    rw [List.append_assoc] at h2
    exact h2
end PH
