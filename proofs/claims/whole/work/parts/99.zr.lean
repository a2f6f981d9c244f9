/-! CALLS: sets of places, in plain numbers. Written by wip/b/mk99zr.py. -/
def pc9_ (u : Nat) : Nat → Nat
  | 0 => 0
  | i + 1 => pc9_ u i + (if u.testBit i = true then 1 else 0)
def su9_ (g : Nat → Int) (u : Nat) : Nat → Int
  | 0 => 0
  | i + 1 => su9_ g u i + (if u.testBit i = true then g i else 0)
theorem pc9_le (u : Nat) : ∀ n, pc9_ u n ≤ n
  | 0 => Nat.le_refl _
  | n + 1 => by
    have := pc9_le u n
    show pc9_ u n + (if u.testBit n = true then 1 else 0) ≤ n + 1
    split <;> omega
theorem su9_b {g : Nat → Int} {B : Int} (hB : 0 ≤ B) (hg : ∀ i, 0 ≤ g i ∧ g i ≤ B) (u : Nat) : ∀ n, 0 ≤ su9_ g u n ∧ su9_ g u n ≤ n * B
  | 0 => ⟨Int.le_refl _, by show (0 : Int) ≤ ((0 : Nat) : Int) * B; rw [Int.natCast_zero, Int.zero_mul]; exact Int.le_refl _⟩
  | n + 1 => by
    have ih := su9_b hB hg u n
    have h := hg n
    show 0 ≤ su9_ g u n + (if u.testBit n = true then g n else 0) ∧ su9_ g u n + (if u.testBit n = true then g n else 0) ≤ ((n + 1 : Nat) : Int) * B
    rw [Int.natCast_add, Int.add_mul, Int.natCast_one, Int.one_mul]
    split <;> omega
section PA9
variable {g c : Nat → Int} {gap : Int}
theorem pa_succ (u : Nat) : ∀ (k i : Nat) (s : CH), pa_ g c gap u (k + 1) i s = if u.testBit (i + k) = true then cs_ g c gap (pa_ g c gap u k i s) (i + k) else pa_ g c gap u k i s := by
  intro k
  induction k with
  | zero => intro i s; rfl
  | succ k ih =>
    intro i s
    have e1 : pa_ g c gap u (k + 1 + 1) i s = if u.testBit i = true then pa_ g c gap u (k + 1) (i + 1) (cs_ g c gap s i) else pa_ g c gap u (k + 1) (i + 1) s := rfl
    have e2 : pa_ g c gap u (k + 1) i s = if u.testBit i = true then pa_ g c gap u k (i + 1) (cs_ g c gap s i) else pa_ g c gap u k (i + 1) s := rfl
    rw [e1, e2, show i + (k + 1) = i + 1 + k by omega]
    by_cases z : u.testBit i = true
    · rw [if_pos z, if_pos z, ih]
    · rw [if_neg z, if_neg z, ih]
/-- a set's own way, summed -/
theorem pa_sum (u : Nat) : ∀ n, ((pa_ g c gap u n 0 (0, 0, 0)).1 = 0 ↔ pc9_ u n = 0) ∧ (pa_ g c gap u n 0 (0, 0, 0)).2.1 = su9_ g u n ∧ (pa_ g c gap u n 0 (0, 0, 0)).2.2 = su9_ c u n + gap * ((pc9_ u n - 1 : Nat) : Int)
  | 0 => ⟨⟨fun _ => rfl, fun _ => rfl⟩, rfl, by
    show (0 : Int) = 0 + gap * ((0 - 1 : Nat) : Int)
    simp⟩
  | n + 1 => by
    obtain ⟨i1, i2, i3⟩ := pa_sum u n
    rw [pa_succ, Nat.zero_add]
    generalize pa_ g c gap u n 0 (0, 0, 0) = s at i1 i2 i3
    show ((if u.testBit n = true then cs_ g c gap s n else s).1 = 0 ↔ pc9_ u n + (if u.testBit n = true then 1 else 0) = 0) ∧ (if u.testBit n = true then cs_ g c gap s n else s).2.1 = su9_ g u n + (if u.testBit n = true then g n else 0) ∧ (if u.testBit n = true then cs_ g c gap s n else s).2.2 = su9_ c u n + (if u.testBit n = true then c n else 0) + gap * ((pc9_ u n + (if u.testBit n = true then 1 else 0) - 1 : Nat) : Int)
    by_cases z : u.testBit n = true
    · rw [if_pos z, if_pos z, if_pos z, if_pos z]
      refine ⟨⟨fun q => ?_, fun q => by omega⟩, ?_, ?_⟩
      · exfalso
        have q : s.1 ||| 2 ^ n = 0 := q
        have := bt_or s.1 n n
        rw [q, Nat.zero_testBit, decide_eq_true rfl, Bool.or_true] at this
        cases this
      · show s.2.1 + g n = _
        rw [i2]
      · show s.2.2 + (if s.1 = 0 then c n else c n + gap) = _
        by_cases w : s.1 = 0
        · have w2 := i1.mp w
          rw [if_pos w, i3, w2]
          simp
        · have w2 : pc9_ u n ≠ 0 := fun q => w (i1.mpr q)
          rw [if_neg w, i3, show pc9_ u n + 1 - 1 = (pc9_ u n - 1) + 1 by omega, Int.natCast_add, Int.mul_add]
          simp
          omega
    · rw [if_neg z, if_neg z, if_neg z, if_neg z]
      exact ⟨i1, by rw [i2, Int.add_zero], by rw [i3, Nat.add_zero, Int.add_zero]⟩
theorem pa_1 {u n : Nat} (hu : u < 2 ^ n) : (pa_ g c gap u n 0 (0, 0, 0)).1 = u := by
  refine Nat.eq_of_testBit_eq (fun j => ?_)
  rw [pa_bits n 0 (0, 0, 0) u (fun j _ => Nat.zero_testBit j), Nat.zero_testBit, Bool.false_or]
  by_cases z : j < n
  · rw [decide_eq_true (show 0 ≤ j ∧ j < 0 + n by omega), Bool.true_and]
  · rw [decide_eq_false (show ¬ (0 ≤ j ∧ j < 0 + n) by omega), Bool.false_and]
    exact (Nat.testBit_lt_two_pow (Nat.lt_of_lt_of_le hu (Nat.pow_le_pow_right (by decide) (by omega)))).symm
end PA9
theorem b_neg (x : Int32) {i : Nat} (hi : i < 32) : bt (-x) i = (bt x i ^^ decide (∃ j, j < i ∧ bt x j = true)) := by
  unfold bt
  rw [Int32.toBitVec_neg, BitVec.getLsbD_neg, decide_eq_true hi, Bool.true_and]
/-- the lowest place where two sets differ -/
theorem low9_ {u b : Nat} (hu : u < 2 ^ 31) : ((nI u ^^^ nI b) &&& (-(nI u ^^^ nI b))) &&& nI u = 0 ↔ ¬ lo_ u b := by
  have bx : ∀ i, i < 32 → bt (nI u ^^^ nI b) i = (u.testBit i ^^ b.testBit i) := fun i hi => by rw [b_xor, bt_nI hi, bt_nI hi]
  constructor
  · rintro h ⟨k, h1, h2, h3⟩
    have hk : k < 32 := Classical.byContradiction (fun q => by
      have := Nat.testBit_lt_two_pow (x := u) (i := k) (Nat.lt_of_lt_of_le hu (Nat.pow_le_pow_right (by decide) (by omega)))
      rw [this] at h1
      cases h1)
    have q : bt (((nI u ^^^ nI b) &&& (-(nI u ^^^ nI b))) &&& nI u) k = bt 0 k := by rw [h]
    rw [b_and, b_and, b_neg _ hk, bx k hk, bt_nI hk, b_0, h1, h2, decide_eq_false (fun ⟨j, hj, e⟩ => by
      rw [bx j (by omega), h3 j hj] at e
      cases hb : b.testBit j <;> rw [hb] at e <;> cases e)] at q
    cases q
  · intro h
    refine b_ext (fun i hi => ?_)
    rw [b_0]
    cases e : bt (((nI u ^^^ nI b) &&& (-(nI u ^^^ nI b))) &&& nI u) i with
    | false => rfl
    | true =>
      exfalso
      refine h ?_
      rw [b_and, b_and, b_neg _ hi, bx i hi, bt_nI hi] at e
      have e1 := (Bool.and_eq_true _ _ ▸ e)
      have e2 := (Bool.and_eq_true _ _ ▸ e1.1)
      have u1 := e1.2
      have b1 : b.testBit i = false := by
        have := e2.1
        rw [u1] at this
        cases hb : b.testBit i
        · rfl
        · rw [hb] at this; cases this
      refine ⟨i, u1, b1, fun j hj => ?_⟩
      have nx := e2.2
      rw [u1, b1] at nx
      have nx2 : ¬ ∃ j, j < i ∧ bt (nI u ^^^ nI b) j = true := fun q => by
        rw [decide_eq_true q] at nx
        cases nx
      have : ¬ bt (nI u ^^^ nI b) j = true := fun q => nx2 ⟨j, hj, q⟩
      rw [bx j (by omega)] at this
      cases hx : u.testBit j <;> cases hy : b.testBit j
      · rfl
      · rw [hx, hy] at this; exact absurd rfl this
      · rw [hx, hy] at this; exact absurd rfl this
      · rfl
theorem b_pred (x : Int32) {i : Nat} (hi : i < 32) : bt (x - 1) i = !(bt x i ^^ decide (∃ j, j < i ∧ bt x j = true)) := by
  have e : x - 1 = ~~~(-x) := by
    apply Int32.toBitVec_inj.mp
    rw [Int32.toBitVec_sub, Int32.toBitVec_not, Int32.toBitVec_neg]
    have q := BitVec.neg_eq_not_add (-x.toBitVec)
    rw [BitVec.neg_neg] at q
    calc x.toBitVec - (1 : Int32).toBitVec = (~~~(-x.toBitVec) + 1#32) - 1#32 := by rw [← q]; rfl
      _ = ~~~(-x.toBitVec) := BitVec.add_sub_cancel _ _
  rw [e]
  have h2 : bt (~~~(-x)) i = !(bt (-x) i) := by
    unfold bt
    rw [Int32.toBitVec_not, BitVec.getLsbD_not, decide_eq_true hi, Bool.true_and]
  rw [h2, b_neg x hi]
theorem pc9_x {u i : Nat} (h : u.testBit i = true) : ∀ n, pc9_ (u ^^^ 2 ^ i) n + (if i < n then 1 else 0) = pc9_ u n
  | 0 => rfl
  | n + 1 => by
    have ih := pc9_x h n
    show pc9_ (u ^^^ 2 ^ i) n + (if (u ^^^ 2 ^ i).testBit n = true then 1 else 0) + (if i < n + 1 then 1 else 0) = pc9_ u n + (if u.testBit n = true then 1 else 0)
    rw [Nat.testBit_xor, Nat.testBit_two_pow]
    by_cases z : i = n
    · subst z
      rw [h, decide_eq_true rfl, if_neg (by decide), if_pos (Nat.lt_succ_self _), if_pos rfl]
      rw [if_neg (Nat.lt_irrefl _)] at ih
      omega
    · rw [decide_eq_false z, Bool.xor_false]
      by_cases w : i < n
      · rw [if_pos w] at ih
        rw [if_pos (show i < n + 1 by omega)]
        omega
      · rw [if_neg w] at ih
        rw [if_neg (show ¬ i < n + 1 by omega)]
        omega
theorem bits9_k : ∀ (k i : Nat) (u : Nat), i + k = 14 → u < 2 ^ 14 → (∀ j, j < i → u.testBit j = false) → ∀ (f acc : Nat), k < f → bq9_ f (nI acc) (nI u) = some (nI (acc + pc9_ u 14)) := by
  intro k
  induction k with
  | zero =>
    intro i u hi hu hz f acc hf
    obtain ⟨f, rfl⟩ : ∃ e, f = e + 1 := ⟨f - 1, by omega⟩
    have : u = 0 := Nat.eq_of_testBit_eq (fun j => by
      rw [Nat.zero_testBit]
      by_cases z : j < i
      · exact hz j z
      · exact Nat.testBit_lt_two_pow (Nat.lt_of_lt_of_le hu (Nat.pow_le_pow_right (by decide) (by omega))))
    subst this
    rfl
  | succ k ih =>
    intro i u hi hu hz f acc hf
    by_cases z : u.testBit i = true
    · obtain ⟨f, rfl⟩ : ∃ e, f = e + 1 := ⟨f - 1, by omega⟩
      have u0 : u ≠ 0 := fun q => by rw [q, Nat.zero_testBit] at z; cases z
      have hu31 : u < 2 ^ 31 := Nat.lt_of_lt_of_le hu (by decide)
      have ev : nI u &&& (nI u - 1) = nI (u ^^^ 2 ^ i) := b_ext (fun j hj => by
        rw [b_and, b_pred _ hj, bt_nI hj, bt_nI hj, Nat.testBit_xor, Nat.testBit_two_pow]
        rcases Nat.lt_trichotomy j i with q | q | q
        · rw [hz j q, decide_eq_false (show ¬ i = j by omega)]
          rfl
        · subst q
          rw [z, decide_eq_true (show j = j from rfl), decide_eq_false (fun ⟨k, hk, e⟩ => by
            rw [bt_nI (by omega), hz k hk] at e
            cases e)]
          rfl
        · rw [decide_eq_false (show ¬ i = j by omega), decide_eq_true (show ∃ k, k < j ∧ bt (nI u) k = true from ⟨i, q, by rw [bt_nI (by omega)]; exact z⟩)]
          cases u.testBit j <;> rfl)
      have hx : u ^^^ 2 ^ i < 2 ^ 14 := Nat.xor_lt_two_pow hu (Nat.pow_lt_pow_right (by decide) (by omega))
      have h1 := pc9_x z 14
      rw [if_pos (by omega)] at h1
      show (if nI u = 0 then some (nI acc) else bq9_ f (nI acc + 1) (nI u &&& (nI u - 1))) = _
      rw [if_neg (fun q => u0 ((nI_z0 hu31).mp q)), ev, nI_1, ih (i + 1) _ (by omega) hx (fun j hj => ?_) f (acc + 1) (by omega), ← h1]
      · rw [show acc + 1 + pc9_ (u ^^^ 2 ^ i) 14 = acc + (pc9_ (u ^^^ 2 ^ i) 14 + 1) by omega]
      · rw [Nat.testBit_xor, Nat.testBit_two_pow]
        by_cases q : j = i
        · rw [q, z, decide_eq_true rfl]; rfl
        · rw [hz j (by omega), decide_eq_false (fun w => q w.symm)]; rfl
    · exact ih (i + 1) u (by omega) hu (fun j hj => by
        by_cases q : j = i
        · rw [q]; exact Bool.eq_false_iff.mpr z
        · exact hz j (by omega)) f acc (by omega)
theorem m_bits14 (σ : TH) {u : Nat} (hu : u < 2 ^ 14) : f_X15_bits σ (nI u) = some (nI (pc9_ u 14), σ) := by
  have h := bits9_k 14 0 u rfl hu (fun j hj => absurd hj (Nat.not_lt_zero j)) 15 0 (by decide)
  rw [Nat.zero_add] at h
  exact bq9_f σ 15 0 (nI u) _ 39985 h
theorem pc9_n {u n : Nat} (hu : u < 2 ^ n) : ∀ k, pc9_ u (n + k) = pc9_ u n
  | 0 => rfl
  | k + 1 => by
    show pc9_ u (n + k) + (if u.testBit (n + k) = true then 1 else 0) = pc9_ u n
    rw [pc9_n hu k, if_neg (by rw [Nat.testBit_lt_two_pow (Nat.lt_of_lt_of_le hu (Nat.pow_le_pow_right (by decide) (by omega)))]; decide), Nat.add_zero]
theorem pc9_0 {u : Nat} : ∀ n, pc9_ u n = 0 → ∀ j, j < n → u.testBit j = false
  | 0, _, j, hj => absurd hj (Nat.not_lt_zero j)
  | n + 1, h, j, hj => by
    have h : pc9_ u n + (if u.testBit n = true then 1 else 0) = 0 := h
    by_cases z : u.testBit n = true
    · rw [if_pos z] at h; omega
    · by_cases e : j = n
      · rw [e]; exact Bool.eq_false_iff.mpr z
      · exact pc9_0 n (by omega) j (by omega)
theorem pc9_p {u n : Nat} (h0 : 0 < u) (hu : u < 2 ^ n) : 0 < pc9_ u n := Nat.pos_of_ne_zero (fun h => by
  have : u = 0 := Nat.eq_of_testBit_eq (fun j => by
    rw [Nat.zero_testBit]
    by_cases z : j < n
    · exact pc9_0 n h j z
    · exact Nat.testBit_lt_two_pow (Nat.lt_of_lt_of_le hu (Nat.pow_le_pow_right (by decide) (by omega))))
  omega)
