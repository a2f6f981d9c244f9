/-! THE REFERENCE READS: words told apart. Written by wip/b/mk84.py. -/
def rv9_ : List Nat → Nat
  | [] => 0
  | c :: r => 32 * rv9_ r + (c - 96)
def sr9_ (w : Nat → Nat) (p : Nat) : List Nat → Bool
  | [] => true
  | c :: r => decide (w (p + r.length) = c) && sr9_ w p r
theorem pk9x_eq {w : Nat → Nat} {p : Nat} : ∀ (l : List Nat) (m : Nat), (∀ c, c ∈ l → 97 ≤ c ∧ c ≤ 122) → (∀ i, p ≤ i → i < p + m → tL (w i) = true) → (pk9x_ w p m = rv9_ l ↔ m = l.length ∧ sr9_ w p l = true)
  | [], 0, _, _ => by simp [pk9x_, rv9_, sr9_]
  | [], m + 1, _, h => by
    have h2 : 97 ≤ w (p + m) ∧ w (p + m) ≤ 122 := by simpa [tL] using h (p + m) (by omega) (by omega)
    simp only [pk9x_, rv9_, List.length_nil]
    constructor
    · intro z; omega
    · intro z; omega
  | c :: r, 0, hl, _ => by
    have h1 := hl c (List.mem_cons_self)
    simp only [pk9x_, rv9_, List.length_cons]
    constructor
    · intro z; omega
    · intro z; omega
  | c :: r, m + 1, hl, h => by
    have h1 := hl c (List.mem_cons_self)
    have h2 : 97 ≤ w (p + m) ∧ w (p + m) ≤ 122 := by simpa [tL] using h (p + m) (by omega) (by omega)
    have ih := pk9x_eq (w := w) (p := p) r m (fun c hc => hl c (List.mem_cons_of_mem _ hc)) (fun i a b => h i a (by omega))
    simp only [pk9x_, rv9_, List.length_cons, sr9_, Bool.and_eq_true, decide_eq_true_eq]
    constructor
    · intro z
      have z1 : pk9x_ w p m = rv9_ r := by omega
      have z2 : w (p + m) = c := by omega
      obtain ⟨i1, i2⟩ := ih.mp z1
      exact ⟨by omega, by rw [← i1]; exact z2, i2⟩
    · intro ⟨z1, z2, z3⟩
      have z4 : m = r.length := by omega
      rw [← z4] at z2
      rw [ih.mpr ⟨z4, z3⟩, z2]
theorem wc_if (w : Nat → Nat) (p n : Nat) : wc9_ w p n = 21 ↔ n = 2 ∧ sr9_ w p [102, 105] = true := by
  unfold wc9_
  by_cases hn : n = 2
  · subst hn
    simp only [Nat.reduceEqDiff, if_false, if_neg, if_pos, true_and]
    have er : sr9_ w p [102, 105] = sp9_ w p [105, 102] := by
      simp only [sr9_, sp9_, List.length_cons, List.length_nil, Nat.add_zero, Nat.zero_add, Bool.and_true]
      (try simp only [Nat.add_assoc, Nat.reduceAdd])
      ac_rfl
    rw [er]
    by_cases qq : sp9_ w p [105, 102] = true
    · rw [if_pos qq]
      exact ⟨fun _ => qq, fun _ => rfl⟩
    · rw [if_neg qq]
      refine ⟨fun z => ?_, fun z => absurd z qq⟩
      exfalso
      revert z
      repeat' split
      all_goals decide
  · refine ⟨fun z => ?_, fun z => absurd z.1 hn⟩
    exfalso
    revert z
    repeat' split
    all_goals first | decide | (intro _; omega)
theorem wc_or (w : Nat → Nat) (p n : Nat) : wc9_ w p n = 23 ↔ n = 2 ∧ sr9_ w p [114, 111] = true := by
  unfold wc9_
  by_cases hn : n = 2
  · subst hn
    simp only [Nat.reduceEqDiff, if_false, if_neg, if_pos, true_and]
    have er : sr9_ w p [114, 111] = sp9_ w p [111, 114] := by
      simp only [sr9_, sp9_, List.length_cons, List.length_nil, Nat.add_zero, Nat.zero_add, Bool.and_true]
      (try simp only [Nat.add_assoc, Nat.reduceAdd])
      ac_rfl
    rw [er]
    by_cases q0 : sp9_ w p [105, 102] = true
    · rw [if_pos q0]
      refine ⟨fun z => absurd z (by decide), fun z => ?_⟩
      simp only [sp9_, Bool.and_eq_true, decide_eq_true_eq] at q0 z
      omega
    rw [if_neg q0]
    by_cases qq : sp9_ w p [111, 114] = true
    · rw [if_pos qq]
      exact ⟨fun _ => qq, fun _ => rfl⟩
    · rw [if_neg qq]
      refine ⟨fun z => ?_, fun z => absurd z qq⟩
      exfalso
      revert z
      repeat' split
      all_goals decide
  · refine ⟨fun z => ?_, fun z => absurd z.1 hn⟩
    exfalso
    revert z
    repeat' split
    all_goals first | decide | (intro _; omega)
theorem wc_and (w : Nat → Nat) (p n : Nat) : wc9_ w p n = 22 ↔ n = 3 ∧ sr9_ w p [100, 110, 97] = true := by
  unfold wc9_
  by_cases hn : n = 3
  · subst hn
    simp only [Nat.reduceEqDiff, if_false, if_neg, if_pos, true_and]
    have er : sr9_ w p [100, 110, 97] = sp9_ w p [97, 110, 100] := by
      simp only [sr9_, sp9_, List.length_cons, List.length_nil, Nat.add_zero, Nat.zero_add, Bool.and_true]
      (try simp only [Nat.add_assoc, Nat.reduceAdd])
      ac_rfl
    rw [er]
    by_cases qq : sp9_ w p [97, 110, 100] = true
    · rw [if_pos qq]
      exact ⟨fun _ => qq, fun _ => rfl⟩
    · rw [if_neg qq]
      refine ⟨fun z => ?_, fun z => absurd z qq⟩
      exfalso
      revert z
      repeat' split
      all_goals decide
  · refine ⟨fun z => ?_, fun z => absurd z.1 hn⟩
    exfalso
    revert z
    repeat' split
    all_goals first | decide | (intro _; omega)
theorem wc_not (w : Nat → Nat) (p n : Nat) : wc9_ w p n = 24 ↔ n = 3 ∧ sr9_ w p [116, 111, 110] = true := by
  unfold wc9_
  by_cases hn : n = 3
  · subst hn
    simp only [Nat.reduceEqDiff, if_false, if_neg, if_pos, true_and]
    have er : sr9_ w p [116, 111, 110] = sp9_ w p [110, 111, 116] := by
      simp only [sr9_, sp9_, List.length_cons, List.length_nil, Nat.add_zero, Nat.zero_add, Bool.and_true]
      (try simp only [Nat.add_assoc, Nat.reduceAdd])
      ac_rfl
    rw [er]
    by_cases q0 : sp9_ w p [97, 110, 100] = true
    · rw [if_pos q0]
      refine ⟨fun z => absurd z (by decide), fun z => ?_⟩
      simp only [sp9_, Bool.and_eq_true, decide_eq_true_eq] at q0 z
      omega
    rw [if_neg q0]
    by_cases qq : sp9_ w p [110, 111, 116] = true
    · rw [if_pos qq]
      exact ⟨fun _ => qq, fun _ => rfl⟩
    · rw [if_neg qq]
      refine ⟨fun z => ?_, fun z => absurd z qq⟩
      exfalso
      revert z
      repeat' split
      all_goals decide
  · refine ⟨fun z => ?_, fun z => absurd z.1 hn⟩
    exfalso
    revert z
    repeat' split
    all_goals first | decide | (intro _; omega)
theorem wc_has (w : Nat → Nat) (p n : Nat) : wc9_ w p n = 25 ↔ n = 3 ∧ sr9_ w p [115, 97, 104] = true := by
  unfold wc9_
  by_cases hn : n = 3
  · subst hn
    simp only [Nat.reduceEqDiff, if_false, if_neg, if_pos, true_and]
    have er : sr9_ w p [115, 97, 104] = sp9_ w p [104, 97, 115] := by
      simp only [sr9_, sp9_, List.length_cons, List.length_nil, Nat.add_zero, Nat.zero_add, Bool.and_true]
      (try simp only [Nat.add_assoc, Nat.reduceAdd])
      ac_rfl
    rw [er]
    by_cases q0 : sp9_ w p [97, 110, 100] = true
    · rw [if_pos q0]
      refine ⟨fun z => absurd z (by decide), fun z => ?_⟩
      simp only [sp9_, Bool.and_eq_true, decide_eq_true_eq] at q0 z
      omega
    rw [if_neg q0]
    by_cases q1 : sp9_ w p [110, 111, 116] = true
    · rw [if_pos q1]
      refine ⟨fun z => absurd z (by decide), fun z => ?_⟩
      simp only [sp9_, Bool.and_eq_true, decide_eq_true_eq] at q1 z
      omega
    rw [if_neg q1]
    by_cases qq : sp9_ w p [104, 97, 115] = true
    · rw [if_pos qq]
      exact ⟨fun _ => qq, fun _ => rfl⟩
    · rw [if_neg qq]
      refine ⟨fun z => ?_, fun z => absurd z qq⟩
      exfalso
      revert z
      repeat' split
      all_goals decide
  · refine ⟨fun z => ?_, fun z => absurd z.1 hn⟩
    exfalso
    revert z
    repeat' split
    all_goals first | decide | (intro _; omega)
theorem wc_age (w : Nat → Nat) (p n : Nat) : wc9_ w p n = 10 ↔ n = 3 ∧ sr9_ w p [101, 103, 97] = true := by
  unfold wc9_
  by_cases hn : n = 3
  · subst hn
    simp only [Nat.reduceEqDiff, if_false, if_neg, if_pos, true_and]
    have er : sr9_ w p [101, 103, 97] = sp9_ w p [97, 103, 101] := by
      simp only [sr9_, sp9_, List.length_cons, List.length_nil, Nat.add_zero, Nat.zero_add, Bool.and_true]
      (try simp only [Nat.add_assoc, Nat.reduceAdd])
      ac_rfl
    rw [er]
    by_cases q0 : sp9_ w p [97, 110, 100] = true
    · rw [if_pos q0]
      refine ⟨fun z => absurd z (by decide), fun z => ?_⟩
      simp only [sp9_, Bool.and_eq_true, decide_eq_true_eq] at q0 z
      omega
    rw [if_neg q0]
    by_cases q1 : sp9_ w p [110, 111, 116] = true
    · rw [if_pos q1]
      refine ⟨fun z => absurd z (by decide), fun z => ?_⟩
      simp only [sp9_, Bool.and_eq_true, decide_eq_true_eq] at q1 z
      omega
    rw [if_neg q1]
    by_cases q2 : sp9_ w p [104, 97, 115] = true
    · rw [if_pos q2]
      refine ⟨fun z => absurd z (by decide), fun z => ?_⟩
      simp only [sp9_, Bool.and_eq_true, decide_eq_true_eq] at q2 z
      omega
    rw [if_neg q2]
    by_cases qq : sp9_ w p [97, 103, 101] = true
    · rw [if_pos qq]
      exact ⟨fun _ => qq, fun _ => rfl⟩
    · rw [if_neg qq]
      refine ⟨fun z => ?_, fun z => absurd z qq⟩
      exfalso
      revert z
      repeat' split
      all_goals decide
  · refine ⟨fun z => ?_, fun z => absurd z.1 hn⟩
    exfalso
    revert z
    repeat' split
    all_goals first | decide | (intro _; omega)
theorem wc_kin (w : Nat → Nat) (p n : Nat) : wc9_ w p n = 14 ↔ n = 3 ∧ sr9_ w p [110, 105, 107] = true := by
  unfold wc9_
  by_cases hn : n = 3
  · subst hn
    simp only [Nat.reduceEqDiff, if_false, if_neg, if_pos, true_and]
    have er : sr9_ w p [110, 105, 107] = sp9_ w p [107, 105, 110] := by
      simp only [sr9_, sp9_, List.length_cons, List.length_nil, Nat.add_zero, Nat.zero_add, Bool.and_true]
      (try simp only [Nat.add_assoc, Nat.reduceAdd])
      ac_rfl
    rw [er]
    by_cases q0 : sp9_ w p [97, 110, 100] = true
    · rw [if_pos q0]
      refine ⟨fun z => absurd z (by decide), fun z => ?_⟩
      simp only [sp9_, Bool.and_eq_true, decide_eq_true_eq] at q0 z
      omega
    rw [if_neg q0]
    by_cases q1 : sp9_ w p [110, 111, 116] = true
    · rw [if_pos q1]
      refine ⟨fun z => absurd z (by decide), fun z => ?_⟩
      simp only [sp9_, Bool.and_eq_true, decide_eq_true_eq] at q1 z
      omega
    rw [if_neg q1]
    by_cases q2 : sp9_ w p [104, 97, 115] = true
    · rw [if_pos q2]
      refine ⟨fun z => absurd z (by decide), fun z => ?_⟩
      simp only [sp9_, Bool.and_eq_true, decide_eq_true_eq] at q2 z
      omega
    rw [if_neg q2]
    by_cases q3 : sp9_ w p [97, 103, 101] = true
    · rw [if_pos q3]
      refine ⟨fun z => absurd z (by decide), fun z => ?_⟩
      simp only [sp9_, Bool.and_eq_true, decide_eq_true_eq] at q3 z
      omega
    rw [if_neg q3]
    by_cases qq : sp9_ w p [107, 105, 110] = true
    · rw [if_pos qq]
      exact ⟨fun _ => qq, fun _ => rfl⟩
    · rw [if_neg qq]
      refine ⟨fun z => ?_, fun z => absurd z qq⟩
      exfalso
      revert z
      repeat' split
      all_goals decide
  · refine ⟨fun z => ?_, fun z => absurd z.1 hn⟩
    exfalso
    revert z
    repeat' split
    all_goals first | decide | (intro _; omega)
theorem wc_dead (w : Nat → Nat) (p n : Nat) : wc9_ w p n = 27 ↔ n = 4 ∧ sr9_ w p [100, 97, 101, 100] = true := by
  unfold wc9_
  by_cases hn : n = 4
  · subst hn
    simp only [Nat.reduceEqDiff, if_false, if_neg, if_pos, true_and]
    have er : sr9_ w p [100, 97, 101, 100] = sp9_ w p [100, 101, 97, 100] := by
      simp only [sr9_, sp9_, List.length_cons, List.length_nil, Nat.add_zero, Nat.zero_add, Bool.and_true]
      (try simp only [Nat.add_assoc, Nat.reduceAdd])
      ac_rfl
    rw [er]
    by_cases qq : sp9_ w p [100, 101, 97, 100] = true
    · rw [if_pos qq]
      exact ⟨fun _ => qq, fun _ => rfl⟩
    · rw [if_neg qq]
      refine ⟨fun z => ?_, fun z => absurd z qq⟩
      exfalso
      revert z
      repeat' split
      all_goals decide
  · refine ⟨fun z => ?_, fun z => absurd z.1 hn⟩
    exfalso
    revert z
    repeat' split
    all_goals first | decide | (intro _; omega)
theorem wc_born (w : Nat → Nat) (p n : Nat) : wc9_ w p n = 11 ↔ n = 4 ∧ sr9_ w p [110, 114, 111, 98] = true := by
  unfold wc9_
  by_cases hn : n = 4
  · subst hn
    simp only [Nat.reduceEqDiff, if_false, if_neg, if_pos, true_and]
    have er : sr9_ w p [110, 114, 111, 98] = sp9_ w p [98, 111, 114, 110] := by
      simp only [sr9_, sp9_, List.length_cons, List.length_nil, Nat.add_zero, Nat.zero_add, Bool.and_true]
      (try simp only [Nat.add_assoc, Nat.reduceAdd])
      ac_rfl
    rw [er]
    by_cases q0 : sp9_ w p [100, 101, 97, 100] = true
    · rw [if_pos q0]
      refine ⟨fun z => absurd z (by decide), fun z => ?_⟩
      simp only [sp9_, Bool.and_eq_true, decide_eq_true_eq] at q0 z
      omega
    rw [if_neg q0]
    by_cases qq : sp9_ w p [98, 111, 114, 110] = true
    · rw [if_pos qq]
      exact ⟨fun _ => qq, fun _ => rfl⟩
    · rw [if_neg qq]
      refine ⟨fun z => ?_, fun z => absurd z qq⟩
      exfalso
      revert z
      repeat' split
      all_goals decide
  · refine ⟨fun z => ?_, fun z => absurd z.1 hn⟩
    exfalso
    revert z
    repeat' split
    all_goals first | decide | (intro _; omega)
theorem wc_year (w : Nat → Nat) (p n : Nat) : wc9_ w p n = 12 ↔ n = 4 ∧ sr9_ w p [114, 97, 101, 121] = true := by
  unfold wc9_
  by_cases hn : n = 4
  · subst hn
    simp only [Nat.reduceEqDiff, if_false, if_neg, if_pos, true_and]
    have er : sr9_ w p [114, 97, 101, 121] = sp9_ w p [121, 101, 97, 114] := by
      simp only [sr9_, sp9_, List.length_cons, List.length_nil, Nat.add_zero, Nat.zero_add, Bool.and_true]
      (try simp only [Nat.add_assoc, Nat.reduceAdd])
      ac_rfl
    rw [er]
    by_cases q0 : sp9_ w p [100, 101, 97, 100] = true
    · rw [if_pos q0]
      refine ⟨fun z => absurd z (by decide), fun z => ?_⟩
      simp only [sp9_, Bool.and_eq_true, decide_eq_true_eq] at q0 z
      omega
    rw [if_neg q0]
    by_cases q1 : sp9_ w p [98, 111, 114, 110] = true
    · rw [if_pos q1]
      refine ⟨fun z => absurd z (by decide), fun z => ?_⟩
      simp only [sp9_, Bool.and_eq_true, decide_eq_true_eq] at q1 z
      omega
    rw [if_neg q1]
    by_cases qq : sp9_ w p [121, 101, 97, 114] = true
    · rw [if_pos qq]
      exact ⟨fun _ => qq, fun _ => rfl⟩
    · rw [if_neg qq]
      refine ⟨fun z => ?_, fun z => absurd z qq⟩
      exfalso
      revert z
      repeat' split
      all_goals decide
  · refine ⟨fun z => ?_, fun z => absurd z.1 hn⟩
    exfalso
    revert z
    repeat' split
    all_goals first | decide | (intro _; omega)
theorem wc_stale (w : Nat → Nat) (p n : Nat) : wc9_ w p n = 26 ↔ n = 5 ∧ sr9_ w p [101, 108, 97, 116, 115] = true := by
  unfold wc9_
  by_cases hn : n = 5
  · subst hn
    simp only [Nat.reduceEqDiff, if_false, if_neg, if_pos, true_and]
    have er : sr9_ w p [101, 108, 97, 116, 115] = sp9_ w p [115, 116, 97, 108, 101] := by
      simp only [sr9_, sp9_, List.length_cons, List.length_nil, Nat.add_zero, Nat.zero_add, Bool.and_true]
      (try simp only [Nat.add_assoc, Nat.reduceAdd])
      ac_rfl
    rw [er]
    by_cases qq : sp9_ w p [115, 116, 97, 108, 101] = true
    · rw [if_pos qq]
      exact ⟨fun _ => qq, fun _ => rfl⟩
    · rw [if_neg qq]
      refine ⟨fun z => ?_, fun z => absurd z qq⟩
      exfalso
      revert z
      repeat' split
      all_goals decide
  · refine ⟨fun z => ?_, fun z => absurd z.1 hn⟩
    exfalso
    revert z
    repeat' split
    all_goals first | decide | (intro _; omega)
theorem wc_worth (w : Nat → Nat) (p n : Nat) : wc9_ w p n = 13 ↔ n = 5 ∧ sr9_ w p [104, 116, 114, 111, 119] = true := by
  unfold wc9_
  by_cases hn : n = 5
  · subst hn
    simp only [Nat.reduceEqDiff, if_false, if_neg, if_pos, true_and]
    have er : sr9_ w p [104, 116, 114, 111, 119] = sp9_ w p [119, 111, 114, 116, 104] := by
      simp only [sr9_, sp9_, List.length_cons, List.length_nil, Nat.add_zero, Nat.zero_add, Bool.and_true]
      (try simp only [Nat.add_assoc, Nat.reduceAdd])
      ac_rfl
    rw [er]
    by_cases q0 : sp9_ w p [115, 116, 97, 108, 101] = true
    · rw [if_pos q0]
      refine ⟨fun z => absurd z (by decide), fun z => ?_⟩
      simp only [sp9_, Bool.and_eq_true, decide_eq_true_eq] at q0 z
      omega
    rw [if_neg q0]
    by_cases qq : sp9_ w p [119, 111, 114, 116, 104] = true
    · rw [if_pos qq]
      exact ⟨fun _ => qq, fun _ => rfl⟩
    · rw [if_neg qq]
      refine ⟨fun z => ?_, fun z => absurd z qq⟩
      exfalso
      revert z
      repeat' split
      all_goals decide
  · refine ⟨fun z => ?_, fun z => absurd z.1 hn⟩
    exfalso
    revert z
    repeat' split
    all_goals first | decide | (intro _; omega)
theorem wc_rival (w : Nat → Nat) (p n : Nat) : wc9_ w p n = 18 ↔ n = 5 ∧ sr9_ w p [108, 97, 118, 105, 114] = true := by
  unfold wc9_
  by_cases hn : n = 5
  · subst hn
    simp only [Nat.reduceEqDiff, if_false, if_neg, if_pos, true_and]
    have er : sr9_ w p [108, 97, 118, 105, 114] = sp9_ w p [114, 105, 118, 97, 108] := by
      simp only [sr9_, sp9_, List.length_cons, List.length_nil, Nat.add_zero, Nat.zero_add, Bool.and_true]
      (try simp only [Nat.add_assoc, Nat.reduceAdd])
      ac_rfl
    rw [er]
    by_cases q0 : sp9_ w p [115, 116, 97, 108, 101] = true
    · rw [if_pos q0]
      refine ⟨fun z => absurd z (by decide), fun z => ?_⟩
      simp only [sp9_, Bool.and_eq_true, decide_eq_true_eq] at q0 z
      omega
    rw [if_neg q0]
    by_cases q1 : sp9_ w p [119, 111, 114, 116, 104] = true
    · rw [if_pos q1]
      refine ⟨fun z => absurd z (by decide), fun z => ?_⟩
      simp only [sp9_, Bool.and_eq_true, decide_eq_true_eq] at q1 z
      omega
    rw [if_neg q1]
    by_cases qq : sp9_ w p [114, 105, 118, 97, 108] = true
    · rw [if_pos qq]
      exact ⟨fun _ => qq, fun _ => rfl⟩
    · rw [if_neg qq]
      refine ⟨fun z => ?_, fun z => absurd z qq⟩
      exfalso
      revert z
      repeat' split
      all_goals decide
  · refine ⟨fun z => ?_, fun z => absurd z.1 hn⟩
    exfalso
    revert z
    repeat' split
    all_goals first | decide | (intro _; omega)
theorem wc_hours (w : Nat → Nat) (p n : Nat) : wc9_ w p n = 20 ↔ n = 5 ∧ sr9_ w p [115, 114, 117, 111, 104] = true := by
  unfold wc9_
  by_cases hn : n = 5
  · subst hn
    simp only [Nat.reduceEqDiff, if_false, if_neg, if_pos, true_and]
    have er : sr9_ w p [115, 114, 117, 111, 104] = sp9_ w p [104, 111, 117, 114, 115] := by
      simp only [sr9_, sp9_, List.length_cons, List.length_nil, Nat.add_zero, Nat.zero_add, Bool.and_true]
      (try simp only [Nat.add_assoc, Nat.reduceAdd])
      ac_rfl
    rw [er]
    by_cases q0 : sp9_ w p [115, 116, 97, 108, 101] = true
    · rw [if_pos q0]
      refine ⟨fun z => absurd z (by decide), fun z => ?_⟩
      simp only [sp9_, Bool.and_eq_true, decide_eq_true_eq] at q0 z
      omega
    rw [if_neg q0]
    by_cases q1 : sp9_ w p [119, 111, 114, 116, 104] = true
    · rw [if_pos q1]
      refine ⟨fun z => absurd z (by decide), fun z => ?_⟩
      simp only [sp9_, Bool.and_eq_true, decide_eq_true_eq] at q1 z
      omega
    rw [if_neg q1]
    by_cases q2 : sp9_ w p [114, 105, 118, 97, 108] = true
    · rw [if_pos q2]
      refine ⟨fun z => absurd z (by decide), fun z => ?_⟩
      simp only [sp9_, Bool.and_eq_true, decide_eq_true_eq] at q2 z
      omega
    rw [if_neg q2]
    by_cases qq : sp9_ w p [104, 111, 117, 114, 115] = true
    · rw [if_pos qq]
      exact ⟨fun _ => qq, fun _ => rfl⟩
    · rw [if_neg qq]
      refine ⟨fun z => ?_, fun z => absurd z qq⟩
      exfalso
      revert z
      repeat' split
      all_goals decide
  · refine ⟨fun z => ?_, fun z => absurd z.1 hn⟩
    exfalso
    revert z
    repeat' split
    all_goals first | decide | (intro _; omega)
theorem wc_doctor (w : Nat → Nat) (p n : Nat) : wc9_ w p n = 15 ↔ n = 6 ∧ sr9_ w p [114, 111, 116, 99, 111, 100] = true := by
  unfold wc9_
  by_cases hn : n = 6
  · subst hn
    simp only [Nat.reduceEqDiff, if_false, if_neg, if_pos, true_and]
    have er : sr9_ w p [114, 111, 116, 99, 111, 100] = sp9_ w p [100, 111, 99, 116, 111, 114] := by
      simp only [sr9_, sp9_, List.length_cons, List.length_nil, Nat.add_zero, Nat.zero_add, Bool.and_true]
      (try simp only [Nat.add_assoc, Nat.reduceAdd])
      ac_rfl
    rw [er]
    by_cases qq : sp9_ w p [100, 111, 99, 116, 111, 114] = true
    · rw [if_pos qq]
      exact ⟨fun _ => qq, fun _ => rfl⟩
    · rw [if_neg qq]
      refine ⟨fun z => ?_, fun z => absurd z qq⟩
      exfalso
      revert z
      repeat' split
      all_goals decide
  · refine ⟨fun z => ?_, fun z => absurd z.1 hn⟩
    exfalso
    revert z
    repeat' split
    all_goals first | decide | (intro _; omega)
theorem wc_office (w : Nat → Nat) (p n : Nat) : wc9_ w p n = 16 ↔ n = 6 ∧ sr9_ w p [101, 99, 105, 102, 102, 111] = true := by
  unfold wc9_
  by_cases hn : n = 6
  · subst hn
    simp only [Nat.reduceEqDiff, if_false, if_neg, if_pos, true_and]
    have er : sr9_ w p [101, 99, 105, 102, 102, 111] = sp9_ w p [111, 102, 102, 105, 99, 101] := by
      simp only [sr9_, sp9_, List.length_cons, List.length_nil, Nat.add_zero, Nat.zero_add, Bool.and_true]
      (try simp only [Nat.add_assoc, Nat.reduceAdd])
      ac_rfl
    rw [er]
    by_cases q0 : sp9_ w p [100, 111, 99, 116, 111, 114] = true
    · rw [if_pos q0]
      refine ⟨fun z => absurd z (by decide), fun z => ?_⟩
      simp only [sp9_, Bool.and_eq_true, decide_eq_true_eq] at q0 z
      omega
    rw [if_neg q0]
    by_cases qq : sp9_ w p [111, 102, 102, 105, 99, 101] = true
    · rw [if_pos qq]
      exact ⟨fun _ => qq, fun _ => rfl⟩
    · rw [if_neg qq]
      refine ⟨fun z => ?_, fun z => absurd z qq⟩
      exfalso
      revert z
      repeat' split
      all_goals decide
  · refine ⟨fun z => ?_, fun z => absurd z.1 hn⟩
    exfalso
    revert z
    repeat' split
    all_goals first | decide | (intro _; omega)
theorem wc_agency (w : Nat → Nat) (p n : Nat) : wc9_ w p n = 17 ↔ n = 6 ∧ sr9_ w p [121, 99, 110, 101, 103, 97] = true := by
  unfold wc9_
  by_cases hn : n = 6
  · subst hn
    simp only [Nat.reduceEqDiff, if_false, if_neg, if_pos, true_and]
    have er : sr9_ w p [121, 99, 110, 101, 103, 97] = sp9_ w p [97, 103, 101, 110, 99, 121] := by
      simp only [sr9_, sp9_, List.length_cons, List.length_nil, Nat.add_zero, Nat.zero_add, Bool.and_true]
      (try simp only [Nat.add_assoc, Nat.reduceAdd])
      ac_rfl
    rw [er]
    by_cases q0 : sp9_ w p [100, 111, 99, 116, 111, 114] = true
    · rw [if_pos q0]
      refine ⟨fun z => absurd z (by decide), fun z => ?_⟩
      simp only [sp9_, Bool.and_eq_true, decide_eq_true_eq] at q0 z
      omega
    rw [if_neg q0]
    by_cases q1 : sp9_ w p [111, 102, 102, 105, 99, 101] = true
    · rw [if_pos q1]
      refine ⟨fun z => absurd z (by decide), fun z => ?_⟩
      simp only [sp9_, Bool.and_eq_true, decide_eq_true_eq] at q1 z
      omega
    rw [if_neg q1]
    by_cases qq : sp9_ w p [97, 103, 101, 110, 99, 121] = true
    · rw [if_pos qq]
      exact ⟨fun _ => qq, fun _ => rfl⟩
    · rw [if_neg qq]
      refine ⟨fun z => ?_, fun z => absurd z qq⟩
      exfalso
      revert z
      repeat' split
      all_goals decide
  · refine ⟨fun z => ?_, fun z => absurd z.1 hn⟩
    exfalso
    revert z
    repeat' split
    all_goals first | decide | (intro _; omega)
theorem wc_sources (w : Nat → Nat) (p n : Nat) : wc9_ w p n = 19 ↔ n = 7 ∧ sr9_ w p [115, 101, 99, 114, 117, 111, 115] = true := by
  unfold wc9_
  by_cases hn : n = 7
  · subst hn
    simp only [Nat.reduceEqDiff, if_false, if_neg, if_pos, true_and]
    have er : sr9_ w p [115, 101, 99, 114, 117, 111, 115] = sp9_ w p [115, 111, 117, 114, 99, 101, 115] := by
      simp only [sr9_, sp9_, List.length_cons, List.length_nil, Nat.add_zero, Nat.zero_add, Bool.and_true]
      (try simp only [Nat.add_assoc, Nat.reduceAdd])
      ac_rfl
    rw [er]
    by_cases qq : sp9_ w p [115, 111, 117, 114, 99, 101, 115] = true
    · rw [if_pos qq]
      exact ⟨fun _ => qq, fun _ => rfl⟩
    · rw [if_neg qq]
      refine ⟨fun z => ?_, fun z => absurd z qq⟩
      exfalso
      revert z
      repeat' split
      all_goals decide
  · refine ⟨fun z => ?_, fun z => absurd z.1 hn⟩
    exfalso
    revert z
    repeat' split
    all_goals first | decide | (intro _; omega)
section IW
variable {τ : TH} {y : Nat} {w : Nat → Nat} {z : TK}
theorem lgc_0 (x y : Int64) : lg_cmp x y = 0 ↔ x = y := by
  unfold lg_cmp
  by_cases h2 : x = y
  · subst h2
    simp [Int64.lt_irrefl]
  · by_cases h1 : y < x
    · simp [h1, h2]
    · simp [h1, h2]
theorem m_isWg (h : tv9_ τ y w z) (hy : kd_ τ y = 17) {id : Nat} {l : List Nat} {code : Nat} (hwo : f_X15_wordOf τ id = some (lN (rv9_ l), τ)) (hb : rv9_ l < 2 ^ 63) (hl : ∀ c, c ∈ l → 97 ≤ c ∧ c ≤ 122) (hc : 10 ≤ code ∧ code < 99) (hwc : ∀ p n, wc9_ w p n = code ↔ n = l.length ∧ sr9_ w p l = true) : f_X15_isWord τ y id = some (bi_ (z.1 = 4 ∧ z.2.1 = code), τ) := by
  obtain ⟨-, -, h3⟩ := h
  have no : ¬ z.1 = 4 → ¬ fi_ τ 1633 y = 2 → f_X15_isWord τ y id = some (bi_ (z.1 = 4 ∧ z.2.1 = code), τ) := fun n1 n2 => by
    simp [f_X15_isWord, f_X15_isWord_b32, f_X15_isWord_b33, gt_, lt_, nn_, oc_, bd_, hy, n2, bi_, n1]
  rcases h3 with ⟨e1, e2⟩ | ⟨e1, e2⟩ | ⟨e1, e2, -⟩ | ⟨e1, e2, -⟩ | ⟨e1, e2, p, q, h1, h2, h4, h5, h6, h7⟩
  · exact no (by omega) (by rw [e2]; decide)
  · exact no (by omega) (by rw [e2]; decide)
  · exact no (by omega) (by rw [e2]; decide)
  · exact no (by omega) (by rw [e2]; decide)
  · by_cases zd : tD (w q) = true
    · rw [if_pos zd] at h6
      have h48 : 48 ≤ w q ∧ w q ≤ 57 := by simpa [tD] using zd
      have n1 : ¬ nI (w q - 48) = -1 := nI_n1 (by omega)
      have n2 : ¬ z.2.1 = code := by
        rw [h7]
        unfold wv9_
        rw [if_pos zd]
        split <;> omega
      simp [f_X15_isWord, f_X15_isWord_b32, f_X15_isWord_b33, gt_, lt_, nn_, oc_, bd_, hy, e2, h6, n1, bi_, n2]
    · rw [if_neg zd] at h6
      have e7 : z.2.1 = wc9_ w p (q - p) := by
        rw [h7]; unfold wv9_; rw [if_neg zd]
      have hlet : ∀ i, p ≤ i → i < p + (q - p) → tL (w i) = true := fun i a b => h4 i a (by omega)
      have heq := pk9x_eq l (q - p) hl hlet
      have hlt := pk9x_lt hlet
      have hpw : 32 ^ (q - p) ≤ 32 ^ 8 := Nat.pow_le_pow_right (by decide) (by omega)
      have hcmp : lg_cmp (fl_ τ 1646 y) (lN (rv9_ l)) = 0 ↔ z.2.1 = code := by
        rw [lgc_0, h5, pk_lEQ (Nat.lt_of_lt_of_le hlt (Nat.le_trans hpw (by decide))) hb, heq, e7, hwc]
      by_cases zc : z.2.1 = code
      · simp [f_X15_isWord, f_X15_isWord_b32, f_X15_isWord_b33, gt_, lt_, nn_, oc_, bd_, hy, e2, h6, hwo, hcmp.mpr zc, bi_, e1, zc]
      · have this : ¬ lg_cmp (fl_ τ 1646 y) (lN (rv9_ l)) = 0 := fun q => zc (hcmp.mp q)
        simp [f_X15_isWord, f_X15_isWord_b32, f_X15_isWord_b33, gt_, lt_, nn_, oc_, bd_, hy, e2, h6, hwo, this, bi_, zc]
theorem m_w_if (h : tv9_ τ y w z) (hy : kd_ τ y = 17) : f_X15_isWord τ y 0 = some (bi_ (z.1 = 4 ∧ z.2.1 = 21), τ) := m_isWg (l := [102, 105]) h hy rfl (by decide) (by decide) (by decide) (wc_if w)
theorem m_w_or (h : tv9_ τ y w z) (hy : kd_ τ y = 17) : f_X15_isWord τ y 1 = some (bi_ (z.1 = 4 ∧ z.2.1 = 23), τ) := m_isWg (l := [114, 111]) h hy rfl (by decide) (by decide) (by decide) (wc_or w)
theorem m_w_and (h : tv9_ τ y w z) (hy : kd_ τ y = 17) : f_X15_isWord τ y 2 = some (bi_ (z.1 = 4 ∧ z.2.1 = 22), τ) := m_isWg (l := [100, 110, 97]) h hy rfl (by decide) (by decide) (by decide) (wc_and w)
theorem m_w_not (h : tv9_ τ y w z) (hy : kd_ τ y = 17) : f_X15_isWord τ y 3 = some (bi_ (z.1 = 4 ∧ z.2.1 = 24), τ) := m_isWg (l := [116, 111, 110]) h hy rfl (by decide) (by decide) (by decide) (wc_not w)
theorem m_w_has (h : tv9_ τ y w z) (hy : kd_ τ y = 17) : f_X15_isWord τ y 4 = some (bi_ (z.1 = 4 ∧ z.2.1 = 25), τ) := m_isWg (l := [115, 97, 104]) h hy rfl (by decide) (by decide) (by decide) (wc_has w)
theorem m_w_age (h : tv9_ τ y w z) (hy : kd_ τ y = 17) : f_X15_isWord τ y 5 = some (bi_ (z.1 = 4 ∧ z.2.1 = 10), τ) := m_isWg (l := [101, 103, 97]) h hy rfl (by decide) (by decide) (by decide) (wc_age w)
theorem m_w_kin (h : tv9_ τ y w z) (hy : kd_ τ y = 17) : f_X15_isWord τ y 6 = some (bi_ (z.1 = 4 ∧ z.2.1 = 14), τ) := m_isWg (l := [110, 105, 107]) h hy rfl (by decide) (by decide) (by decide) (wc_kin w)
theorem m_w_dead (h : tv9_ τ y w z) (hy : kd_ τ y = 17) : f_X15_isWord τ y 7 = some (bi_ (z.1 = 4 ∧ z.2.1 = 27), τ) := m_isWg (l := [100, 97, 101, 100]) h hy rfl (by decide) (by decide) (by decide) (wc_dead w)
theorem m_w_born (h : tv9_ τ y w z) (hy : kd_ τ y = 17) : f_X15_isWord τ y 8 = some (bi_ (z.1 = 4 ∧ z.2.1 = 11), τ) := m_isWg (l := [110, 114, 111, 98]) h hy rfl (by decide) (by decide) (by decide) (wc_born w)
theorem m_w_year (h : tv9_ τ y w z) (hy : kd_ τ y = 17) : f_X15_isWord τ y 9 = some (bi_ (z.1 = 4 ∧ z.2.1 = 12), τ) := m_isWg (l := [114, 97, 101, 121]) h hy rfl (by decide) (by decide) (by decide) (wc_year w)
theorem m_w_stale (h : tv9_ τ y w z) (hy : kd_ τ y = 17) : f_X15_isWord τ y 10 = some (bi_ (z.1 = 4 ∧ z.2.1 = 26), τ) := m_isWg (l := [101, 108, 97, 116, 115]) h hy rfl (by decide) (by decide) (by decide) (wc_stale w)
theorem m_w_worth (h : tv9_ τ y w z) (hy : kd_ τ y = 17) : f_X15_isWord τ y 11 = some (bi_ (z.1 = 4 ∧ z.2.1 = 13), τ) := m_isWg (l := [104, 116, 114, 111, 119]) h hy rfl (by decide) (by decide) (by decide) (wc_worth w)
theorem m_w_rival (h : tv9_ τ y w z) (hy : kd_ τ y = 17) : f_X15_isWord τ y 12 = some (bi_ (z.1 = 4 ∧ z.2.1 = 18), τ) := m_isWg (l := [108, 97, 118, 105, 114]) h hy rfl (by decide) (by decide) (by decide) (wc_rival w)
theorem m_w_hours (h : tv9_ τ y w z) (hy : kd_ τ y = 17) : f_X15_isWord τ y 13 = some (bi_ (z.1 = 4 ∧ z.2.1 = 20), τ) := m_isWg (l := [115, 114, 117, 111, 104]) h hy rfl (by decide) (by decide) (by decide) (wc_hours w)
theorem m_w_doctor (h : tv9_ τ y w z) (hy : kd_ τ y = 17) : f_X15_isWord τ y 14 = some (bi_ (z.1 = 4 ∧ z.2.1 = 15), τ) := m_isWg (l := [114, 111, 116, 99, 111, 100]) h hy rfl (by decide) (by decide) (by decide) (wc_doctor w)
theorem m_w_office (h : tv9_ τ y w z) (hy : kd_ τ y = 17) : f_X15_isWord τ y 15 = some (bi_ (z.1 = 4 ∧ z.2.1 = 16), τ) := m_isWg (l := [101, 99, 105, 102, 102, 111]) h hy rfl (by decide) (by decide) (by decide) (wc_office w)
theorem m_w_agency (h : tv9_ τ y w z) (hy : kd_ τ y = 17) : f_X15_isWord τ y 16 = some (bi_ (z.1 = 4 ∧ z.2.1 = 17), τ) := m_isWg (l := [121, 99, 110, 101, 103, 97]) h hy rfl (by decide) (by decide) (by decide) (wc_agency w)
theorem m_w_sources (h : tv9_ τ y w z) (hy : kd_ τ y = 17) : f_X15_isWord τ y 17 = some (bi_ (z.1 = 4 ∧ z.2.1 = 19), τ) := m_isWg (l := [115, 101, 99, 114, 117, 111, 115]) h hy rfl (by decide) (by decide) (by decide) (wc_sources w)
end IW
