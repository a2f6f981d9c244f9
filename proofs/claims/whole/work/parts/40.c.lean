/-! THE CHOICE, in plain numbers: a depth-first search with hopes, and a scan of all sets, find the same. CH: set, gain, cost. -/
abbrev CH : Type := Nat × Int × Int
def ck_ (ln : Nat → Int) (op : Nat → Bool) (b i : Nat) : Bool := op i && (decide (ln i = -1) || b.testBit (ln i).toNat)
def cs_ (g c : Nat → Int) (gap : Int) (s : CH) (i : Nat) : CH := (s.1 ||| 2 ^ i, s.2.1 + g i, s.2.2 + (if s.1 = 0 then c i else c i + gap))
/-- all sets that may be chosen, in the search's order -/
def cp_ (g c ln : Nat → Int) (op : Nat → Bool) (gap : Int) : Nat → Nat → CH → List CH
  | 0, _, s => [s]
  | k + 1, i, s => (if ck_ ln op s.1 i = true then cp_ g c ln op gap k (i + 1) (cs_ g c gap s i) else []) ++ cp_ g c ln op gap k (i + 1) s
def ho_ (g : Nat → Int) (op : Nat → Bool) : Nat → Nat → Int
  | 0, _ => 0
  | k + 1, i => ho_ g op k (i + 1) + (if op i = true then g i else 0)
abbrev im_ (lim : Int) (b t : CH) : Prop := t.2.2 ≤ lim ∧ (b.2.1 < t.2.1 ∨ (t.2.1 = b.2.1 ∧ t.2.2 < b.2.2))
def up9_ (lim : Int) (b t : CH) : CH := if im_ lim b t then t else b
/-- the search, with its hopes -/
def pk_ (g c ln : Nat → Int) (op : Nat → Bool) (gap lim : Int) : Nat → Nat → CH → CH → CH
  | 0, _, s, best => if lim < s.2.2 ∨ s.2.1 < best.2.1 ∨ (s.2.1 = best.2.1 ∧ best.2.2 ≤ s.2.2) then best else s
  | k + 1, i, s, best => if lim < s.2.2 ∨ s.2.1 + ho_ g op (k + 1) i < best.2.1 ∨ (s.2.1 + ho_ g op (k + 1) i = best.2.1 ∧ best.2.2 ≤ s.2.2) then best else pk_ g c ln op gap lim k (i + 1) s (if ck_ ln op s.1 i = true then pk_ g c ln op gap lim k (i + 1) (cs_ g c gap s i) best else best)
section CHO
variable {g c ln : Nat → Int} {op : Nat → Bool} {gap lim : Int}
theorem cp_bd (hg : ∀ j, 0 ≤ g j) (hc : ∀ j, 0 ≤ c j) (hp : 0 ≤ gap) : ∀ (k i : Nat) (s t : CH), t ∈ cp_ g c ln op gap k i s → t.2.1 ≤ s.2.1 + ho_ g op k i ∧ s.2.2 ≤ t.2.2 := by
  intro k
  induction k with
  | zero =>
    intro i s t h
    rw [List.mem_singleton.mp (show t ∈ [s] from h)]
    exact ⟨by simp [ho_], Int.le_refl _⟩
  | succ k ih =>
    intro i s t h
    have hgi := hg i
    have hci := hc i
    have hh : ho_ g op (k + 1) i = ho_ g op k (i + 1) + (if op i = true then g i else 0) := rfl
    rcases List.mem_append.mp (show t ∈ (if ck_ ln op s.1 i = true then cp_ g c ln op gap k (i + 1) (cs_ g c gap s i) else []) ++ cp_ g c ln op gap k (i + 1) s from h) with h1 | h1
    · by_cases hk : ck_ ln op s.1 i = true
      · rw [if_pos hk] at h1
        have h2 := ih _ _ _ h1
        have ho : op i = true := by
          unfold ck_ at hk
          exact (Bool.and_eq_true _ _ ▸ hk).1
        have e1 : (cs_ g c gap s i).2.1 = s.2.1 + g i := rfl
        have e2 : (cs_ g c gap s i).2.2 = s.2.2 + (if s.1 = 0 then c i else c i + gap) := rfl
        rw [e1, e2] at h2
        rw [hh, if_pos ho]
        refine ⟨by omega, ?_⟩
        have h3 := h2.2
        by_cases hz : s.1 = 0
        · rw [if_pos hz] at h3; omega
        · rw [if_neg hz] at h3; omega
      · rw [if_neg hk] at h1
        exact absurd h1 List.not_mem_nil
    · have h2 := ih _ _ _ h1
      rw [hh]
      by_cases ho : op i = true
      · rw [if_pos ho]; omega
      · rw [if_neg ho]; omega
theorem fold_no (l : List CH) (b : CH) (h : ∀ t ∈ l, ¬ im_ lim b t) : l.foldl (up9_ lim) b = b := by
  induction l with
  | nil => rfl
  | cons t l ih =>
    have e : up9_ lim b t = b := if_neg (h t List.mem_cons_self)
    rw [List.foldl_cons, e]
    exact ih (fun u hu => h u (List.mem_cons_of_mem _ hu))
theorem pk_fold (hg : ∀ j, 0 ≤ g j) (hc : ∀ j, 0 ≤ c j) (hp : 0 ≤ gap) : ∀ (k i : Nat) (s best : CH), pk_ g c ln op gap lim k i s best = (cp_ g c ln op gap k i s).foldl (up9_ lim) best := by
  intro k
  induction k with
  | zero =>
    intro i s best
    show (if lim < s.2.2 ∨ s.2.1 < best.2.1 ∨ (s.2.1 = best.2.1 ∧ best.2.2 ≤ s.2.2) then best else s) = if im_ lim best s then s else best
    by_cases h : im_ lim best s
    · rw [if_pos h, if_neg]
      unfold im_ at h
      omega
    · rw [if_neg h, if_pos]
      unfold im_ at h
      omega
  | succ k ih =>
    intro i s best
    show (if lim < s.2.2 ∨ s.2.1 + ho_ g op (k + 1) i < best.2.1 ∨ (s.2.1 + ho_ g op (k + 1) i = best.2.1 ∧ best.2.2 ≤ s.2.2) then best else pk_ g c ln op gap lim k (i + 1) s (if ck_ ln op s.1 i = true then pk_ g c ln op gap lim k (i + 1) (cs_ g c gap s i) best else best)) = _
    by_cases h : lim < s.2.2 ∨ s.2.1 + ho_ g op (k + 1) i < best.2.1 ∨ (s.2.1 + ho_ g op (k + 1) i = best.2.1 ∧ best.2.2 ≤ s.2.2)
    · rw [if_pos h]
      refine (fold_no _ _ (fun t ht => ?_)).symm
      have h2 := cp_bd hg hc hp (k + 1) i s t ht
      unfold im_
      omega
    · rw [if_neg h]
      show _ = ((if ck_ ln op s.1 i = true then cp_ g c ln op gap k (i + 1) (cs_ g c gap s i) else []) ++ cp_ g c ln op gap k (i + 1) s).foldl (up9_ lim) best
      rw [List.foldl_append, ih]
      by_cases hk : ck_ ln op s.1 i = true
      · rw [if_pos hk, if_pos hk, ih]
      · rw [if_neg hk, if_neg hk]
        rfl
end CHO
/-- the lowest place where two sets differ lies in the first -/
def lo_ (a b : Nat) : Prop := ∃ k, a.testBit k = true ∧ b.testBit k = false ∧ ∀ j, j < k → a.testBit j = b.testBit j
theorem lo_asym {a b : Nat} (h : lo_ a b) (h2 : lo_ b a) : False := by
  obtain ⟨k, h1, h3, h4⟩ := h
  obtain ⟨m, g1, g3, g4⟩ := h2
  rcases Nat.lt_trichotomy k m with q | q | q
  · rw [g4 k q, h1] at h3; cases h3
  · subst q; rw [h1] at g3; cases g3
  · rw [h4 m q, g1] at g3; cases g3
theorem lo_total {a b : Nat} (h : a ≠ b) : lo_ a b ∨ lo_ b a := by
  have hex : ∃ k, a.testBit k ≠ b.testBit k := by
    refine Classical.byContradiction (fun q => h (Nat.eq_of_testBit_eq (fun i => ?_)))
    exact Classical.byContradiction (fun r => q ⟨i, r⟩)
  have key : ∀ n, (∃ k, k < n ∧ a.testBit k ≠ b.testBit k) → ∃ k, a.testBit k ≠ b.testBit k ∧ ∀ j, j < k → a.testBit j = b.testBit j := by
    intro n
    induction n with
    | zero => rintro ⟨k, hk, -⟩; exact absurd hk (Nat.not_lt_zero k)
    | succ n ih =>
      rintro ⟨k, hk, hd⟩
      by_cases hq : ∃ j, j < n ∧ a.testBit j ≠ b.testBit j
      · exact ih hq
      · have : k = n := by
          rcases Nat.lt_or_ge k n with r | r
          · exact absurd ⟨k, r, hd⟩ hq
          · omega
        subst this
        exact ⟨k, hd, fun j hj => Classical.byContradiction (fun r => hq ⟨j, hj, r⟩)⟩
  obtain ⟨k0, hk0⟩ := hex
  obtain ⟨k, hd, hl⟩ := key (k0 + 1) ⟨k0, Nat.lt_succ_self _, hk0⟩
  cases ha : a.testBit k
  · refine Or.inr ⟨k, ?_, ha, fun j hj => (hl j hj).symm⟩
    cases hb : b.testBit k
    · exact absurd (ha.trans hb.symm) hd
    · rfl
  · refine Or.inl ⟨k, ha, ?_, hl⟩
    cases hb : b.testBit k
    · rfl
    · exact absurd (ha.trans hb.symm) hd
theorem lo_trans {a b c : Nat} (h : lo_ a b) (h2 : lo_ b c) : lo_ a c := by
  obtain ⟨k, h1, h3, h4⟩ := h
  obtain ⟨m, g1, g3, g4⟩ := h2
  rcases Nat.lt_trichotomy k m with q | q | q
  · exact ⟨k, h1, by rw [← g4 k q]; exact h3, fun j hj => (h4 j hj).trans (g4 j (Nat.lt_trans hj q))⟩
  · subst q; rw [g1] at h3; cases h3
  · exact ⟨m, by rw [h4 m q]; exact g1, g3, fun j hj => (h4 j (Nat.lt_trans hj q)).trans (g4 j hj)⟩
/-- one is better than another -/
def bt_ (s t : CH) : Prop := t.2.1 < s.2.1 ∨ (s.2.1 = t.2.1 ∧ (s.2.2 < t.2.2 ∨ (s.2.2 = t.2.2 ∧ lo_ s.1 t.1)))
theorem bt_asym {s t : CH} (h : bt_ s t) (h2 : bt_ t s) : False := by
  unfold bt_ at h h2
  rcases h with h | ⟨e1, h | ⟨e2, h⟩⟩
  · rcases h2 with g | ⟨f1, g⟩
    · omega
    · omega
  · rcases h2 with g | ⟨f1, g | ⟨f2, g⟩⟩ <;> omega
  · rcases h2 with g | ⟨f1, g | ⟨f2, g⟩⟩
    · omega
    · omega
    · exact lo_asym h g
theorem bt_trans {s t u : CH} (h : bt_ s t) (h2 : bt_ t u) : bt_ s u := by
  unfold bt_ at h h2 ⊢
  rcases h with h | ⟨e1, h | ⟨e2, h⟩⟩
  · rcases h2 with g | ⟨f1, g | ⟨f2, g⟩⟩
    · exact Or.inl (by omega)
    · exact Or.inl (by omega)
    · exact Or.inl (by omega)
  · rcases h2 with g | ⟨f1, g | ⟨f2, g⟩⟩
    · exact Or.inl (by omega)
    · exact Or.inr ⟨by omega, Or.inl (by omega)⟩
    · exact Or.inr ⟨by omega, Or.inl (by omega)⟩
  · rcases h2 with g | ⟨f1, g | ⟨f2, g⟩⟩
    · exact Or.inl (by omega)
    · exact Or.inr ⟨by omega, Or.inl (by omega)⟩
    · exact Or.inr ⟨by omega, Or.inr ⟨by omega, lo_trans h g⟩⟩
theorem fold_max {lim : Int} (l : List CH) (hp : l.Pairwise (fun a b => lo_ a.1 b.1)) : ∀ b : CH, (l.foldl (up9_ lim) b = b ∧ ∀ t ∈ l, ¬ im_ lim b t) ∨ (l.foldl (up9_ lim) b ∈ l ∧ im_ lim b (l.foldl (up9_ lim) b) ∧ ∀ t ∈ l, t.2.2 ≤ lim → t ≠ l.foldl (up9_ lim) b → bt_ (l.foldl (up9_ lim) b) t) := by
  induction l with
  | nil => intro b; exact Or.inl ⟨rfl, fun t h => nomatch h⟩
  | cons t l ih =>
    intro b
    rw [List.pairwise_cons] at hp
    rw [List.foldl_cons]
    by_cases hi : im_ lim b t
    · have e : up9_ lim b t = t := if_pos hi
      rw [e]
      rcases ih hp.2 t with ⟨h1, h2⟩ | ⟨h1, h2, h3⟩
      · rw [h1]
        refine Or.inr ⟨List.mem_cons_self, hi, fun u hu hc hn => ?_⟩
        rcases List.mem_cons.mp hu with rfl | hu
        · exact absurd rfl hn
        · have h4 := h2 u hu
          have h5 := hp.1 u hu
          unfold im_ at h4
          unfold bt_
          by_cases q1 : u.2.1 < t.2.1
          · exact Or.inl q1
          · by_cases q2 : t.2.2 < u.2.2
            · exact Or.inr ⟨by omega, Or.inl q2⟩
            · exact Or.inr ⟨by omega, Or.inr ⟨by omega, h5⟩⟩
      · refine Or.inr ⟨List.mem_cons_of_mem _ h1, ?_, fun u hu hc hn => ?_⟩
        · unfold im_ at hi h2 ⊢
          omega
        · rcases List.mem_cons.mp hu with rfl | hu
          · unfold im_ at h2
            unfold bt_
            rcases h2.2 with q | q
            · exact Or.inl q
            · exact Or.inr ⟨q.1, Or.inl q.2⟩
          · exact h3 u hu hc hn
    · have e : up9_ lim b t = b := if_neg hi
      rw [e]
      rcases ih hp.2 b with ⟨h1, h2⟩ | ⟨h1, h2, h3⟩
      · refine Or.inl ⟨h1, fun u hu => ?_⟩
        rcases List.mem_cons.mp hu with rfl | hu
        · exact hi
        · exact h2 u hu
      · refine Or.inr ⟨List.mem_cons_of_mem _ h1, h2, fun u hu hc hn => ?_⟩
        rcases List.mem_cons.mp hu with rfl | hu
        · unfold im_ at h2 hi
          unfold bt_
          by_cases q1 : u.2.1 < (l.foldl (up9_ lim) b).2.1
          · exact Or.inl q1
          · exact Or.inr ⟨by omega, Or.inl (by omega)⟩
        · exact h3 u hu hc hn
/-- the scan's step -/
theorem fold_scan {lim : Int} (f : CH → CH → CH) (hf : ∀ b t, f b t = t ∧ t.2.2 ≤ lim ∧ bt_ t b ∨ f b t = b ∧ ¬ (t.2.2 ≤ lim ∧ bt_ t b)) (l : List CH) : ∀ b : CH, (l.foldl f b = b ∨ (l.foldl f b ∈ l ∧ (l.foldl f b).2.2 ≤ lim)) ∧ (l.foldl f b = b ∨ bt_ (l.foldl f b) b) ∧ ∀ t ∈ l, t.2.2 ≤ lim → ¬ bt_ t (l.foldl f b) := by
  induction l with
  | nil => intro b; exact ⟨Or.inl rfl, Or.inl rfl, fun t h => nomatch h⟩
  | cons t l ih =>
    intro b
    rw [List.foldl_cons]
    rcases hf b t with ⟨e, h1, h2⟩ | ⟨e, h1⟩
    · rw [e]
      obtain ⟨i1, i2, i3⟩ := ih t
      refine ⟨Or.inr ?_, Or.inr ?_, fun u hu hc hb => ?_⟩
      · rcases i1 with q | q
        · rw [q]; exact ⟨List.mem_cons_self, h1⟩
        · exact ⟨List.mem_cons_of_mem _ q.1, q.2⟩
      · rcases i2 with q | q
        · rw [q]; exact h2
        · exact bt_trans q h2
      · rcases List.mem_cons.mp hu with rfl | hu
        · rcases i2 with q | q
          · rw [q] at hb; exact bt_asym hb hb
          · exact bt_asym hb q
        · exact i3 u hu hc hb
    · rw [e]
      obtain ⟨i1, i2, i3⟩ := ih b
      refine ⟨?_, i2, fun u hu hc hb => ?_⟩
      · rcases i1 with q | q
        · exact Or.inl q
        · exact Or.inr ⟨List.mem_cons_of_mem _ q.1, q.2⟩
      · rcases List.mem_cons.mp hu with rfl | hu
        · refine h1 ⟨hc, ?_⟩
          rcases i2 with q | q
          · rw [q] at hb; exact hb
          · exact bt_trans hb q
        · exact i3 u hu hc hb
section CHO2
variable {g c ln : Nat → Int} {op : Nat → Bool} {gap lim : Int}
theorem bt_or (a i j : Nat) : (a ||| 2 ^ i).testBit j = (a.testBit j || decide (i = j)) := by
  rw [Nat.testBit_or, Nat.testBit_two_pow]
theorem cp_bits : ∀ (k i : Nat) (s t : CH), t ∈ cp_ g c ln op gap k i s → ∀ j, j < i → t.1.testBit j = s.1.testBit j := by
  intro k
  induction k with
  | zero =>
    intro i s t h j _
    rw [List.mem_singleton.mp (show t ∈ [s] from h)]
  | succ k ih =>
    intro i s t h j hj
    rcases List.mem_append.mp (show t ∈ (if ck_ ln op s.1 i = true then cp_ g c ln op gap k (i + 1) (cs_ g c gap s i) else []) ++ cp_ g c ln op gap k (i + 1) s from h) with h1 | h1
    · by_cases hk : ck_ ln op s.1 i = true
      · rw [if_pos hk] at h1
        rw [ih _ _ _ h1 j (by omega)]
        show (s.1 ||| 2 ^ i).testBit j = s.1.testBit j
        rw [bt_or, decide_eq_false (by omega), Bool.or_false]
      · rw [if_neg hk] at h1
        exact absurd h1 List.not_mem_nil
    · exact ih _ _ _ h1 j (by omega)
theorem cp_sorted : ∀ (k i : Nat) (s : CH), s.1.testBit i = false → (∀ j, i ≤ j → s.1.testBit j = false) → (cp_ g c ln op gap k i s).Pairwise (fun a b => lo_ a.1 b.1) := by
  intro k
  induction k with
  | zero => intro i s _ _; exact List.pairwise_singleton _ _
  | succ k ih =>
    intro i s h0 hs
    show ((if ck_ ln op s.1 i = true then cp_ g c ln op gap k (i + 1) (cs_ g c gap s i) else []) ++ cp_ g c ln op gap k (i + 1) s).Pairwise (fun a b => lo_ a.1 b.1)
    have hr := ih (i + 1) s (hs _ (by omega)) (fun j hj => hs j (by omega))
    by_cases hk : ck_ ln op s.1 i = true
    · rw [if_pos hk]
      have hcs : ∀ j, i + 1 ≤ j → (cs_ g c gap s i).1.testBit j = false := fun j hj => by
        show (s.1 ||| 2 ^ i).testBit j = false
        rw [bt_or, hs j (by omega), decide_eq_false (by omega)]
        rfl
      refine List.pairwise_append.mpr ⟨ih (i + 1) _ (hcs _ (Nat.le_refl _)) hcs, hr, fun a ha b hb => ⟨i, ?_, ?_, fun j hj => ?_⟩⟩
      · rw [cp_bits _ _ _ _ ha i (by omega)]
        show (s.1 ||| 2 ^ i).testBit i = true
        rw [bt_or, decide_eq_true rfl, Bool.or_true]
      · rw [cp_bits _ _ _ _ hb i (by omega)]
        exact h0
      · rw [cp_bits _ _ _ _ ha j (by omega), cp_bits _ _ _ _ hb j (by omega)]
        show (s.1 ||| 2 ^ i).testBit j = s.1.testBit j
        rw [bt_or, decide_eq_false (by omega), Bool.or_false]
    · rw [if_neg hk, List.nil_append]
      exact hr
/-- a set's own way -/
def pa_ (g c : Nat → Int) (gap : Int) (u : Nat) : Nat → Nat → CH → CH
  | 0, _, s => s
  | k + 1, i, s => if u.testBit i = true then pa_ g c gap u k (i + 1) (cs_ g c gap s i) else pa_ g c gap u k (i + 1) s
def fe_ (ln : Nat → Int) (op : Nat → Bool) (u n : Nat) : Prop := ∀ i, i < n → u.testBit i = true → op i = true ∧ (ln i = -1 ∨ u.testBit (ln i).toNat = true)
theorem pa_bits : ∀ (k i : Nat) (s : CH) (u : Nat), (∀ j, i ≤ j → s.1.testBit j = false) → ∀ j, (pa_ g c gap u k i s).1.testBit j = (s.1.testBit j || (decide (i ≤ j ∧ j < i + k) && u.testBit j)) := by
  intro k
  induction k with
  | zero =>
    intro i s u _ j
    show s.1.testBit j = _
    rw [decide_eq_false (by omega), Bool.false_and, Bool.or_false]
  | succ k ih =>
    intro i s u hs j
    show (if u.testBit i = true then pa_ g c gap u k (i + 1) (cs_ g c gap s i) else pa_ g c gap u k (i + 1) s).1.testBit j = _
    by_cases hu : u.testBit i = true
    · rw [if_pos hu, ih (i + 1) _ u (fun j hj => by
        show (s.1 ||| 2 ^ i).testBit j = false
        rw [bt_or, hs j (by omega), decide_eq_false (by omega)]
        rfl)]
      show ((s.1 ||| 2 ^ i).testBit j || _) = _
      rw [bt_or]
      by_cases hj : i = j
      · subst hj
        rw [decide_eq_true rfl, decide_eq_true (show i ≤ i ∧ i < i + (k + 1) by omega), hu]
        simp
      · rw [decide_eq_false hj, Bool.or_false]
        by_cases h2 : i + 1 ≤ j ∧ j < i + 1 + k
        · rw [decide_eq_true h2, decide_eq_true (show i ≤ j ∧ j < i + (k + 1) by omega)]
        · rw [decide_eq_false h2, decide_eq_false (show ¬ (i ≤ j ∧ j < i + (k + 1)) by omega)]
    · rw [if_neg hu, ih (i + 1) s u (fun j hj => hs j (by omega))]
      by_cases hj : i = j
      · subst hj
        rw [decide_eq_false (show ¬ (i + 1 ≤ i ∧ i < i + 1 + k) by omega), Bool.false_and]
        have : u.testBit i = false := by
          cases h : u.testBit i
          · rfl
          · exact absurd h hu
        rw [this, Bool.and_false]
      · by_cases h2 : i + 1 ≤ j ∧ j < i + 1 + k
        · rw [decide_eq_true h2, decide_eq_true (show i ≤ j ∧ j < i + (k + 1) by omega)]
        · rw [decide_eq_false h2, decide_eq_false (show ¬ (i ≤ j ∧ j < i + (k + 1)) by omega)]
/-- what may be chosen: the ways of the sets that lean on nothing that is gone -/
theorem cp_iff (hln : ∀ i, ln i = -1 ∨ (0 ≤ ln i ∧ ln i < i)) (u : Nat) : ∀ (k i : Nat) (s : CH), (∀ j, i ≤ j → s.1.testBit j = false) → (∀ j, j < i → s.1.testBit j = u.testBit j) → (∀ q, i ≤ q → q < i + k → u.testBit q = true → op q = true ∧ (ln q = -1 ∨ u.testBit (ln q).toNat = true)) → pa_ g c gap u k i s ∈ cp_ g c ln op gap k i s := by
  intro k
  induction k with
  | zero => intro i s _ _ _; exact List.mem_singleton.mpr rfl
  | succ k ih =>
    intro i s hs hb hf
    show (if u.testBit i = true then pa_ g c gap u k (i + 1) (cs_ g c gap s i) else pa_ g c gap u k (i + 1) s) ∈ (if ck_ ln op s.1 i = true then cp_ g c ln op gap k (i + 1) (cs_ g c gap s i) else []) ++ cp_ g c ln op gap k (i + 1) s
    by_cases hu : u.testBit i = true
    · rw [if_pos hu]
      have h1 := hf i (Nat.le_refl _) (by omega) hu
      have hk : ck_ ln op s.1 i = true := by
        unfold ck_
        rw [h1.1, Bool.true_and]
        rcases h1.2 with q | q
        · rw [decide_eq_true q, Bool.true_or]
        · rcases hln i with r | r
          · rw [decide_eq_true r, Bool.true_or]
          · rw [hb _ (by omega), q, Bool.or_true]
      rw [if_pos hk]
      refine List.mem_append_left _ (ih (i + 1) _ (fun j hj => ?_) (fun j hj => ?_) (fun q h1 h2 => hf q (by omega) (by omega)))
      · show (s.1 ||| 2 ^ i).testBit j = false
        rw [bt_or, hs j (by omega), decide_eq_false (by omega)]
        rfl
      · show (s.1 ||| 2 ^ i).testBit j = u.testBit j
        rw [bt_or]
        by_cases hj2 : i = j
        · subst hj2; rw [decide_eq_true rfl, Bool.or_true, hu]
        · rw [decide_eq_false hj2, Bool.or_false]; exact hb j (by omega)
    · rw [if_neg hu]
      refine List.mem_append_right _ (ih (i + 1) s (fun j hj => hs j (by omega)) (fun j hj => ?_) (fun q h1 h2 => hf q (by omega) (by omega)))
      by_cases hj2 : j = i
      · subst hj2
        rw [hs _ (Nat.le_refl _)]
        cases h : u.testBit j
        · rfl
        · exact absurd h hu
      · exact hb j (by omega)
theorem cp_of (hln : ∀ i, ln i = -1 ∨ (0 ≤ ln i ∧ ln i < i)) : ∀ (k i : Nat) (s t : CH), (∀ j, i ≤ j → s.1.testBit j = false) → t ∈ cp_ g c ln op gap k i s → t = pa_ g c gap t.1 k i s ∧ ∀ q, i ≤ q → t.1.testBit q = true → q < i + k ∧ op q = true ∧ (ln q = -1 ∨ t.1.testBit (ln q).toNat = true) := by
  intro k
  induction k with
  | zero =>
    intro i s t hs h
    have e := List.mem_singleton.mp (show t ∈ [s] from h)
    subst e
    exact ⟨rfl, fun q hq h2 => by rw [hs q hq] at h2; cases h2⟩
  | succ k ih =>
    intro i s t hs h
    show t = (if t.1.testBit i = true then pa_ g c gap t.1 k (i + 1) (cs_ g c gap s i) else pa_ g c gap t.1 k (i + 1) s) ∧ _
    rcases List.mem_append.mp (show t ∈ (if ck_ ln op s.1 i = true then cp_ g c ln op gap k (i + 1) (cs_ g c gap s i) else []) ++ cp_ g c ln op gap k (i + 1) s from h) with h1 | h1
    · by_cases hk : ck_ ln op s.1 i = true
      · rw [if_pos hk] at h1
        have hb : t.1.testBit i = true := by
          rw [cp_bits _ _ _ _ h1 i (by omega)]
          show (s.1 ||| 2 ^ i).testBit i = true
          rw [bt_or, decide_eq_true rfl, Bool.or_true]
        have hlow : ∀ j, j < i → t.1.testBit j = s.1.testBit j := fun j hj => by
          rw [cp_bits _ _ _ _ h1 j (by omega)]
          show (s.1 ||| 2 ^ i).testBit j = s.1.testBit j
          rw [bt_or, decide_eq_false (by omega), Bool.or_false]
        obtain ⟨i1, i2⟩ := ih (i + 1) _ t (fun j hj => by
          show (s.1 ||| 2 ^ i).testBit j = false
          rw [bt_or, hs j (by omega), decide_eq_false (by omega)]
          rfl) h1
        rw [if_pos hb]
        refine ⟨i1, fun q hq h2 => ?_⟩
        by_cases hq2 : q = i
        · subst hq2
          unfold ck_ at hk
          obtain ⟨k1, k2⟩ := Bool.and_eq_true _ _ ▸ hk
          refine ⟨by omega, k1, ?_⟩
          rcases hln q with r | r
          · exact Or.inl r
          · rcases Bool.or_eq_true _ _ |>.mp k2 with k3 | k3
            · exact Or.inl (of_decide_eq_true k3)
            · exact Or.inr (by rw [hlow _ (by omega)]; exact k3)
        · obtain ⟨j1, j2, j3⟩ := i2 q (by omega) h2
          exact ⟨by omega, j2, j3⟩
      · rw [if_neg hk] at h1
        exact absurd h1 List.not_mem_nil
    · have hb : ¬ t.1.testBit i = true := by
        rw [cp_bits _ _ _ _ h1 i (by omega), hs i (Nat.le_refl _)]
        decide
      obtain ⟨i1, i2⟩ := ih (i + 1) s t (fun j hj => hs j (by omega)) h1
      rw [if_neg hb]
      refine ⟨i1, fun q hq h2 => ?_⟩
      by_cases hq2 : q = i
      · subst hq2; exact absurd h2 hb
      · obtain ⟨j1, j2, j3⟩ := i2 q (by omega) h2
        exact ⟨by omega, j2, j3⟩
/-- THE SAME CHOICE: the search from nothing, and any scan of all sets that keeps the better one -/
theorem choice_same (hg : ∀ j, 0 ≤ g j) (hc : ∀ j, 0 ≤ c j) (hp : 0 ≤ gap) (hl : 0 ≤ lim) (hln : ∀ i, ln i = -1 ∨ (0 ≤ ln i ∧ ln i < i)) (n : Nat) (f : CH → CH → CH) (hf : ∀ b t, f b t = t ∧ t.2.2 ≤ lim ∧ bt_ t b ∨ f b t = b ∧ ¬ (t.2.2 ≤ lim ∧ bt_ t b)) (l : List CH) (hmem : ∀ t : CH, t ∈ l ↔ ∃ u, 0 < u ∧ u < 2 ^ n ∧ fe_ ln op u n ∧ t = pa_ g c gap u n 0 (0, 0, 0)) : l.foldl f (0, 0, 0) = pk_ g c ln op gap lim n 0 (0, 0, 0) (0, -1, lim + 1) := by
  have z0 : ∀ j, 0 ≤ j → (0 : Nat).testBit j = false := fun j _ => Nat.zero_testBit j
  rw [pk_fold hg hc hp]
  have hsort := cp_sorted (g := g) (c := c) (ln := ln) (op := op) (gap := gap) n 0 (0, 0, 0) (Nat.zero_testBit 0) z0
  have hzero : ((0, 0, 0) : CH) ∈ cp_ g c ln op gap n 0 (0, 0, 0) := by
    have h1 := cp_iff (g := g) (c := c) (op := op) (gap := gap) hln 0 n 0 (0, 0, 0) z0 (fun j hj => absurd hj (Nat.not_lt_zero j)) (fun q _ _ h => by rw [Nat.zero_testBit] at h; cases h)
    have h2 : ∀ (k i : Nat) (s : CH), pa_ g c gap 0 k i s = s := by
      intro k
      induction k with
      | zero => intro i s; rfl
      | succ k ih =>
        intro i s
        show (if (0 : Nat).testBit i = true then pa_ g c gap 0 k (i + 1) (cs_ g c gap s i) else pa_ g c gap 0 k (i + 1) s) = s
        rw [if_neg (by rw [Nat.zero_testBit]; decide), ih]
    rw [h2] at h1
    exact h1
  -- members of both
  have hm1 : ∀ t, t ∈ cp_ g c ln op gap n 0 (0, 0, 0) → t = (0, 0, 0) ∨ t ∈ l := fun t ht => by
    obtain ⟨a1, a2⟩ := cp_of hln n 0 (0, 0, 0) t z0 ht
    by_cases hz : t.1 = 0
    · refine Or.inl ?_
      rw [hz] at a1
      rw [a1]
      have h2 : ∀ (k i : Nat) (s : CH), pa_ g c gap 0 k i s = s := by
        intro k
        induction k with
        | zero => intro i s; rfl
        | succ k ih =>
          intro i s
          show (if (0 : Nat).testBit i = true then pa_ g c gap 0 k (i + 1) (cs_ g c gap s i) else pa_ g c gap 0 k (i + 1) s) = s
          rw [if_neg (by rw [Nat.zero_testBit]; decide), ih]
      exact h2 _ _ _
    · refine Or.inr ((hmem t).mpr ⟨t.1, Nat.pos_of_ne_zero hz, ?_, fun i hi hb => ?_, a1⟩)
      · refine Nat.lt_pow_two_of_testBit _ (fun i hi => ?_)
        cases hb : t.1.testBit i
        · rfl
        · have := (a2 i (Nat.zero_le _) hb).1
          omega
      · exact (a2 i (Nat.zero_le _) hb).2
  have hm2 : ∀ t, t ∈ l → t ∈ cp_ g c ln op gap n 0 (0, 0, 0) := fun t ht => by
    obtain ⟨u, h1, h2, h3, rfl⟩ := (hmem t).mp ht
    exact cp_iff hln u n 0 (0, 0, 0) z0 (fun j hj => absurd hj (Nat.not_lt_zero j)) (fun q _ hq hb => h3 q (by omega) hb)
  obtain ⟨i1, i2, i3⟩ := fold_scan (lim := lim) f hf l (0, 0, 0)
  have hr2 : l.foldl f (0, 0, 0) ∈ cp_ g c ln op gap n 0 (0, 0, 0) ∧ (l.foldl f (0, 0, 0)).2.2 ≤ lim := by
    rcases i1 with q | q
    · rw [q]; exact ⟨hzero, hl⟩
    · exact ⟨hm2 _ q.1, q.2⟩
  rcases fold_max (lim := lim) _ hsort (0, -1, lim + 1) with ⟨h1, h2⟩ | ⟨h1, h2, h3⟩
  · exact absurd ⟨hl, Or.inl (show (-1 : Int) < 0 by decide)⟩ (h2 _ hzero)
  · refine Classical.byContradiction (fun hne => ?_)
    have hb1 := h3 _ hr2.1 hr2.2 hne
    rcases hm1 _ h1 with e | e
    · rcases i2 with q | q
      · exact hne (q.trans e.symm)
      · rw [e] at hb1
        exact bt_asym q hb1
    · exact i3 _ e h2.1 hb1
end CHO2
