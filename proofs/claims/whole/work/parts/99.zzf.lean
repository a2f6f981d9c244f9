/-! A WEEK: the twelve best, pure; lists from which is taken. Written by wip/b/mk99zzf.py. -/
section TOP
variable {g : Nat → Nat}
/-- q goes before p -/
def bea9_ (g : Nat → Nat) (q p : Nat) : Bool := decide (g p < g q) || (decide (g q = g p) && decide (q < p))
theorem bea9_iff {q p : Nat} : bea9_ g q p = true ↔ g p < g q ∨ (g q = g p ∧ q < p) := by
  unfold bea9_
  simp
theorem bea9_as {q p : Nat} (h : bea9_ g q p = true) : bea9_ g p q = false := by
  cases e : bea9_ g p q with
  | false => rfl
  | true =>
    rw [bea9_iff] at h e
    omega
theorem bea9_ir (p : Nat) : bea9_ g p p = false := by
  cases e : bea9_ g p p with
  | false => rfl
  | true =>
    rw [bea9_iff] at e
    omega
def rk9_ (g : Nat → Nat) (l : List Nat) (p : Nat) : Nat := l.countP (fun q => bea9_ g q p)
/-- the twelve best -/
def top9_ (g : Nat → Nat) (l : List Nat) : List Nat := l.filter (fun p => decide (rk9_ g l p < 12))
theorem rk9_mid (a b : List Nat) (w p : Nat) : rk9_ g (a ++ w :: b) p = rk9_ g (a ++ b) p + (if bea9_ g w p = true then 1 else 0) := by
  unfold rk9_
  rw [List.countP_append, List.countP_append, List.countP_cons]
  omega
theorem top9_worst {a b : List Nat} {w : Nat} (h : ∀ q, q ∈ a ++ b → bea9_ g q w = true) (hl : 12 ≤ (a ++ b).length) : top9_ g (a ++ w :: b) = top9_ g (a ++ b) := by
  unfold top9_
  have e1 : ∀ p, p ∈ a ++ b → rk9_ g (a ++ w :: b) p = rk9_ g (a ++ b) p := fun p hp => by
    rw [rk9_mid, bea9_as (h p hp)]
    rfl
  have e2 : rk9_ g (a ++ w :: b) w = (a ++ b).length := by
    rw [rk9_mid, bea9_ir]
    unfold rk9_
    exact List.countP_eq_length.mpr h
  rw [List.filter_append, List.filter_cons, e2, decide_eq_false (by omega), List.filter_append]
  rw [if_neg (by decide)]
  rw [List.filter_congr (l := a) (q := fun p => decide (rk9_ g (a ++ b) p < 12)) (fun p hp => by rw [e1 p (List.mem_append.mpr (Or.inl hp))]), List.filter_congr (l := b) (q := fun p => decide (rk9_ g (a ++ b) p < 12)) (fun p hp => by rw [e1 p (List.mem_append.mpr (Or.inr hp))])]
theorem top9_all {l : List Nat} (h : l.length ≤ 12) : top9_ g l = l := by
  unfold top9_
  refine List.filter_eq_self.mpr (fun p hp => ?_)
  have : rk9_ g l p < l.length := by
    obtain ⟨a, b, e⟩ := List.append_of_mem hp
    rw [e, rk9_mid, bea9_ir, List.length_append, List.length_cons]
    have : rk9_ g (a ++ b) p ≤ (a ++ b).length := List.countP_le_length
    rw [List.length_append] at this
    show rk9_ g (a ++ b) p + 0 < _
    omega
  exact decide_eq_true (by omega)
/-- the place of the least, among the first i -/
def li9_ (g : Nat → Nat) (l : List Nat) : Nat → Nat
  | 0 => 0
  | i + 1 => if i = 0 then 0 else if g (l.getD (li9_ g l i) 0) < g (l.getD i 0) then li9_ g l i else i
theorem li9_p (l : List Nat) : ∀ i, 1 ≤ i → li9_ g l i < i ∧ ∀ j, j < i → (j < li9_ g l i → g (l.getD (li9_ g l i) 0) ≤ g (l.getD j 0)) ∧ (li9_ g l i < j → g (l.getD (li9_ g l i) 0) < g (l.getD j 0))
  | 0, h => absurd h (by decide)
  | i + 1, _ => by
    unfold li9_
    by_cases z : i = 0
    · rw [if_pos z]
      exact ⟨Nat.succ_pos i, fun j hj => ⟨fun q => absurd q (Nat.not_lt_zero j), fun q => by omega⟩⟩
    · rw [if_neg z]
      obtain ⟨h1, h2⟩ := li9_p l i (by omega)
      by_cases w : g (l.getD (li9_ g l i) 0) < g (l.getD i 0)
      · rw [if_pos w]
        refine ⟨by omega, fun j hj => ?_⟩
        by_cases e : j = i
        · subst e
          exact ⟨fun q => by omega, fun _ => w⟩
        · exact h2 j (by omega)
      · rw [if_neg w]
        refine ⟨Nat.lt_succ_self i, fun j hj => ⟨fun q => ?_, fun q => by omega⟩⟩
        obtain ⟨a1, a2⟩ := h2 j q
        by_cases e : j = li9_ g l i
        · rw [e]; omega
        · rcases Nat.lt_or_gt_of_ne e with u | u
          · have := a1 u; omega
          · have := a2 u; omega
/-- a list that grows -/
def up8_ (l : List Nat) : Prop := ∀ i j, i < j → j < l.length → l.getD i 0 < l.getD j 0
theorem getD_er (l : List Nat) : ∀ (k i : Nat), (l.eraseIdx k).getD i 0 = if i < k then l.getD i 0 else l.getD (i + 1) 0 := by
  induction l with
  | nil =>
    intro k i
    rw [List.eraseIdx_nil]
    split <;> rfl
  | cons a l ih =>
    intro k i
    cases k with
    | zero =>
      rw [List.eraseIdx_cons_zero, if_neg (Nat.not_lt_zero i), List.getD_cons_succ]
    | succ k =>
      rw [List.eraseIdx_cons_succ]
      cases i with
      | zero =>
        rw [if_pos (Nat.succ_pos k), List.getD_cons_zero, List.getD_cons_zero]
      | succ i =>
        rw [List.getD_cons_succ, ih k i, List.getD_cons_succ, List.getD_cons_succ]
        by_cases z : i < k
        · rw [if_pos z, if_pos (by omega)]
        · rw [if_neg z, if_neg (by omega)]
theorem up8_er {l : List Nat} (h : up8_ l) {k : Nat} (hk : k < l.length) : up8_ (l.eraseIdx k) := fun i j hij hj => by
  rw [List.length_eraseIdx, if_pos hk] at hj
  rw [getD_er, getD_er]
  by_cases z1 : i < k
  · by_cases z2 : j < k
    · rw [if_pos z1, if_pos z2]; exact h i j hij (by omega)
    · rw [if_pos z1, if_neg z2]; exact h i (j + 1) (by omega) (by omega)
  · rw [if_neg z1, if_neg (by omega)]
    exact h (i + 1) (j + 1) (by omega) (by omega)
theorem split9_ (l : List Nat) {k : Nat} (hk : k < l.length) : l = l.take k ++ l.getD k 0 :: l.drop (k + 1) := by
  have e : l.getD k 0 = l[k] := by rw [List.getD_eq_getElem?_getD, List.getElem?_eq_getElem hk]; rfl
  rw [e, ← List.drop_eq_getElem_cons hk, List.take_append_drop]
theorem mem_td {l : List Nat} {k q : Nat} (h : q ∈ l.take k ++ l.drop (k + 1)) : ∃ j, j < l.length ∧ j ≠ k ∧ l.getD j 0 = q := by
  rcases List.mem_append.mp h with h | h
  · obtain ⟨j, hj, e⟩ := List.mem_iff_getElem.mp h
    rw [List.length_take] at hj
    refine ⟨j, by omega, by omega, ?_⟩
    rw [List.getElem_take] at e
    rw [List.getD_eq_getElem?_getD, List.getElem?_eq_getElem (by omega)]
    exact e
  · obtain ⟨j, hj, e⟩ := List.mem_iff_getElem.mp h
    rw [List.length_drop] at hj
    refine ⟨k + 1 + j, by omega, by omega, ?_⟩
    rw [List.getElem_drop] at e
    rw [List.getD_eq_getElem?_getD, List.getElem?_eq_getElem (by omega)]
    exact e
theorem top9_er {l : List Nat} (hu : up8_ l) (hl : 12 < l.length) : top9_ g (l.eraseIdx (li9_ g l l.length)) = top9_ g l := by
  obtain ⟨h1, h2⟩ := li9_p (g := g) l l.length (by omega)
  generalize li9_ g l l.length = w at h1 h2 ⊢
  rw [List.eraseIdx_eq_take_drop_succ]
  conv => rhs; rw [split9_ l h1]
  refine (top9_worst (fun q hq => ?_) ?_).symm
  · obtain ⟨j, j1, j2, rfl⟩ := mem_td hq
    rw [bea9_iff]
    obtain ⟨a1, a2⟩ := h2 j j1
    rcases Nat.lt_or_gt_of_ne j2 with u | u
    · have := a1 u
      have := hu j w u h1
      omega
    · exact Or.inl (a2 u)
  · rw [List.length_append, List.length_take, List.length_drop]
    omega
/-- k times the least goes -/
def tr8_ (g : Nat → Nat) : Nat → List Nat → List Nat
  | 0, l => l
  | k + 1, l => tr8_ g k (l.eraseIdx (li9_ g l l.length))
theorem tr8_top : ∀ (k : Nat) (l : List Nat), up8_ l → l.length = k + 12 → tr8_ g k l = top9_ g l
  | 0, l, _, h => by
    show l = top9_ g l
    exact (top9_all (by omega)).symm
  | k + 1, l, hu, h => by
    have h1 := (li9_p (g := g) l l.length (by omega)).1
    unfold tr8_
    rw [tr8_top k _ (up8_er hu h1) (by rw [List.length_eraseIdx, if_pos h1]; omega)]
    exact top9_er hu (by omega)
theorem gd_l {a b : List Nat} {i : Nat} (h : i < a.length) : (a ++ b).getD i 0 = a.getD i 0 := by
  rw [List.getD_eq_getElem?_getD, List.getElem?_append_left h, ← List.getD_eq_getElem?_getD]
theorem gd_r {a b : List Nat} {i : Nat} (h : a.length ≤ i) : (a ++ b).getD i 0 = b.getD (i - a.length) 0 := by
  rw [List.getD_eq_getElem?_getD, List.getElem?_append_right h, ← List.getD_eq_getElem?_getD]
theorem fl9_up (q : Nat → Bool) : ∀ n, up8_ (fl9_ q n)
  | 0 => fun i j _ hj => absurd hj (Nat.not_lt_zero j)
  | n + 1 => fun i j hij hj => by
    have ih := fl9_up q n
    have e : fl9_ q (n + 1) = fl9_ q n ++ (if q n = true then [n] else []) := rfl
    by_cases z : q n = true
    · rw [if_pos z] at e
      rw [e, List.length_append] at hj
      have hj : j < (fl9_ q n).length + 1 := hj
      rw [e]
      by_cases w : j < (fl9_ q n).length
      · rw [gd_l (by omega), gd_l w]
        exact ih i j hij w
      · have : j = (fl9_ q n).length := by omega
        subst this
        rw [gd_l hij, gd_r (Nat.le_refl _), Nat.sub_self]
        show (fl9_ q n).getD i 0 < n
        have hm : (fl9_ q n).getD i 0 ∈ fl9_ q n := by
          rw [List.getD_eq_getElem?_getD, List.getElem?_eq_getElem hij]
          exact List.getElem_mem hij
        exact (fl9_mem.mp hm).1
    · rw [if_neg z, List.append_nil] at e
      rw [e] at hj ⊢
      exact ih i j hij hj
theorem fl9_filter (q f : Nat → Bool) : ∀ n, (fl9_ q n).filter f = fl9_ (fun p => q p && f p) n
  | 0 => rfl
  | n + 1 => by
    show (fl9_ q n ++ (if q n = true then [n] else [])).filter f = fl9_ (fun p => q p && f p) n ++ (if (q n && f n) = true then [n] else [])
    rw [List.filter_append, fl9_filter q f n]
    cases h1 : q n <;> cases h2 : f n <;> simp [h2]
/-- the twelve best, as the reference finds them -/
theorem top9_fl (q : Nat → Bool) (n : Nat) : top9_ g (fl9_ q n) = fl9_ (fun p => q p && decide (cn_ (fun r => bea9_ g r p && q r) n < 12)) n := by
  unfold top9_
  rw [fl9_filter]
  have e : (fun p => q p && decide (rk9_ g (fl9_ q n) p < 12)) = (fun p => q p && decide (cn_ (fun r => bea9_ g r p && q r) n < 12)) := by
    funext p
    unfold rk9_
    rw [fl9_cnt]
  rw [e]
/-- those whose bit is set, from the i-th on, and up to the i-th -/
def se9r_ (u : Nat) (l : List Nat) : Nat → List Nat
  | 0 => []
  | k + 1 => (if u.testBit (l.length - (k + 1)) = true then [l.getD (l.length - (k + 1)) 0] else []) ++ se9r_ u l k
def se9l_ (u : Nat) (l : List Nat) : Nat → List Nat
  | 0 => []
  | i + 1 => se9l_ u l i ++ (if u.testBit i = true then [l.getD i 0] else [])
theorem se9_same (u : Nat) (l : List Nat) : ∀ i, i ≤ l.length → se9l_ u l i ++ se9r_ u l (l.length - i) = se9r_ u l l.length
  | 0, _ => by rw [Nat.sub_zero]; rfl
  | i + 1, h => by
    have ih := se9_same u l i (by omega)
    rw [← ih]
    show (se9l_ u l i ++ (if u.testBit i = true then [l.getD i 0] else [])) ++ se9r_ u l (l.length - (i + 1)) = _
    rw [List.append_assoc]
    have e : l.length - i = (l.length - (i + 1)) + 1 := by omega
    rw [e]
    show se9l_ u l i ++ ((if u.testBit i = true then [l.getD i 0] else []) ++ se9r_ u l (l.length - (i + 1))) = se9l_ u l i ++ ((if u.testBit (l.length - ((l.length - (i + 1)) + 1)) = true then [l.getD (l.length - ((l.length - (i + 1)) + 1)) 0] else []) ++ se9r_ u l (l.length - (i + 1)))
    rw [show l.length - ((l.length - (i + 1)) + 1) = i by omega]
theorem se9_eq (u : Nat) (l : List Nat) : se9l_ u l l.length = se9r_ u l l.length := by
  have := se9_same u l l.length (Nat.le_refl _)
  rw [Nat.sub_self] at this
  rw [← this]
  exact (List.append_nil _).symm
theorem se9l_mem {u : Nat} {l : List Nat} {q : Nat} : ∀ {i}, i ≤ l.length → q ∈ se9l_ u l i → q ∈ l
  | 0, _, h => absurd h List.not_mem_nil
  | i + 1, hi, h => by
    rcases List.mem_append.mp (show q ∈ se9l_ u l i ++ (if u.testBit i = true then [l.getD i 0] else []) from h) with h | h
    · exact se9l_mem (by omega) h
    · by_cases z : u.testBit i = true
      · rw [if_pos z] at h
        rw [List.mem_singleton.mp h, List.getD_eq_getElem?_getD, List.getElem?_eq_getElem (show i < l.length by omega)]
        exact List.getElem_mem _
      · rw [if_neg z] at h
        exact absurd h List.not_mem_nil
theorem se9l_len {u : Nat} {l : List Nat} : ∀ i, (se9l_ u l i).length ≤ i
  | 0 => Nat.le_refl _
  | i + 1 => by
    show (se9l_ u l i ++ (if u.testBit i = true then [l.getD i 0] else [])).length ≤ i + 1
    rw [List.length_append]
    have := se9l_len (u := u) (l := l) i
    split
    · show (se9l_ u l i).length + 1 ≤ _; omega
    · show (se9l_ u l i).length + 0 ≤ _; omega
theorem er_mid (l R : List Nat) {i : Nat} (hi : i < l.length) : (l.take (i + 1) ++ R).eraseIdx i = l.take i ++ R := by
  rw [List.eraseIdx_append_of_lt_length (by rw [List.length_take]; omega)]
  congr 1
  rw [List.eraseIdx_eq_take_drop_succ, List.take_take, List.drop_eq_nil_of_le (by rw [List.length_take]; omega), List.append_nil, Nat.min_eq_left (by omega)]
theorem take_mid (l R : List Nat) {i : Nat} (hi : i < l.length) : l.take (i + 1) ++ R = l.take i ++ (l.getD i 0 :: R) := by
  have e : l.getD i 0 = l[i] := by rw [List.getD_eq_getElem?_getD, List.getElem?_eq_getElem hi]; rfl
  rw [List.take_succ, List.getElem?_eq_getElem hi, e, List.append_assoc]
  rfl
end TOP
section LRM
variable {ka : Nat → Nat} {σ : TH} {a e n : Nat} {f : Nat → Nat}
theorem l_remove (hw : wf_ σ) (h : ls_ ka σ a e n f) {k : Nat} (hk : k < n) : ∃ τ, f_Jx4a65c_remove_915e3 σ a (nI k) = some (some (f k), τ) ∧ ls_ ka τ a e (n - 1) (fun i => if i < k then f i else f (i + 1)) ∧ fq_ (fun q => q = a ∨ q = e) σ τ ∧ nx_ τ = nx_ σ ∧ sl_ τ = sl_ σ := by
  obtain ⟨h1, h2, h3, h4, h5, h6⟩ := h
  rcases h5 with ⟨k1, k2, k3, k4⟩ | ⟨-, -, z⟩
  · have hae : a ≠ e := fun q => by rw [q, k1] at h1; cases h1
    have g1 : ¬ nI k < 0 := nI_pos (by omega)
    have g2 : nI k < nI n := nI_lt hk (by omega)
    have g3 : (nI k).toNatClampNeg = k := nI_clamp (by omega)
    have g4 : ¬ ln_ σ e ≤ k := by omega
    have g5 : ¬ nI (n - 1) < 0 := nI_pos (by omega)
    have g6 : (nI (n - 1)).toNatClampNeg = n - 1 := nI_clamp (by omega)
    have ep : nI n - 1 = nI (n - 1) := by
      obtain ⟨q, rfl⟩ : ∃ q, n = q + 1 := ⟨n - 1, by omega⟩
      exact nI_pred _
    have chk : f_J15_checkIndex_7cf53 σ (nI k) (nI n) = some (nI k, σ) := by
      simp [f_J15_checkIndex_7cf53, f_J3_checkIndex_8e157, f_J3_checkIndex_8e157_b9, gt_, lt_, nn_, oc_, bd_, g1, g2]
    have b34 : ∀ τ : TH, kd_ τ = kd_ σ → ln_ τ = ln_ σ → f_Jx4a65c_fastRemove_b59b0_b34 τ a (some e) (nI (n - 1)) = some ((), sq_ (si_ τ 2 a (nI (n - 1))) e (n - 1) none) := fun τ hkd hln => by
      unfold f_Jx4a65c_fastRemove_b59b0_b34
      rw [gt_t (by rw [hkd]; exact h1), lt_e, nn_s, gt_t (show kd_ (si_ τ 2 a (nI (n - 1))) e = 24 from (congrFun hkd e).trans k1), g6, show ln_ (si_ τ 2 a (nI (n - 1))) e = ln_ σ e from congrFun hln e, gt_t (ix9_ (k := n - 1) (M := ln_ σ e) (by omega) (by omega)), lt_e]
    obtain ⟨s2, hs2⟩ : ∃ s2, s2 = si_ σ 0 a (fi_ σ 0 a + 1) := ⟨_, rfl⟩
    have w2 : wf_ s2 := by rw [hs2]; exact hw
    have q2 : fq_ (fun q => q = a ∨ q = e) σ s2 := by rw [hs2]; exact fq_si hw (Or.inl rfl)
    have fin : ∀ s3 : TH, fq_ (fun q => q = a ∨ q = e) σ s3 → nx_ s3 = nx_ σ → sl_ s3 = sl_ σ → kd_ s3 = kd_ σ → ln_ s3 = ln_ σ → fr_ s3 = fr_ σ → (∀ i, i < n - 1 → ar_ s3 e i = some (if i < k then f i else f (i + 1))) → f_Jx4a65c_fastRemove_b59b0 σ a (some e) (nI k) = f_Jx4a65c_fastRemove_b59b0_b34 s3 a (some e) (nI (n - 1)) → ∃ τ, f_Jx4a65c_remove_915e3 σ a (nI k) = some (some (f k), τ) ∧ ls_ ka τ a e (n - 1) (fun i => if i < k then f i else f (i + 1)) ∧ fq_ (fun q => q = a ∨ q = e) σ τ ∧ nx_ τ = nx_ σ ∧ sl_ τ = sl_ σ := fun s3 f3 n3 l3 kd3 ln3 fr3 ar3 e3 => by
      refine ⟨sq_ (si_ s3 2 a (nI (n - 1))) e (n - 1) none, ?_, ⟨?_, ?_, ?_, by omega, Or.inl ⟨?_, ?_, ?_, ?_⟩, fun i hi => ⟨?_, ?_⟩⟩, fqq (fqi f3 (Or.inl rfl)) (Or.inr rfl), n3, l3⟩
      · unfold f_Jx4a65c_remove_915e3
        rw [gt_t h1, lt_e, h2, chk, bd_s, lt_e, h3, nn_s, gt_t k1, g3, gt_t (ix9_ (k := k) (M := ln_ σ e) (by omega) (by omega)), lt_e, (h6 k hk).1, e3, b34 s3 kd3 ln3, bd_s]
      · exact (congrFun kd3 a).trans h1
      · show up2_ (fi_ s3) 2 a (nI (n - 1)) 2 a = _
        rw [up2_s]
      · exact (congrFun (congrFun fr3 1) a).trans h3
      · exact (congrFun kd3 e).trans k1
      · show n - 1 ≤ ln_ s3 e
        rw [ln3]; omega
      · show 0 < ln_ s3 e
        rw [ln3]; exact k3
      · show ln_ s3 e ≤ 2000
        rw [ln3]; exact k4
      · show up2_ (ar_ s3) e (n - 1) none e i = _
        rw [up2_n (by omega)]
        exact ar3 i hi
      · show 0 < kd_ s3 (if i < k then f i else f (i + 1)) ∧ kd_ s3 (if i < k then f i else f (i + 1)) < 18
        rw [kd3]
        by_cases z : i < k
        · rw [if_pos z]; exact (h6 i (by omega)).2
        · rw [if_neg z]; exact (h6 (i + 1) (by omega)).2
    by_cases zl : n - 1 ≤ k
    · refine fin s2 q2 (by rw [hs2]; rfl) (by rw [hs2]; rfl) (by rw [hs2]; rfl) (by rw [hs2]; rfl) (by rw [hs2]; rfl) (fun i hi => ?_) ?_
      · rw [if_pos (show i < k by omega), hs2]
        exact (h6 i (by omega)).1
      · unfold f_Jx4a65c_fastRemove_b59b0
        rw [gt_t h1, lt_e, lt_e, ← hs2, lt_e, show fi_ s2 2 a = nI n from by rw [hs2, fi_si, up2_c (by decide)]; exact h2, lt_e, ep, if_pos (nI_le zl (by omega))]
    · obtain ⟨s3, hs3⟩ : ∃ s3, s3 = sc_ s2 e e (k + 1) k (n - 1 - k) := ⟨_, rfl⟩
      have c1 : nI k + 1 = nI (k + 1) := nI_1 k
      have c2 : nI (n - 1) - nI k = nI (n - 1 - k) := sub9_ (by omega)
      have c3 : (nI (k + 1)).toNatClampNeg = k + 1 := nI_clamp (by omega)
      have c4 : (nI (n - 1 - k)).toNatClampNeg = n - 1 - k := nI_clamp (by omega)
      have kds : kd_ s2 = kd_ σ := by rw [hs2]; rfl
      have lns : ln_ s2 = ln_ σ := by rw [hs2]; rfl
      have ars : ar_ s2 = ar_ σ := by rw [hs2]; rfl
      have hcond : ∀ i, i < n - 1 - k → Option.elim (ar_ s2 e (k + 1 + i)) 1 (kd_ s2) ≠ 0 ∧ Option.elim (ar_ s2 e (k + 1 + i)) 1 (kd_ s2) < 18 := fun i hi => by
        rw [ars, kds, (h6 (k + 1 + i) (by omega)).1]
        have := (h6 (k + 1 + i) (by omega)).2
        exact ⟨by show kd_ σ (f (k + 1 + i)) ≠ 0; omega, this.2⟩
      refine fin s3 ?_ (by rw [hs3, hs2]; rfl) (by rw [hs3, hs2]; rfl) (by rw [hs3, hs2]; rfl) (by rw [hs3, hs2]; rfl) (by rw [hs3, hs2]; rfl) (fun i hi => ?_) ?_
      · rw [hs3]
        exact fq_tr q2 ⟨tl_sc _ _ _ _ _ _, w2, fun b _ hT => ce_sc (fun z => hT (Or.inr z))⟩
      · rw [hs3]
        have e1 : ar_ (sc_ s2 e e (k + 1) k (n - 1 - k)) e i = va_cpy (ar_ s2 e) (ar_ s2 e) (k + 1) k (n - 1 - k) i := if_pos rfl
        rw [e1, ars]
        unfold va_cpy
        by_cases z : i < k
        · rw [if_neg (fun q => by omega), if_pos z]
          exact (h6 i (by omega)).1
        · rw [if_pos ⟨by omega, by omega⟩, if_neg z, show k + 1 + (i - k) = i + 1 by omega]
          exact (h6 (i + 1) (by omega)).1
      · unfold f_Jx4a65c_fastRemove_b59b0
        rw [gt_t h1, lt_e, lt_e, ← hs2, lt_e, show fi_ s2 2 a = nI n from by rw [hs2, fi_si, up2_c (by decide)]; exact h2, lt_e, ep, if_neg (nI_ge (by omega) (by omega)), nn_s, gt_t (show kd_ s2 e = 24 by rw [kds]; exact k1), c1, c2, c3, c4, g3]
        rw [gt_t ⟨nI_pos (by omega), g1, nI_pos (by omega), by rw [lns]; omega, by rw [lns]; omega, by rw [lns]; exact k3, hcond⟩, lt_e, ← hs3]
  · omega
theorem l_clear (hw : wf_ σ) (h : ls_ ka σ a e n f) : ∃ τ, f_Jx4a65c_clear_da8c8 σ a = some ((), τ) ∧ ls_ ka τ a e 0 f ∧ fq_ (fun q => q = a ∨ q = e) σ τ ∧ nx_ τ = nx_ σ ∧ sl_ τ = sl_ σ := by
  obtain ⟨h1, h2, h3, h4, h5, h6⟩ := h
  obtain ⟨s5, hs5⟩ : ∃ s5, s5 = si_ (si_ σ 0 a (fi_ σ 0 a + 1)) 2 a 0 := ⟨_, rfl⟩
  have w5 : wf_ s5 := by rw [hs5]; exact hw
  have q5 : fq_ (fun q => q = a ∨ q = e) σ s5 := by rw [hs5]; exact fqi (fq_si hw (Or.inl rfl)) (Or.inl rfl)
  have f5 : fi_ s5 2 a = nI 0 := by rw [hs5, fi_si, up2_s]; rfl
  have key : ∃ r, f_Jx4a65c_clear_da8c8_b27 fu_ s5 (some e) (nI n) (nI 0) = some r ∧ ∃ τ, r = ((), τ) ∧ fq_ (fun q => q = a ∨ q = e) σ τ ∧ nx_ τ = nx_ σ ∧ sl_ τ = sl_ σ ∧ kd_ τ = kd_ σ ∧ ln_ τ = ln_ σ ∧ fr_ τ = fr_ σ ∧ fi_ τ = fi_ s5 := by
    refine lpe_ (F := fun f (s : TH) k => f_Jx4a65c_clear_da8c8_b27 f s (some e) (nI n) k) n (fun i τ => fq_ (fun q => q = a ∨ q = e) σ τ ∧ nx_ τ = nx_ σ ∧ sl_ τ = sl_ σ ∧ kd_ τ = kd_ σ ∧ ln_ τ = ln_ σ ∧ fr_ τ = fr_ σ ∧ fi_ τ = fi_ s5) (fun r => ∃ τ, r = ((), τ) ∧ fq_ (fun q => q = a ∨ q = e) σ τ ∧ nx_ τ = nx_ σ ∧ sl_ τ = sl_ σ ∧ kd_ τ = kd_ σ ∧ ln_ τ = ln_ σ ∧ fr_ τ = fr_ σ ∧ fi_ τ = fi_ s5) (fun f i τ hi hI => ?_) (fun f τ hI => ?_) (by omega) s5 ⟨q5, by rw [hs5]; rfl, by rw [hs5]; rfl, by rw [hs5]; rfl, by rw [hs5]; rfl, by rw [hs5]; rfl, rfl⟩
    · obtain ⟨i1, i2, i3, i4, i5, i6, i7⟩ := hI
      rcases h5 with ⟨k1, k2, k3, k4⟩ | ⟨-, -, z⟩
      · have g3 : (nI i).toNatClampNeg = i := nI_clamp (by omega)
        refine ⟨sq_ τ e i none, ?_, fqq i1 (Or.inr rfl), i2, i3, i4, i5, i6, i7⟩
        show f_Jx4a65c_clear_da8c8_b27 (f + 1) τ (some e) (nI n) (nI i) = f_Jx4a65c_clear_da8c8_b27 f (sq_ τ e i none) (some e) (nI n) (nI (i + 1))
        rw [f_Jx4a65c_clear_da8c8_b27, if_neg (nI_ge hi (by omega)), nn_s, gt_t (by rw [i4]; exact k1), g3, i5, gt_t (ix9_ (k := i) (M := ln_ σ e) (by omega) (by omega)), lt_e, lt_e, nI_1]
      · omega
    · refine ⟨((), τ), ?_, τ, rfl, hI⟩
      show f_Jx4a65c_clear_da8c8_b27 (f + 1) τ (some e) (nI n) (nI n) = _
      rw [f_Jx4a65c_clear_da8c8_b27, if_pos (Int32.le_refl _)]
  obtain ⟨_, e0, τ, rfl, i1, i2, i3, i4, i5, i6, i7⟩ := key
  refine ⟨τ, ?_, ⟨by rw [i4]; exact h1, by rw [i7]; exact f5, by rw [i6]; exact h3, Nat.zero_le _, ?_, fun i hi => absurd hi (Nat.not_lt_zero i)⟩, i1, i2, i3⟩
  · unfold f_Jx4a65c_clear_da8c8
    rw [gt_t h1, lt_e, lt_e, lt_e, show fr_ (si_ σ 0 a (fi_ σ 0 a + 1)) 1 a = some e from h3, lt_e, show fi_ (si_ σ 0 a (fi_ σ 0 a + 1)) 2 a = nI n from by rw [fi_si, up2_c (by decide)]; exact h2, lt_e, ← hs5]
    exact e0
  · rw [i4, i5]
    rcases h5 with ⟨k1, k2, k3, k4⟩ | ⟨k1, k2, k3⟩
    · exact Or.inl ⟨k1, Nat.zero_le _, k3, k4⟩
    · exact Or.inr ⟨k1, k2, rfl⟩
end LRM
