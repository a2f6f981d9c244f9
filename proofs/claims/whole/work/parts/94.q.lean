/-! THE CLASS'S READER, PURE: sums. Written by wip/b/mk94.py. -/
theorem tr_0 {r : Bool} {m : MM} {z : TK} (h : z.1 = 0) : tr9_ r m z = .inl (1, z.2.2.1) := by
  unfold tr9_
  rw [if_neg (by omega), if_neg (by omega), if_neg (by omega)]
/-- fuel enough is fuel enough -/
theorem rn_fu {r : Bool} {w : Nat → Nat} {n : Nat} (hw : ∀ k, n ≤ k → w k = 999) : ∀ (f g : Nat) (m : MM) (a : Nat), a ≤ n → n < f + a → n < g + a → rn_ r w n f m a = rn_ r w n g m a
  | 0, _, _, _, h, h1, _ => by omega
  | _ + 1, 0, _, _, h, _, h2 => by omega
  | f + 1, g + 1, m, a, h, h1, h2 => by
    unfold rn_
    by_cases z0 : ms_ m = 0
    · rw [if_pos z0, if_pos z0]
      by_cases z9 : w a = 999
      · rw [if_pos z9, if_pos z9]
      · rw [if_neg z9, if_neg z9]
        have han : a < n := by
          rcases Nat.lt_or_ge a n with q | q
          · exact q
          · exact absurd (hw a q) z9
        cases tp8_ m a (w a) with
        | inl e => rfl
        | inr m' => exact rn_fu hw f g m' (a + 1) han (by omega) (by omega)
    · rw [if_neg z0, if_neg z0]
      by_cases z1 : (tz_ w a).1 = 1
      · rw [if_pos z1, if_pos z1]
      · rw [if_neg z1, if_neg z1]
        have l := tz_le hw h
        by_cases zz : (tz_ w a).1 = 0
        · rw [tr_0 zz, eb_l, eb_l]
        · have lt := l.2.2.2 zz z1
          cases tr9_ r m (tz_ w a) with
          | inl e => rfl
          | inr m' => exact rn_fu hw f g m' (nx9_ w a) l.2.2.1 (by omega) (by omega)
/-- the bytes: w, n of them -/
def wn_ (w : Nat → Nat) (n : Nat) : Prop := (∀ k, n ≤ k → w k = 999) ∧ (∀ k, k < n → w k < 256) ∧ n ≤ 400
def rN_ (r : Bool) (w : Nat → Nat) (n : Nat) (m : MM) (a : Nat) : FT ⊕ MM := rn_ r w n (n + 1) m a
section RNS
variable {r : Bool} {w : Nat → Nat} {n : Nat} {m M : MM} {a : Nat} {k : Int32} {tt c1 : Nat}
theorem eb_cong {β γ : Type} {X : FT ⊕ β} {K K2 : β → FT ⊕ γ} (h : ∀ b, X = .inr b → K b = K2 b) : eb_ X K = eb_ X K2 := by
  cases X with
  | inl e => rfl
  | inr b => exact h b rfl
theorem eb_as {β γ δ : Type} (X : FT ⊕ β) (K : β → FT ⊕ γ) (K2 : γ → FT ⊕ δ) : eb_ (eb_ X K) K2 = eb_ X (fun b => eb_ (K b) K2) := by
  cases X <;> rfl
theorem pT_le (hw : wn_ w n) (ha : a ≤ n) {x : Nat × Nat × Int32 × Nat × Nat} (h : pT_ w r a tt k = .inr x) : x.1 ≤ n ∧ a < x.1 ∧ x.2.1 = tt + 1 ∧ tt ≠ 30 := by
  unfold pT_ at h
  have l := tz_le hw.1 ha
  split at h
  · rename_i q
    split at h
    · cases h
    · split at h
      · cases h
      · cases h
        exact ⟨l.2.2.1, l.2.2.2 (by omega) (by omega), rfl, by assumption⟩
  · cases h
/-- a token -/
theorem rN_t (hw : wn_ w n) (ha : a ≤ n) (hs : ms_ m ≠ 0) (h1 : (tz_ w a).1 ≠ 1) : rN_ r w n m a = eb_ (tr9_ r m (tz_ w a)) (fun m => rN_ r w n m (nx9_ w a)) := by
  have hn := hw.2.2
  have l := tz_le hw.1 ha
  refine (rn_t (f := n) hs h1).trans ?_
  by_cases zz : (tz_ w a).1 = 0
  · rw [tr_0 zz, eb_l, eb_l]
  · exact eb_cong (fun b _ => rn_fu hw.1 n (n + 1) b _ l.2.2.1 (by have := l.2.2.2 zz h1; omega) (by omega))
theorem rN_e (hw : wn_ w n) (ha : a ≤ n) (hs : ms_ m ≠ 0) (h2 : r = true → ms_ m ≠ 10 ∧ ms_ m ≠ 11) (h1 : (tz_ w a).1 = 1) : rN_ r w n m a = .inl (1, pl9_ w a) := rn_e (f := n) hw.1 hw.2.1 ha hs h2 h1
theorem rN_T (hw : wn_ w n) (ha : a ≤ n) (ht : mc_ m = (c1, tt, k)) (hs : mtc_ (ms_ m) = true) (h1 : ms_ m = 1 → ¬ ((tz_ w a).1 = 4 ∧ (tz_ w a).2.1 = 21)) (h2 : ms_ m = 2 → ¬ ((tz_ w a).1 = 4 ∧ 24 ≤ (tz_ w a).2.1 ∧ (tz_ w a).2.1 ≤ 27 ∧ ((tz_ w a).2.1 = 24 ∨ r = false))) : rN_ r w n m a = eb_ (pT_ w r a tt k) (fun x => rN_ r w n (mct_ (mst_ m (maf_ (ms_ m)) [x.2.2.2]) (c1, x.2.1, x.2.2.1)) x.1) := by
  have hn := hw.2.2
  have e1 : (mc_ m).1 = c1 := by rw [ht]
  refine (rn_T (f := n) (tt := tt) (k := k) hw.1 hw.2.1 ha (by rw [ht]) hs h1 h2).trans ?_
  rw [e1]
  exact eb_cong (fun x hx => rn_fu hw.1 n (n + 1) _ _ (pT_le hw ha hx).1 (by have := pT_le hw ha hx; omega) (by omega))
theorem is_app : ∀ (l : List IT) (i : IT), is9_ (l ++ [i]) = is9_ l ++ (if i.1 = true then [(3, 0), (i.2.1, i.2.2)] else [(i.2.1, i.2.2)])
  | [], i => by simp [is9_]
  | j :: l, i => by
    rw [List.cons_append]
    show _ ++ is9_ (l ++ [i]) = (_ ++ is9_ l) ++ _
    rw [is_app l i, List.append_assoc]
/-- terms that follow -/
theorem rN_L (hw : wn_ w n) {s : Nat} (hs : s = 8 ∨ s = 9 ∨ s = 10) : ∀ (f a tt : Nat) (k : Int32) (l : List IT), 31 < f + tt → tt ≤ 30 → a ≤ n → rN_ r w n (mct_ (mst_ M s (is9_ l)) (c1, tt, k)) a = eb_ (pL_ w r f a tt k l) (fun x => rN_ r w n (mct_ (mst_ M s (is9_ x.2.2.2)) (c1, x.2.1, x.2.2.1)) x.1)
  | 0, _, _, _, _, h1, h2, _ => by omega
  | f + 1, a, tt, k, l, h1, h2, ha => by
    have l1 := tz_le hw.1 ha
    have step : ∀ (sg : Bool) (c : Nat), (sg = false ∧ c = 43) ∨ (sg = true ∧ c = 45) → isS_ w a c = true → rN_ r w n (mct_ (mst_ M s (is9_ l)) (c1, tt, k)) a = eb_ (eb_ (pT_ w r (nx9_ w a) tt k) (fun x => pL_ w r f x.1 x.2.1 x.2.2.1 (l ++ [(sg, x.2.2.2)]))) (fun x => rN_ r w n (mct_ (mst_ M s (is9_ x.2.2.2)) (c1, x.2.1, x.2.2.1)) x.1) := fun sg c hc z => by
      have z3 := isS_3 z
      have zv := isS_v z
      have e1 : ms_ (mct_ (mst_ M s (is9_ l)) (c1, tt, k)) = s := rfl
      rw [rN_t hw ha (by rw [e1]; omega) (by omega)]
      have e2 : tr9_ r (mct_ (mst_ M s (is9_ l)) (c1, tt, k)) (tz_ w a) = .inr (mst_ (mct_ (mst_ M s (is9_ l)) (c1, tt, k)) (s - 3) (if sg = true then [(3, 0)] else [])) := by
        unfold tr9_
        rw [if_neg (by omega), if_pos z3, if_pos (by omega), e1, if_pos (by omega)]
        rcases hc with ⟨q1, q2⟩ | ⟨q1, q2⟩
        · subst q1; rw [if_neg (by omega), if_neg (by decide)]
        · subst q1; rw [if_pos (by omega), if_pos rfl]
      rw [e2, eb_r]
      obtain ⟨m1, hm1⟩ : ∃ m1, m1 = mst_ (mct_ (mst_ M s (is9_ l)) (c1, tt, k)) (s - 3) (if sg = true then [(3, 0)] else []) := ⟨_, rfl⟩
      have s1 : ms_ m1 = s - 3 := by rw [hm1]; rfl
      rw [← hm1, rN_T (m := m1) (c1 := c1) (tt := tt) (k := k) hw l1.2.2.1 (by rw [hm1]; rfl) (by rw [s1]; rcases hs with q | q | q <;> (subst q; rfl)) (fun q => by rw [s1] at q; omega) (fun q => by rw [s1] at q; omega), eb_as]
      refine eb_cong (fun x hx => ?_)
      have le := pT_le hw l1.2.2.1 hx
      have em : mct_ (mst_ m1 (maf_ (ms_ m1)) [x.2.2.2]) (c1, x.2.1, x.2.2.1) = mct_ (mst_ M s (is9_ (l ++ [(sg, x.2.2.2)]))) (c1, x.2.1, x.2.2.1) := by
        have es : maf_ (s - 3) = s := by rcases hs with q | q | q <;> (subst q; rfl)
        rw [s1, es, is_app, hm1]
        cases sg <;> simp [mct_, mst_]
      rw [em]
      exact rN_L hw hs f x.1 x.2.1 x.2.2.1 _ (by omega) (by omega) le.1
    conv => rhs; unfold pL_
    by_cases z1 : isS_ w a 43 = true
    · rw [if_pos z1]; exact step false 43 (Or.inl ⟨rfl, rfl⟩) z1
    · rw [if_neg z1]
      by_cases z2 : isS_ w a 45 = true
      · rw [if_pos z2]; exact step true 45 (Or.inr ⟨rfl, rfl⟩) z2
      · rw [if_neg z2, eb_r]
/-- A SUM -/
theorem rN_S (hw : wn_ w n) (ha : a ≤ n) (ht : mc_ m = (c1, tt, k)) (hs : mtc_ (ms_ m) = true) (h1 : ms_ m = 1 → ¬ ((tz_ w a).1 = 4 ∧ (tz_ w a).2.1 = 21)) (h2 : ms_ m = 2 → ¬ ((tz_ w a).1 = 4 ∧ 24 ≤ (tz_ w a).2.1 ∧ (tz_ w a).2.1 ≤ 27 ∧ ((tz_ w a).2.1 = 24 ∨ r = false))) (h30 : tt ≤ 30) : rN_ r w n m a = eb_ (pS_ w r a tt k) (fun x => rN_ r w n (mct_ (mst_ m (maf_ (ms_ m)) (is9_ x.2.2.2)) (c1, x.2.1, x.2.2.1)) x.1) := by
  unfold pS_
  rw [rN_T hw ha ht hs h1 h2, eb_as]
  refine eb_cong (fun x hx => ?_)
  have le := pT_le hw ha hx
  have hs' : ms_ m = 1 ∨ ms_ m = 2 ∨ (5 ≤ ms_ m ∧ ms_ m ≤ 7) := by simpa [mtc_, or_assoc] using hs
  have hm : maf_ (ms_ m) = 8 ∨ maf_ (ms_ m) = 9 ∨ maf_ (ms_ m) = 10 := by
    unfold maf_
    by_cases q : ms_ m = 1 ∨ ms_ m = 5
    · rw [if_pos q]; exact Or.inl rfl
    · rw [if_neg q]
      by_cases q7 : ms_ m = 7
      · rw [if_pos q7]; exact Or.inr (Or.inr rfl)
      · rw [if_neg q7]; exact Or.inr (Or.inl rfl)
  exact rN_L (M := m) hw (s := maf_ (ms_ m)) hm 40 x.1 x.2.1 x.2.2.1 [(false, x.2.2.2)] (by omega) (by omega) le.1
/-- what a sum leaves -/
theorem pL_end (hw : wn_ w n) : ∀ {f a tt : Nat} {k : Int32} {l : List IT} {x : Nat × Nat × Int32 × List IT}, a ≤ n → tt ≤ 30 → pL_ w r f a tt k l = .inr x → x.1 ≤ n ∧ a ≤ x.1 ∧ x.2.1 ≤ 30 ∧ isS_ w x.1 43 = false ∧ isS_ w x.1 45 = false
  | 0, _, _, _, _, _, _, _, h => by cases h
  | f + 1, a, tt, k, l, x, ha, h30, h => by
    have l1 := tz_le hw.1 ha
    have go : ∀ sg : Bool, (tz_ w a).1 = 3 → eb_ (pT_ w r (nx9_ w a) tt k) (fun x => pL_ w r f x.1 x.2.1 x.2.2.1 (l ++ [(sg, x.2.2.2)])) = .inr x → x.1 ≤ n ∧ a ≤ x.1 ∧ x.2.1 ≤ 30 ∧ isS_ w x.1 43 = false ∧ isS_ w x.1 45 = false := fun sg z3 h => by
      cases e : pT_ w r (nx9_ w a) tt k with
      | inl q => rw [e] at h; cases h
      | inr z =>
        rw [e] at h
        have le := pT_le hw l1.2.2.1 e
        have ih := pL_end hw (f := f) le.1 (by omega) h
        exact ⟨ih.1, by have := l1.1; have := l1.2.1; omega, ih.2.2⟩
    unfold pL_ at h
    by_cases z1 : isS_ w a 43 = true
    · rw [if_pos z1] at h; exact go false (isS_3 z1) h
    · rw [if_neg z1] at h
      by_cases z2 : isS_ w a 45 = true
      · rw [if_pos z2] at h; exact go true (isS_3 z2) h
      · rw [if_neg z2] at h
        cases h
        exact ⟨ha, Nat.le_refl _, h30, by simpa using z1, by simpa using z2⟩
theorem pS_end (hw : wn_ w n) (ha : a ≤ n) (h30 : tt ≤ 30) {x : Nat × Nat × Int32 × List IT} (h : pS_ w r a tt k = .inr x) : x.1 ≤ n ∧ a < x.1 ∧ x.2.1 ≤ 30 ∧ isS_ w x.1 43 = false ∧ isS_ w x.1 45 = false := by
  unfold pS_ at h
  cases e : pT_ w r a tt k with
  | inl q => rw [e] at h; cases h
  | inr z =>
    rw [e] at h
    have le := pT_le hw ha e
    have ih := pL_end hw (f := 40) le.1 (by omega) h
    exact ⟨ih.1, by omega, ih.2.2⟩
end RNS
