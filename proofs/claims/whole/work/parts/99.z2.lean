/-! THE CLASS'S PRINTER, PURE: whole texts. Written by wip/b/mk99z2.py. -/
section QG
variable {E : EV9} {w : Nat → Nat} {r : Bool}
theorem pT_g {a t : Nat} {k : Int32} {x : Nat × Nat × Int32 × Nat × Nat} (h : pT_ w r a t k = .inr x) : x.2.2.2.1 = 1 ∨ x.2.2.2.1 = 2 := by
  unfold pT_ at h
  split at h
  · split at h
    · cases h
    · split at h
      · cases h
      · cases h
        show (if (tz_ w a).1 = 2 then 1 else 2) = 1 ∨ (if (tz_ w a).1 = 2 then 1 else 2) = 2
        split
        · exact Or.inl rfl
        · exact Or.inr rfl
  · cases h
theorem gi9_app {l : List IT} {i : IT} (h : gi9_ l) (hi : i.2.1 = 1 ∨ i.2.1 = 2) : gi9_ (l ++ [i]) := fun z hz => by
  rcases List.mem_append.mp hz with q | q
  · exact h z q
  · rw [List.mem_singleton.mp q]; exact hi
theorem pL_g : ∀ {f a t : Nat} {k : Int32} {l : List IT} {x : Nat × Nat × Int32 × List IT}, pL_ w r f a t k l = .inr x → gi9_ l → gi9_ x.2.2.2 := by
  intro f
  induction f with
  | zero => intro a t k l x h; cases h
  | succ f ih =>
    intro a t k l x h hg
    unfold pL_ at h
    split at h
    · obtain ⟨b, h1, h2⟩ := eb_inv h
      exact ih h2 (gi9_app hg (pT_g h1))
    · split at h
      · obtain ⟨b, h1, h2⟩ := eb_inv h
        exact ih h2 (gi9_app hg (pT_g h1))
      · cases h
        exact hg
theorem pS_g {a t : Nat} {k : Int32} {x : Nat × Nat × Int32 × List IT} (h : pS_ w r a t k = .inr x) : gi9_ x.2.2.2 := by
  unfold pS_ at h
  obtain ⟨b, h1, h2⟩ := eb_inv h
  refine pL_g h2 (fun z hz => ?_)
  rw [List.mem_singleton.mp hz]
  exact pT_g h1
theorem pB_g {a t : Nat} {k : Int32} {x : Nat × Nat × Int32 × BA} (h : pB_ w r a t k = .inr x) : gb9_ r x.2.2.2 := by
  unfold pB_ at h
  split at h
  · split at h
    · rename_i hz _
      cases h
      refine Or.inr ⟨hz.1, ?_⟩
      show (if isW_ w a 25 = true then 8 else 9) = 8 ∨ (if isW_ w a 25 = true then 8 else 9) = 9 ∨ (if isW_ w a 25 = true then 8 else 9) = 10
      split
      · exact Or.inl rfl
      · exact Or.inr (Or.inl rfl)
    · cases h
  · split at h
    · rename_i hz
      cases h
      exact Or.inr ⟨hz.1, Or.inr (Or.inr rfl)⟩
    · obtain ⟨b, h1, h2⟩ := eb_inv h
      split at h2
      · obtain ⟨c, h3, h4⟩ := eb_inv h2
        cases h4
        exact Or.inl ⟨rfl, pS_g h1, pS_g h3⟩
      · cases h2
theorem pO_g {a t : Nat} {k : Int32} {x : Nat × Nat × Int32 × ON} (h : pO_ w r a t k = .inr x) : gb9_ r x.2.2.2.2 := by
  unfold pO_ at h
  obtain ⟨b, h1, h2⟩ := eb_inv h
  cases h2
  exact pB_g h1
theorem pJ_g {j : Nat} : ∀ {f a t : Nat} {k : Int32} {l : List ON} {x : Nat × Nat × Int32 × List ON}, pJ_ w r j f a t k l = .inr x → (∀ z, z ∈ l → gb9_ r z.2) → ∀ z, z ∈ x.2.2.2 → gb9_ r z.2 := by
  intro f
  induction f with
  | zero => intro a t k l x h; cases h
  | succ f ih =>
    intro a t k l x h hg
    unfold pJ_ at h
    split at h
    · obtain ⟨b, h1, h2⟩ := eb_inv h
      refine ih h2 (fun z hz => ?_)
      rcases List.mem_append.mp hz with q | q
      · exact hg z q
      · rw [List.mem_singleton.mp q]; exact pO_g h1
    · cases h
      exact hg
theorem pE_g {a t : Nat} {k : Int32} {x : Nat × Nat × Int32 × Nat × ON × List ON} (h : pE_ w r a t k = .inr x) : ge9_ r x.2.2.2.1 x.2.2.2.2.1 x.2.2.2.2.2 := by
  unfold pE_ at h
  obtain ⟨b, h1, h2⟩ := eb_inv h
  have g := pO_g h1
  split at h2
  · obtain ⟨c, h3, h4⟩ := eb_inv h2
    cases h4
    exact ⟨g, pJ_g h3 (fun z hz => by cases hz), Or.inr (Or.inl rfl)⟩
  · split at h2
    · obtain ⟨c, h3, h4⟩ := eb_inv h2
      cases h4
      exact ⟨g, pJ_g h3 (fun z hz => by cases hz), Or.inr (Or.inr rfl)⟩
    · cases h2
      exact ⟨g, fun z hz => (by cases hz), Or.inl rfl⟩
theorem pG_rp {slf : Nat → Nat → CT → Nat → RT} {d first : Nat} (hs : ∀ d a c o x, slf d a c o = .inr x → rp_ E o x.2.2.1 x.2.2.2) : ∀ {f a : Nat} {c : CT} {o : Nat} {ss : List SP} {out : List Nat} {x : Nat × CT × List SP × List Nat}, pG_ E w slf d first f a c o ss out = .inr x → ∃ s2 o2, x.2.2.1 = ss ++ s2 ∧ x.2.2.2 = out ++ o2 ∧ rp_ E o s2 o2 := by
  intro f
  induction f with
  | zero => intro a c o ss out x h; cases h
  | succ f ih =>
    intro a c o ss out x h
    have step : ∀ {a' : Nat} {c' : CT} {o' : Nat} {s1 : List SP} {o1 : List Nat}, pG_ E w slf d first f a' c' o' (ss ++ s1) (out ++ o1) = .inr x → o' = o + s1.length → rp_ E o s1 o1 → ∃ s2 o2, x.2.2.1 = ss ++ s2 ∧ x.2.2.2 = out ++ o2 ∧ rp_ E o s2 o2 := by
      intro a' c' o' s1 o1 h1 e1 r1
      subst e1
      obtain ⟨s2, o2, h2, h3, h4⟩ := ih h1
      exact ⟨s1 ++ s2, o1 ++ o2, by rw [h2, List.append_assoc], by rw [h3, List.append_assoc], rp_app r1 h4⟩
    unfold pG_ at h
    by_cases c1 : w a = 999 ∨ w a = 125 ∨ w a = 124
    · rw [if_pos c1] at h
      by_cases c2 : a = first
      · rw [if_pos c2] at h; cases h
      · rw [if_neg c2] at h
        cases h
        exact ⟨[], [], by simp, by simp, rp_nil⟩
    rw [if_neg c1] at h
    by_cases c3 : w a ≠ 123 ∧ tP (w a) = false
    · rw [if_pos c3] at h; cases h
    rw [if_neg c3] at h
    by_cases c4 : c.1 = 60
    · rw [if_pos c4] at h; cases h
    rw [if_neg c4] at h
    by_cases c5 : w a ≠ 123
    · rw [if_pos c5] at h
      exact step h (by simp [bl9_]) (rp_say _)
    rw [if_neg c5] at h
    by_cases c6 : isW_ w (a + 1) 21 = false
    · rw [if_pos c6] at h
      obtain ⟨b, h1, h2⟩ := eb_inv h
      by_cases c8 : isS_ w b.1 125 = true
      · rw [if_pos c8] at h2
        exact step h2 (by simp; omega) (rp_sum (pS_g h1))
      · rw [if_neg c8] at h2; cases h2
    rw [if_neg c6] at h
    by_cases c7 : d = 5
    · rw [if_pos c7] at h; cases h
    rw [if_neg c7] at h
    obtain ⟨b, h1, h2⟩ := eb_inv h
    by_cases c8 : isS_ w b.1 58 = true
    · rw [if_pos c8] at h2
      obtain ⟨u, h3, h4⟩ := eb_inv h2
      have ru := hs _ _ _ _ _ h3
      by_cases c9 : w u.1 = 124
      · rw [if_pos c9] at h4
        obtain ⟨v, h5, h6⟩ := eb_inv h4
        have rv := hs _ _ _ _ _ h5
        by_cases c10 : w v.1 = 125
        · rw [if_pos c10] at h6
          exact step h6 (by simp; omega) (rp_ie (pE_g h1) ru rv)
        · rw [if_neg c10] at h6; cases h6
      · rw [if_neg c9] at h4
        by_cases c10 : w u.1 = 125
        · rw [if_pos c10] at h4
          exact step h4 (by simp; omega) (rp_if (pE_g h1) ru)
        · rw [if_neg c10] at h4; cases h4
    · rw [if_neg c8] at h2; cases h2
theorem pX_rp : ∀ (l d a : Nat) (c : CT) (o : Nat) (x : Nat × CT × List SP × List Nat), pX_ E w l d a c o = .inr x → rp_ E o x.2.2.1 x.2.2.2 := by
  intro l
  induction l with
  | zero => intro d a c o x h; cases h
  | succ l ih =>
    intro d a c o x h
    unfold pX_ at h
    obtain ⟨s2, o2, h1, h2, h3⟩ := pG_rp ih h
    rw [h1, h2]
    exact h3
theorem qr_end {S : List SP} {f a : Nat} {q : QQ} (h : S.length ≤ a) : qr_ E S f a q = q := by
  cases f with
  | zero => rfl
  | succ f => conv => lhs; unfold qr_
              rw [if_pos h]
/-- the printer at its beginning -/
def q0_ (le : Int32) (re : Nat) : QQ := ((0, false, le, re), (false, 0, false), [])
/-- WHAT A PARAGRAPH PRINTS -/
theorem qr_P {n : Nat} {x : Nat × CT × List SP × List Nat} (h : pP_ E w n = .inr x) {f : Nat} (hf : x.2.2.1.length ≤ f) (le : Int32) (re : Nat) : qou_ (qr_ E x.2.2.1 f 0 (q0_ le re)) = x.2.2.2 := by
  unfold pP_ at h
  obtain ⟨b, h1, h2⟩ := eb_inv h
  split at h2
  · cases h2
    obtain ⟨q', k, l1, c1, u1, r1⟩ := pX_rp _ _ _ _ _ _ h1 [] [] (q0_ le re) rfl ⟨rfl, rfl, rfl⟩
    have r1 := r1 (f - k)
    rw [show f - k + k = f by omega] at r1
    simp only [List.nil_append, List.append_nil, Nat.zero_add] at r1
    rw [r1, qr_end (Nat.le_refl _), u1]
    rfl
  · cases h2
/-- WHAT A RULE SAYS -/
theorem qr_R {x : Int32 × List SP × Bool} (h : pR_ E w = .inr x) {f : Nat} (hf : x.2.1.length ≤ f) (le : Int32) (re : Nat) : qte_ (qr_ E x.2.1 f 0 (q0_ le re)) = x.2.2 ∧ qou_ (qr_ E x.2.1 f 0 (q0_ le re)) = [] := by
  unfold pR_ at h
  obtain ⟨b, h1, h2⟩ := eb_inv h
  split at h2
  · cases h2
    have g := pE_g h1
    obtain ⟨c, u, v⟩ := qfo_es (E := E) g (q := q0_ le re) ⟨rfl, rfl, rfl⟩ rfl
    have r1 := qr_line (E := E) (es9_ b.2.2.2.1 b.2.2.2.2.1 b.2.2.2.2.2) [] [] (q0_ le re) (f - (es9_ b.2.2.2.1 b.2.2.2.2.1 b.2.2.2.2.2).length) (fun s hs => (es_lt g s hs).1)
    have hf : (es9_ b.2.2.2.1 b.2.2.2.2.1 b.2.2.2.2.2).length ≤ f := hf
    rw [Nat.sub_add_cancel hf] at r1
    simp only [List.nil_append, List.append_nil, List.length_nil, Nat.zero_add] at r1
    rw [qr_end (Nat.le_refl _)] at r1
    show qte_ (qr_ E (es9_ b.2.2.2.1 b.2.2.2.2.1 b.2.2.2.2.2) f 0 (q0_ le re)) = _ ∧ qou_ (qr_ E (es9_ b.2.2.2.1 b.2.2.2.2.1 b.2.2.2.2.2) f 0 (q0_ le re)) = _
    rw [r1]
    exact ⟨v, u⟩
  · cases h2
theorem pR_4 {x : Int32 × List SP × Bool} (h : pR_ E w = .inr x) : ∀ s, s ∈ x.2.1 → ns9_ true s := by
  unfold pR_ at h
  obtain ⟨b, h1, h2⟩ := eb_inv h
  split at h2
  · cases h2
    exact fun s hs => es_lt (pE_g h1) s hs
  · cases h2
end QG
