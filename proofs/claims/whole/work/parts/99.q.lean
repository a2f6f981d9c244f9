/-! THE CLASS'S READER, PURE: whole texts. Written by wip/b/mk99.py. -/
section CNT
variable {E : EV9} {w : Nat → Nat} {S : Nat → Nat → CT → Nat → RT} {d a o : Nat} {c : CT}
theorem pG_cnt {first : Nat} (hS : ∀ (a o : Nat) (c : CT) (x : Nat × CT × List SP × List Nat), c.1 ≤ 60 → S (d + 1) a c o = .inr x → c.1 ≤ x.2.1.1 ∧ x.2.1.1 ≤ 60) : ∀ (f a o : Nat) (c : CT) (ss : List SP) (out : List Nat) (y : Nat × CT × List SP × List Nat), c.1 ≤ 60 → pG_ E w S d first f a c o ss out = .inr y → c.1 ≤ y.2.1.1 ∧ y.2.1.1 ≤ 60
  | 0, _, _, _, _, _, _, _, h => by cases h
  | f + 1, a, o, c, ss, out, y, h60, h => by
    by_cases ha : w a = 123 ∧ c.1 ≠ 60
    · rw [pG_brace E w S d first f a c o ss out ha.1 ha.2] at h
      cases e : pC_ E w S d a c o with
      | inl z => rw [e] at h; cases h
      | inr x =>
        rw [e, eb_r] at h
        have q := pC_cnt hS (by omega) e
        have ih := pG_cnt hS f _ _ _ _ _ _ q.2 h
        exact ⟨by omega, ih.2⟩
    · unfold pG_ at h
      by_cases q1 : w a = 999 ∨ w a = 125 ∨ w a = 124
      · rw [if_pos q1] at h
        by_cases q2 : a = first
        · rw [if_pos q2] at h; cases h
        · rw [if_neg q2] at h; cases h; exact ⟨Nat.le_refl _, h60⟩
      · rw [if_neg q1] at h
        by_cases q2 : w a ≠ 123 ∧ tP (w a) = false
        · rw [if_pos q2] at h; cases h
        · rw [if_neg q2] at h
          by_cases q3 : c.1 = 60
          · rw [if_pos q3] at h; cases h
          · have q4 : w a ≠ 123 := fun q => ha ⟨q, q3⟩
            rw [if_neg q3, if_pos q4] at h
            have ih := pG_cnt hS f _ _ (c.1 + 1, c.2) _ _ _ (show c.1 + 1 ≤ 60 by omega) h
            exact ⟨Nat.le_trans (Nat.le_succ _) ih.1, ih.2⟩
theorem pX_cnt : ∀ (l d a o : Nat) (c : CT) (x : Nat × CT × List SP × List Nat), c.1 ≤ 60 → pX_ E w l d a c o = .inr x → c.1 ≤ x.2.1.1 ∧ x.2.1.1 ≤ 60
  | 0, _, _, _, _, _, _, h => by cases h
  | l + 1, d, a, o, c, x, h60, h => pG_cnt (fun a o c x h1 h2 => pX_cnt l (d + 1) a o c x h1 h2) 100 a o c [] [] x h60 h
end CNT
section RNX
variable {w : Nat → Nat} {n : Nat} {E : EV9}
theorem rN_G {S : Nat → Nat → CT → Nat → RT} {d first : Nat} (hw : wn_ w n) (hd5 : d ≤ 5) (hC : ∀ (a o : Nat) (c : CT) (x : Nat × CT × List SP × List Nat), c.1 ≤ 60 → S (d + 1) a c o = .inr x → c.1 ≤ x.2.1.1 ∧ x.2.1.1 ≤ 60)
    (hS : d < 5 → ∀ (m : MM) (a o : Nat) (c : CT), a ≤ n → c.1 ≤ 60 → c.2.1 ≤ 30 → ms_ m = 0 → ml_ m = 0 → md9_ m = d + 1 → mc_ m = c → (mS_ m).length = o → (∀ q, d + 1 ≤ q → m.2.1 q = false) → ry_ w n m a (S (d + 1) a c o) (fun x m' a' => a' = x.1 ∧ (x.1 ≤ n ∧ a ≤ x.1 ∧ (w x.1 = 999 ∨ w x.1 = 125 ∨ w x.1 = 124)) ∧ x.2.1.2.1 ≤ 30 ∧ ml_ m' ≠ 0 ∧ tx_ m m' (d + 1) x.2.1 x.2.2.1)) : ∀ (f a o : Nat) (c : CT) (ss : List SP) (out : List Nat) (m : MM), 60 < f + c.1 → c.1 ≤ 60 → c.2.1 ≤ 30 → a ≤ n → first ≤ a → ms_ m = 0 → md9_ m = d → mc_ m = c → (mS_ m).length = o → (∀ q, d ≤ q → m.2.1 q = false) → (ml_ m = 0 ↔ a = first) → (ml_ m = 1 → tP (w a) = false) → ry_ w n m a (pG_ E w S d first f a c o ss out) (fun x m' a' => a' = x.1 ∧ (x.1 ≤ n ∧ a ≤ x.1 ∧ (w x.1 = 999 ∨ w x.1 = 125 ∨ w x.1 = 124)) ∧ x.2.1.2.1 ≤ 30 ∧ ml_ m' ≠ 0 ∧ ∃ s', x.2.2.1 = ss ++ s' ∧ tx_ m m' d x.2.1 s')
  | 0, _, _, _, _, _, _, h1, h2, _, _, _, _, _, _, _, _, _, _ => by omega
  | f + 1, a, o, c, ss, out, m, hf, h60, h30, ha, hfa, hs, hd, hc, ho, hel, hl0, hl1 => by
    have hn := hw.2.2
    by_cases z123 : w a = 123
    · have h9 : w a ≠ 999 := by omega
      by_cases q60 : c.1 = 60
      · unfold pG_
        rw [if_neg (by omega), if_neg (fun q => q.1 z123), if_pos q60]
        show rN_ false w n m a = _
        rw [rN_p hw ha hs h9, tp_many z123 (by rw [hc]; exact q60), eb_l]
      · rw [pG_brace E w S d first f a c o ss out z123 q60]
        have hb := rN_brace (E := E) (S := S) hw ha hs hd hd5 hc (by omega) h30 ho hel z123 hC hS
        cases e : pC_ E w S d a c o with
        | inl z => rw [e] at hb; exact hb
        | inr x =>
          rw [e] at hb
          rw [eb_r]
          obtain ⟨m1, a1, r1, q1, ⟨x1, x0⟩, x2, x3, x4⟩ := hb
          subst q1
          have cn := pC_cnt hC (by omega) e
          obtain ⟨t1, t2, t3, t4, t5, t6⟩ := id x4
          have gt : first ≠ x.1 ∧ first ≤ x.1 := by omega
          have ih := rN_G (first := first) hw hd5 hC hS f x.1 (o + x.2.2.1.length) x.2.1 (ss ++ x.2.2.1) (out ++ x.2.2.2) m1 (by omega) cn.2 x2 x1 gt.2 t1 t2 t3 (by rw [t4, List.length_append, ho]) (fun q hq => (t5 q).trans (hel q hq)) ⟨fun q => by omega, fun q => absurd q.symm gt.1⟩ (fun q => by omega)
          revert ih
          cases pG_ E w S d first f x.1 x.2.1 (o + x.2.2.1.length) (ss ++ x.2.2.1) (out ++ x.2.2.2) with
          | inl z => exact fun ih => r1.trans ih
          | inr y =>
            intro ih
            obtain ⟨m2, a2, r2, q2, y1, y2, y3, s', y4, y5⟩ := ih
            exact ⟨m2, a2, r1.trans r2, q2, ⟨y1.1, by have := y1.2.1; omega, y1.2.2⟩, y2, y3, x.2.2.1 ++ s', by rw [y4, List.append_assoc], tx_tr x4 y5⟩
    · by_cases q1 : w a = 999 ∨ w a = 125 ∨ w a = 124
      · unfold pG_
        rw [if_pos q1]
        by_cases q2 : a = first
        · rw [if_pos q2]
          have l0 := hl0.mpr q2
          show rN_ false w n m a = .inl (1, a)
          rcases q1 with q | q | q
          · exact rN_999n hw ha hs q (fun z => z.2 l0)
          · exact rN_125n hw ha hs q (fun z => z.2 l0)
          · exact rN_124n hw ha hs q (fun z => z.2.2.1 l0)
        · rw [if_neg q2]
          exact ⟨m, a, rfl, rfl, ⟨ha, Nat.le_refl _, q1⟩, h30, fun q => q2 (hl0.mp q), [], (List.append_nil _).symm, by rw [← hc]; exact tx_rf hs hd⟩
      · have h9 : w a ≠ 999 := fun q => q1 (Or.inl q)
        have han : a < n := by
          rcases Nat.lt_or_ge a n with q | q
          · exact q
          · exact absurd (hw.1 a q) h9
        by_cases q2 : tP (w a) = false
        · unfold pG_
          rw [if_neg q1, if_pos ⟨z123, q2⟩]
          show rN_ false w n m a = .inl (1, a)
          have h256 := hw.2.1 a han
          have hr : w a < 32 ∨ 126 < w a := by
            simp [tP] at q2
            omega
          have : tp8_ m a (w a) = .inl (1, a) := by
            unfold tp8_
            rw [if_pos hr]
          rw [rN_p hw ha hs h9, this, eb_l]
        · have hp : tP (w a) = true := by simpa using q2
          have l1 : ml_ m ≠ 1 := fun q => q2 (hl1 q)
          have hr : (32 ≤ w a ∧ w a ≤ 126) ∧ w a ≠ 123 ∧ w a ≠ 125 ∧ w a ≠ 124 := by
            simp [tP] at hp
            omega
          unfold pG_
          rw [if_neg q1, if_neg (fun q => q2 q.2)]
          by_cases q60 : c.1 = 60
          · rw [if_pos q60]
            show rN_ false w n m a = .inl (3, a)
            have : tp8_ m a (w a) = .inl (3, a) := by
              unfold tp8_
              rw [if_neg (by omega), if_neg (by omega), if_neg (by omega), if_neg (by omega), if_neg l1]
              unfold mpc_
              rw [hc, if_pos q60]
            rw [rN_p hw ha hs h9, this, eb_l]
          · rw [if_neg q60, if_pos z123]
            obtain ⟨m1, hm1⟩ : ∃ m1 : MM, m1 = ((m.1.1, m.1.2.1, 1, m.1.2.2.2), m.2.1, m.2.2.1, (c.1 + 1, c.2), mS_ m ++ [(0, w a)]) := ⟨_, rfl⟩
            have et : tp8_ m a (w a) = .inr m1 := by
              unfold tp8_
              rw [if_neg (by omega), if_neg (by omega), if_neg (by omega), if_neg (by omega), if_neg l1]
              unfold mpc_
              rw [hc, if_neg q60, hm1]
              rfl
            have s1 : ms_ m1 = 0 := by rw [hm1]; exact hs
            have e1 : rN_ false w n m a = rN_ false w n m1 (a + 1) := by rw [rN_p hw ha hs h9, et, eb_r]
            have rr := rN_run (r := false) hw 499 (a + 1) m1 (by omega) han s1 (by rw [hm1]; rfl)
            have ee : en9_ tP w 500 a = en9_ tP w 499 (a + 1) := en9_nx (f := 499) hp
            rw [← ee] at rr
            obtain ⟨b, hb⟩ : ∃ b, b = en9_ tP w 500 a := ⟨_, rfl⟩
            have ge : a + 1 ≤ b := by rw [hb, ee]; exact en9_ge tP w 499 (a + 1)
            have le : b ≤ n := by rw [hb]; exact en9_le rfl hw.1 ha
            have stop : tP (w b) = false := by rw [hb]; exact en9_end rfl hw.1 (by omega)
            have ebl : bl9_ w a (b - a) = w a :: bl9_ w (a + 1) (b - (a + 1)) := by
              rw [show b - a = (b - (a + 1)) + 1 by omega, bl9_c]
            rw [← hb] at rr ⊢
            obtain ⟨m2, hm2⟩ : ∃ m2 : MM, m2 = (m1.1, m1.2.1, m1.2.2.1, mc_ m1, mS_ m1 ++ (bl9_ w (a + 1) (b - (a + 1))).map (fun b => (0, b))) := ⟨_, rfl⟩
            rw [← hm2] at rr
            have S2 : mS_ m2 = mS_ m ++ (bl9_ w a (b - a)).map (fun b => (0, b)) := by
              rw [hm2, hm1, ebl, List.map_cons]
              show (mS_ m ++ [(0, w a)]) ++ _ = _
              rw [List.append_assoc]; rfl
            have L2 : (mS_ m2).length = o + (b - a) := by
              rw [S2, List.length_append, ho, List.length_map]
              unfold bl9_
              rw [List.length_map, List.length_range]
            have tx2 : tx_ m m2 d (c.1 + 1, c.2) ((bl9_ w a (b - a)).map (fun b => (0, b))) := ⟨by rw [hm2]; exact s1, by rw [hm2, hm1]; exact hd, by rw [hm2, hm1]; rfl, S2, fun q => by rw [hm2, hm1], fun q _ => by rw [hm2, hm1]⟩
            have ml2 : ml_ m2 = 1 := by rw [hm2, hm1]; rfl
            have ih := rN_G (first := first) hw hd5 hC hS f b (o + (b - a)) (c.1 + 1, c.2) (ss ++ (bl9_ w a (b - a)).map (fun b => (0, b))) (out ++ bl9_ w a (b - a)) m2 (show 60 < f + (c.1 + 1) by omega) (show c.1 + 1 ≤ 60 by omega) h30 le (by omega) tx2.1 tx2.2.1 tx2.2.2.1 L2 (fun q hq => (tx2.2.2.2.2.1 q).trans (hel q hq)) ⟨fun q => by omega, fun q => by omega⟩ (fun _ => stop)
            revert ih
            cases pG_ E w S d first f b (c.1 + 1, c.2) (o + (b - a)) (ss ++ (bl9_ w a (b - a)).map (fun b => (0, b))) (out ++ bl9_ w a (b - a)) with
            | inl z => exact fun ih => (e1.trans rr).trans ih
            | inr y =>
              intro ih
              obtain ⟨m3, a3, r3, q3, y1, y2, y3, s', y4, y5⟩ := ih
              exact ⟨m3, a3, (e1.trans rr).trans r3, q3, ⟨y1.1, by have := y1.2.1; omega, y1.2.2⟩, y2, y3, _ ++ s', by rw [y4, List.append_assoc], tx_tr tx2 y5⟩
/-- A TEXT, as the class reads it -/
theorem rN_X (hw : wn_ w n) : ∀ (l d : Nat), l + d = 12 → d ≤ 5 → ∀ (m : MM) (a o : Nat) (c : CT), a ≤ n → c.1 ≤ 60 → c.2.1 ≤ 30 → ms_ m = 0 → ml_ m = 0 → md9_ m = d → mc_ m = c → (mS_ m).length = o → (∀ q, d ≤ q → m.2.1 q = false) → ry_ w n m a (pX_ E w l d a c o) (fun x m' a' => a' = x.1 ∧ (x.1 ≤ n ∧ a ≤ x.1 ∧ (w x.1 = 999 ∨ w x.1 = 125 ∨ w x.1 = 124)) ∧ x.2.1.2.1 ≤ 30 ∧ ml_ m' ≠ 0 ∧ tx_ m m' d x.2.1 x.2.2.1)
  | 0, d, h1, h2 => by omega
  | l + 1, d, h1, h2 => fun m a o c ha h60 h30 hs hl hd hc ho hel => by
    have q := rN_G (E := E) (S := pX_ E w l) (d := d) (first := a) hw h2 (fun a o c x q1 q2 => pX_cnt l (d + 1) a o c x q1 q2) (fun h5 m a o c ha h60 h30 hs hl hd hc ho hel => rN_X hw l (d + 1) (by omega) h5 m a o c ha h60 h30 hs hl hd hc ho hel) 100 a o c [] [] m (by omega) h60 h30 ha (Nat.le_refl _) hs hd hc ho hel ⟨fun _ => rfl, fun _ => hl⟩ (fun q => by omega)
    unfold pX_
    revert q
    cases pG_ E w (pX_ E w l) d a 100 a c o [] [] with
    | inl e => exact fun q => q
    | inr x =>
      intro q
      obtain ⟨m', a', r1, r2, r3, r4, r5, s', r6, r7⟩ := q
      refine ⟨m', a', r1, r2, r3, r4, r5, ?_⟩
      rw [List.nil_append] at r6
      rw [r6]
      exact r7
end RNX
