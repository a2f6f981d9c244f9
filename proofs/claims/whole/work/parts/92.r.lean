/-! THE REFERENCE READS: how a reading begins and ends. Written by wip/b/mk92.py. -/
section MGO
variable {σ τ : TH} {y : Nat} {G : GH} {A : AS} {N : Nat → Nat} {t n p : Nat} {w : Nat → Nat} {ru : Int32} {E : EV9}
/-- the bytes of a text -/
def tbx_ (σ : TH) (G : GH) (t n : Nat) (w : Nat → Nat) : Prop := (kd_ σ t = 21 ∧ n ≤ ln_ σ t ∧ t ≠ ga_ G 27 0) ∧ (∀ k, k < n → ai_ σ t k &&& 255 = nI (w k) ∧ w k < 256) ∧ (∀ k, n ≤ k → w k = 999) ∧ n ≤ 400
theorem m_starts (hf : wf_ σ) (h : mr_ σ y G A N) (hb : tbx_ σ G t n w) (ru : Int32) : ∃ τ, f_X15_starts σ y (some t) (nI n) (nI p) = some ((), τ) ∧ kd_ τ y = 17 ∧ rs_ σ y G A N t n p w ru (si_ τ 1645 y ru) ∧ (fi_ (si_ τ 1645 y ru) 1632 y = nI 0 ∧ fi_ (si_ τ 1645 y ru) 1638 y = nI 0 ∧ fi_ (si_ τ 1645 y ru) 1639 y = nI 0 ∧ fi_ (si_ τ 1645 y ru) 1640 y = 0 ∧ fi_ (si_ τ 1645 y ru) 1641 y = nI 0) := by
  have hy := mo_y h.1
  obtain ⟨s1, e1⟩ : ∃ s, s = sr_ σ 1629 y (some t) := ⟨_, rfl⟩
  have m1 : mr_ s1 y G A N := by rw [e1]; exact mr_sr h _
  have q1 : fq_ (rU_ y G) σ s1 := by rw [e1]; exact fqr (fq_rf hf) (Or.inl rfl)
  have f1 : fi_ s1 = fi_ σ := by rw [e1]; rfl
  have r1 : fr_ s1 1629 y = some t := by rw [e1, fr_sr, up2_s]
  have x1 : nx_ s1 = nx_ σ ∧ sl_ s1 = sl_ σ ∧ kd_ s1 = kd_ σ ∧ ln_ s1 = ln_ σ ∧ ai_ s1 = ai_ σ := by rw [e1]; exact ⟨rfl, rfl, rfl, rfl, rfl⟩
  have hy1 : kd_ s1 y = 17 := by rw [x1.2.2.1]; exact hy
  obtain ⟨s8, e8⟩ : ∃ s, s = si_ (si_ (si_ (si_ (si_ (si_ (si_ s1 1631 y (nI n)) 1632 y 0) 1638 y 0) 1639 y 0) 1640 y 0) 1641 y 0) 1643 y (nI p) := ⟨_, rfl⟩
  have m8 : mr_ s8 y G A N := by
    rw [e8]
    exact mr_si (j := 43) (mr_si (j := 41) (mr_si (j := 40) (mr_si (j := 39) (mr_si (j := 38) (mr_si (j := 32) (mr_si (j := 31) m1 (by decide) _) (by decide) _) (by decide) _) (by decide) _) (by decide) _) (by decide) _) (by decide) _
  have q8 : fq_ (rU_ y G) σ s8 := by
    rw [e8]
    exact fqi (fqi (fqi (fqi (fqi (fqi (fqi q1 (Or.inl rfl)) (Or.inl rfl)) (Or.inl rfl)) (Or.inl rfl)) (Or.inl rfl)) (Or.inl rfl)) (Or.inl rfl)
  have td := m_today2 m8
  refine ⟨si_ s8 1644 y (nI (td_ N)), ?_, ?_, ⟨?_, ?_, ?_, ?_, ?_, ?_, fun j hj => ?_⟩, ?_⟩
  · unfold f_X15_starts
    rw [gt_t hy, lt_e, ← e1, lt_e, lt_e, lt_e, lt_e, lt_e, lt_e, lt_e, ← e8, td, bd_s, lt_e]
  · rw [kd_si, e8]; exact hy1
  · exact mr_si (j := 45) (mr_si (j := 44) m8 (by decide) _) (by decide) _
  · exact fqi (fqi q8 (Or.inl rfl)) (Or.inl rfl)
  · rw [e8]; exact ⟨x1.1, x1.2.1⟩
  · rw [e8]
    refine ⟨r1, ?_, ?_, hb.1.2.2⟩
    · show kd_ s1 t = 21; rw [x1.2.2.1]; exact hb.1.1
    · show n ≤ ln_ s1 t; rw [x1.2.2.2.1]; exact hb.1.2.1
  · rw [e8]
    refine ⟨fun k hk => ?_, hb.2.2.1, hb.2.2.2⟩
    show ai_ s1 t k &&& 255 = _ ∧ _
    rw [x1.2.2.2.2]
    exact hb.2.1 k hk
  · rw [e8]
    simp [fi_si, up2_e]
  · have hD : ∀ j, j ∈ DS → j ≠ 31 ∧ j ≠ 32 ∧ j ≠ 38 ∧ j ≠ 39 ∧ j ≠ 40 ∧ j ≠ 41 ∧ j ≠ 43 ∧ j ≠ 44 ∧ j ≠ 45 := by decide
    obtain ⟨d1, d2, d3, d4, d5, d6, d7, d8, d9⟩ := hD j hj
    rw [e8, fi_si, up2_c (by omega), fi_si, up2_c (by omega), fi_si, up2_c (by omega), fi_si, up2_c (by omega), fi_si, up2_c (by omega), fi_si, up2_c (by omega), fi_si, up2_c (by omega), fi_si, up2_c (by omega), fi_si, up2_c (by omega), f1]
  · rw [e8]
    simp [fi_si, up2_e]
    decide
/-- a paragraph's text -/
theorem m_goes (hf : wf_ σ) (h : mr_ σ y G A N) (hb : tbx_ σ G t n w) (hE : ve_ σ y G A N t n p w 0 false E) (hB : eB_ E) (pr : Bool) : rr_ (pP_ E w n) (f_X15_goes σ y (some t) (nI n) (nI p) (bi_ (pr = true))) (rz_ σ y G A N t n p w 0) (ga_ G 25 0) (fun x _ τ' => rx_ σ y G A N t n p w x.1 x.2.1 (lq9_ pr [] x.2.2.2) τ') := by
  obtain ⟨τ, e1, hy1, h1, e32, e38, e39, e40, e41⟩ := m_starts (p := p) hf h hb 0
  unfold f_X15_goes pP_
  rw [gt_t (mo_y h.1), e1, bd_s, lt_e]
  have r0 : rx_ σ y G A N t n p w 0 (0, 0, 0) [] (si_ τ 1645 y 0) := ⟨h1, ⟨Nat.zero_le _, e32⟩, ⟨e38, by decide, e39, by decide, e40⟩, ⟨e41, Nat.zero_le _⟩, fun i hi => absurd hi (Nat.not_lt_zero i)⟩
  refine rr_bx (m_text hE hB 12 0 rfl (by decide) 0 0 (0, 0, 0) [] pr _ r0) (fun x _ τ2 hx => ?_)
  obtain ⟨x1, -, -⟩ := hx
  have e31 : fi_ τ2 1631 y = nI n := x1.1.2.2.2.2.2.1.1
  have hn4 := hb.2.2.2
  have hx4 := x1.2.1.1
  rw [lt_e, x1.2.1.2, lt_e, e31]
  by_cases z : n ≤ x.1
  · rw [if_pos z, if_pos (nI_le z (by omega))]
    exact ⟨(), τ2, rfl, x1⟩
  · rw [if_neg z, if_neg (nI_ge (by omega) (by omega)), lt_e]
    exact m_stopA x1.1 1 _ 1 _ rfl rfl
/-- a rule -/
theorem m_ruleHolds (hf : wf_ σ) (h : mr_ σ y G A N) (hb : tbx_ σ G t n w) (hE : ve_ σ y G A N t n p w 1 true E) : rr_ (pR_ E w) (f_X15_ruleHolds σ y (some t) (nI n) (nI p)) (rz_ σ y G A N t n p w 1) (ga_ G 25 0) (fun x v τ' => rs_ σ y G A N t n p w 1 τ' ∧ fi_ τ' 1640 y = x.1 ∧ v = bi_ (x.2.2 = true)) := by
  obtain ⟨τ, e1, hy1, h1, e32, e38, e39, e40, e41⟩ := m_starts (p := p) hf h hb 1
  unfold f_X15_ruleHolds pR_
  rw [gt_t (mo_y h.1), e1, bd_s, lt_e]
  obtain ⟨⟨u, τ1⟩, r1, r2, r3, r4⟩ := m_next h1 (Nat.zero_le _) e32
  have rt0 : rt_ σ y G A N t n p w 1 (si_ τ 1645 y 1) 0 0 0 τ1 := ⟨r2, r3, Nat.zero_le _, ⟨by rw [r4.1.2.1]; exact e39, by decide, by rw [r4.1.2.2.1]; exact e40⟩, r4.1.1, r4.1.2.2.2, r4.2⟩
  rw [r1, bd_s]
  refine rr_bx (m_test hE rt0) (fun x v τ2 hx => ?_)
  obtain ⟨x1, x2, x3⟩ := hx
  rw [lt_e]
  have tv := x1.2.1.2.2
  by_cases z : (tz_ w x.1).1 = 1
  · have e33 : fi_ τ2 1633 y = 1 := by
      rcases tv with ⟨e1, e2⟩ | ⟨e1, e2⟩ | ⟨e1, e2, e3⟩ | ⟨e1, e2, e3⟩ | ⟨e1, e2, e3⟩
      · omega
      · exact e2
      · omega
      · omega
      · omega
    rw [if_pos z, e33, if_pos rfl, x2, gt_t bi_01]
    exact ⟨_, τ2, rfl, x1.1, x1.2.2.2.1.2.2, rfl⟩
  · have e33 : ¬ fi_ τ2 1633 y = 1 := by
      rcases tv with ⟨e1, e2⟩ | ⟨e1, e2⟩ | ⟨e1, e2, e3⟩ | ⟨e1, e2, e3⟩ | ⟨e1, e2, e3⟩
      · rw [e2]; decide
      · exact absurd e1 z
      · rw [e2]; decide
      · rw [e2]; decide
      · rw [e2]; decide
    rw [if_neg z, if_neg e33]
    exact m_stopT x1 1 1 rfl
end MGO
/-- the names that a paragraph may use -/
def EP_ (A : AS) (N : Nat → Nat) (p : Nat) : EV9 := (fun c => if c ≤ 13 then (ER_ A N p).1 c else 0, (ER_ A N p).2)
theorem ve_P {σ : TH} {y : Nat} {G : GH} {A : AS} {N : Nat → Nat} {t n p : Nat} {w : Nat → Nat} (hT : pvT A N) (hR : pvR A N) (hp : p < 30) : ve_ σ y G A N t n p w 0 false (EP_ A N p) := by
  obtain ⟨h1, h2, h3, h4, h5⟩ := ve_of (σ := σ) (y := y) (G := G) (t := t) (n := n) (w := w) (ru := 0) (r := false) (Or.inl ⟨rfl, rfl⟩) hT hR hp
  refine ⟨h1, fun e τ z q1 q2 q3 q4 => ?_, fun e => absurd e (by decide), h4, h5⟩
  rw [h2 e τ z q1 q2 q3 q4]
  have : z.2.1 ≤ 13 := by simpa [nm9_] using q4
  show some (_, _) = some ((if z.2.1 ≤ 13 then (ER_ A N p).1 z.2.1 else 0), _)
  rw [if_pos this]
theorem toi_le {a : Int32} {k : Int} (h : a.toInt ≤ k) : a.toInt ≤ k := h
theorem eB_P {A : AS} {N : Nat → Nat} {p : Nat} (hT : pvT A N) (hH : pvH A N) (hp : p < N 5) (h6 : N 6 ≤ 5257439) (h15 : aV A 15 p = bi_ (0 ≤ aV A 12 p)) : eB_ (EP_ A N p) := by
  intro c
  obtain ⟨⟨a1, a2⟩, ⟨b1, b2⟩, c1, -⟩ := hH p hp
  have a1' := Int32.le_iff_toInt_le.mp a1
  have a2' := Int32.le_iff_toInt_le.mp a2
  have b1' := Int32.le_iff_toInt_le.mp b1
  have b2' := Int32.le_iff_toInt_le.mp b2
  rw [show (1 : Int32).toInt = 1 from rfl] at a1' b1'
  rw [show (36500 : Int32).toInt = 36500 from rfl] at a2'
  rw [show (100 : Int32).toInt = 100 from rfl] at b2'
  obtain ⟨m, hm⟩ : ∃ m, m = (aV A 9 p).toInt.toNat := ⟨_, rfl⟩
  have e9 : aV A 9 p = nI m := by rw [hm]; exact nI_toi (by omega)
  have htd : td_ N ≤ 3650 := by unfold td_; omega
  have sm : ∀ k : Nat, k ≤ 20000 → -20000 ≤ (nI k).toInt ∧ (nI k).toInt ≤ 20000 := fun k hk => by
    rw [toi_nI (by omega)]; omega
  show -20000 ≤ (if c ≤ 13 then (ER_ A N p).1 c else 0).toInt ∧ (if c ≤ 13 then (ER_ A N p).1 c else 0).toInt ≤ 20000
  by_cases z : c ≤ 13
  · rw [if_pos z]
    by_cases z10 : c < 10
    · have e : (ER_ A N p).1 c = fR_ A N p c := if_pos z10
      rw [e]
      unfold fR_
      cases ho : oR_ A N p c with
      | none => show -20000 ≤ (0 : Int32).toInt ∧ (0 : Int32).toInt ≤ 20000; decide
      | some t =>
        have lt : t < N 17 := by
          unfold oR_ at ho
          cases hl : la_ (tp9_ A (nI p) (nI c) (nI (td_ N))) (N 17) with
          | none => rw [hl] at ho; cases ho
          | some t' =>
            rw [hl] at ho
            have := (la_some hl).1
            dsimp only at ho
            split at ho
            · cases ho; exact this
            · cases ho
        obtain ⟨-, -, ⟨t1, t2⟩, -⟩ := hT t lt
        have t1' := Int32.le_iff_toInt_le.mp t1
        have t2' := Int32.le_iff_toInt_le.mp t2
        rw [show (-9999 : Int32).toInt = -9999 from rfl] at t1'
        rw [show (9999 : Int32).toInt = 9999 from rfl] at t2'
        show -20000 ≤ (aV A 22 t).toInt ∧ (aV A 22 t).toInt ≤ 20000
        omega
    · rcases (show c = 10 ∨ c = 11 ∨ c = 12 ∨ c = 13 by omega) with q | q | q | q
      · subst q
        show -20000 ≤ (aR_ A N p).toInt ∧ (aR_ A N p).toInt ≤ 20000
        have hd : ∃ d, d ≤ 3650 ∧ aR_ A N p = (nI d + nI m) / 365 := by
          unfold aR_
          rw [e9]
          by_cases qd : dR_ A N p = true
          · rw [if_pos qd]
            rcases c1 with c1 | ⟨d, d1, d2⟩
            · exfalso
              unfold dR_ at qd
              rw [h15, c1, bi_f (by decide)] at qd
              simp at qd
            · exact ⟨d, by omega, by rw [d2]⟩
          · rw [if_neg qd]
            exact ⟨td_ N, htd, rfl⟩
        obtain ⟨d, d1, d2⟩ := hd
        rw [d2, nI_add, show (365 : Int32) = nI 365 from rfl, pk_div (by omega) (by decide) (by decide)]
        exact sm _ (by omega)
      · subst q
        show -20000 ≤ (100 - (aV A 9 p + 365 - 1) / 365 : Int32).toInt ∧ (100 - (aV A 9 p + 365 - 1) / 365 : Int32).toInt ≤ 20000
        have e : aV A 9 p + 365 - 1 = nI (m + 364) := by
          rw [e9, show (365 : Int32) = nI 364 + 1 from rfl, ← Int32.add_assoc, Int32.add_sub_cancel, nI_add]
        rw [e, show (365 : Int32) = nI 365 from rfl, pk_div (by omega) (by decide) (by decide), Int32.sub_eq_add_neg]
        have h1 : (nI ((m + 364) / 365)).toInt = ((m + 364) / 365 : Nat) := toi_nI (by omega)
        have h2 := neg_toi (v := nI ((m + 364) / 365)) (by omega)
        have h3 : (100 : Int32).toInt = 100 := rfl
        rw [add_toi (by omega)]
        omega
      · subst q
        show -20000 ≤ (100 + nI (td_ N) / 365 : Int32).toInt ∧ (100 + nI (td_ N) / 365 : Int32).toInt ≤ 20000
        rw [show (365 : Int32) = nI 365 from rfl, pk_div (by omega) (by decide) (by decide), show (100 : Int32) = nI 100 from rfl, nI_add]
        exact sm _ (by omega)
      · subst q
        show -20000 ≤ (aV A 10 p).toInt ∧ (aV A 10 p).toInt ≤ 20000
        omega
  · rw [if_neg z]; decide
