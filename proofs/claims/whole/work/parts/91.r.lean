/-! THE REFERENCE READS: what names mean. Written by wip/b/mk91.py. -/
def dR_ (A : AS) (N : Nat → Nat) (p : Nat) : Bool := !decide (aV A 15 p = 0) && !decide (nI (td_ N) < aV A 12 p)
def aR_ (A : AS) (N : Nat → Nat) (p : Nat) : Int32 := ((if dR_ A N p = true then aV A 12 p else nI (td_ N)) + aV A 9 p) / 365
/-- the telling of a kind that is open -/
def oR_ (A : AS) (N : Nat → Nat) (p k : Nat) : Option Nat := match la_ (tp9_ A (nI p) (nI k) (nI (td_ N))) (N 17) with
  | none => none
  | some t => if aV A 24 t = 0 ∨ dR_ A N p = true then some t else none
def fR_ (A : AS) (N : Nat → Nat) (p k : Nat) : Int32 := match oR_ A N p k with
  | none => 0
  | some t => aV A 22 t
/-- does a report speak of p -/
def sR_ (A : AS) (N : Nat → Nat) (p r : Nat) : Bool := decide (aV A 68 r = 0) && decide (pe9_ A N r = nI p)
def bR_ (A : AS) (N : Nat → Nat) (p s : Nat) : Nat := cn_ (fun r => decide (aV A 64 r = nI s) && sR_ A N p r) (N 59)
/-- the hours since the first of m reports from r on that speaks of p -/
def hR_ (A : AS) (N : Nat → Nat) (p : Nat) : Nat → Nat → Int32
  | 0, _ => 0
  | m + 1, r => if sR_ A N p r = true then (nI (N 6) - aV A 65 r) / 60 else hR_ A N p m (r + 1)
def nR_ (A : AS) (N : Nat → Nat) (p : Nat) : Nat := cn_ (fun s => decide (0 < bR_ A N p s)) 5
def ER_ (A : AS) (N : Nat → Nat) (p : Nat) : EV9 := (fun c => if c < 10 then fR_ A N p c else if c = 10 then aR_ A N p else if c = 11 then 100 - (aV A 9 p + 365 - 1) / 365 else if c = 12 then 100 + nI (td_ N) / 365 else if c = 13 then aV A 10 p else if c = 19 then nI (nR_ A N p) else if c = 20 then hR_ A N p (N 59) 0 else nI (bR_ A N p (c - 14)), fun k => (oR_ A N p k).isSome, fun k => sl9_ A p (nI (td_ N)) k, dR_ A N p)
section MVAL
variable {σ τ : TH} {y : Nat} {G : GH} {A : AS} {N : Nat → Nat}
theorem m_deadR (h : mr_ τ y G A N) {p : Nat} (hp : p < 30) : f_X15_isDeadBy τ y (nI p) (nI (td_ N)) = some (bi_ (dR_ A N p = true), τ) := by
  have hy := mo_y h.1
  obtain ⟨a15, b15, c15⟩ := mo_a h.1 (j := 15) (cj := 1615) (K := 22) (n := 30) (by decide)
  obtain ⟨a12, b12, c12⟩ := mo_a h.1 (j := 12) (cj := 1612) (K := 20) (n := 30) (by decide)
  have g1 : ¬ nI p < 0 := nI_pos (by omega)
  have g3 : (nI p).toNatClampNeg = p := nI_clamp (by omega)
  have g4 : ¬ 30 ≤ p := by omega
  have v1 := mr_V h (j := 15) (by decide) p
  have v2 := mr_V h (j := 12) (by decide) p
  by_cases q1 : aV A 15 p = 0
  · simp [f_X15_isDeadBy, f_X15_isDeadBy_b23, f_X15_isDeadBy_b24, gt_, lt_, nn_, oc_, bd_, hy, a15, b15, c15, g1, g3, g4, v1, q1, bi_, dR_]
  · by_cases q2 : nI (td_ N) < aV A 12 p
    · simp [f_X15_isDeadBy, f_X15_isDeadBy_b23, f_X15_isDeadBy_b24, gt_, lt_, nn_, oc_, bd_, hy, a15, b15, c15, a12, b12, c12, g1, g3, g4, v1, v2, q1, q2, bi_, dR_]
    · simp [f_X15_isDeadBy, f_X15_isDeadBy_b23, f_X15_isDeadBy_b24, gt_, lt_, nn_, oc_, bd_, hy, a15, b15, c15, a12, b12, c12, g1, g3, g4, v1, v2, q1, q2, bi_, dR_]
theorem m_ageR (h : mr_ τ y G A N) {p : Nat} (hp : p < 30) : f_X15_ageOn τ y (nI p) (nI (td_ N)) = some (aR_ A N p, τ) := by
  have hy := mo_y h.1
  obtain ⟨a9, b9, c9⟩ := mo_a h.1 (j := 9) (cj := 1609) (K := 20) (n := 30) (by decide)
  obtain ⟨a12, b12, c12⟩ := mo_a h.1 (j := 12) (cj := 1612) (K := 20) (n := 30) (by decide)
  have g1 : ¬ nI p < 0 := nI_pos (by omega)
  have g3 : (nI p).toNatClampNeg = p := nI_clamp (by omega)
  have g4 : ¬ 30 ≤ p := by omega
  have v1 := mr_V h (j := 9) (by decide) p
  have v2 := mr_V h (j := 12) (by decide) p
  have hd := m_deadR h hp
  by_cases q : dR_ A N p = true
  · simp [f_X15_ageOn, f_X15_ageOn_b19, gt_, lt_, nn_, oc_, bd_, hy, hd, a9, b9, c9, a12, b12, c12, g1, g3, g4, v1, v2, q, bi_, aR_]
  · simp [f_X15_ageOn, f_X15_ageOn_b19, gt_, lt_, nn_, oc_, bd_, hy, hd, a9, b9, c9, g1, g3, g4, v1, q, bi_, aR_]
theorem m_openR (h : mr_ τ y G A N) {p : Nat} (hp : p < 30) (k : Nat) : f_X15_openOn τ y (nI p) (nI k) (nI (td_ N)) = some (oi_ (oR_ A N p k), τ) := by
  have hy := mo_y h.1
  have hN17 := (mo_n h.1 (j := 17) (cj := 1617) (m := 240) (by decide)).2
  obtain ⟨a24, b24, c24⟩ := mo_a h.1 (j := 24) (cj := 1624) (K := 22) (n := 240) (by decide)
  have s1 := m_tellingOn h (nI p) (nI k) (nI (td_ N))
  have hd := m_deadR h hp
  unfold oR_
  cases ht : la_ (tp9_ A (nI p) (nI k) (nI (td_ N))) (N 17) with
  | none =>
    rw [ht] at s1
    simp [f_X15_openOn, f_X15_openOn_b38, f_X15_openOn_b40, gt_, lt_, nn_, oc_, bd_, hy, s1, oi_]
  | some t =>
    rw [ht] at s1
    have lt := (la_some ht).1
    have zt : ¬ nI t = -1 := nI_n1 (by omega)
    have v24 := mr_V h (j := 24) (by decide) t
    have g1 : ¬ nI t < 0 := nI_pos (by omega)
    have g3 : (nI t).toNatClampNeg = t := nI_clamp (by omega)
    have g4 : ¬ 240 ≤ t := by omega
    by_cases q : aV A 24 t = 0
    · simp [f_X15_openOn, f_X15_openOn_b38, f_X15_openOn_b40, gt_, lt_, nn_, oc_, bd_, hy, s1, oi_, zt, a24, b24, c24, g1, g3, g4, v24, q]
    · by_cases q2 : dR_ A N p = true
      · simp [f_X15_openOn, f_X15_openOn_b38, f_X15_openOn_b40, gt_, lt_, nn_, oc_, bd_, hy, s1, oi_, zt, a24, b24, c24, g1, g3, g4, v24, q, hd, q2, bi_]
      · simp [f_X15_openOn, f_X15_openOn_b38, f_X15_openOn_b40, gt_, lt_, nn_, oc_, bd_, hy, s1, oi_, zt, a24, b24, c24, g1, g3, g4, v24, q, hd, q2, bi_]
theorem m_speaks (h : mr_ τ y G A N) (hT : pvT A N) (hR : pvR A N) {r : Nat} (hr : r < N 59) (p : Nat) : f_X15_speaksOf τ y (nI r) (nI p) = some (bi_ (sR_ A N p r = true), τ) := by
  have hy := mo_y h.1
  have hN59 := (mo_n h.1 (j := 59) (cj := 1659) (m := 120) (by decide)).2
  obtain ⟨a68, b68, c68⟩ := mo_a h.1 (j := 68) (cj := 1668) (K := 22) (n := 120) (by decide)
  have g1 : ¬ nI r < 0 := nI_pos (by omega)
  have g3 : (nI r).toNatClampNeg = r := nI_clamp (by omega)
  have g4 : ¬ 120 ≤ r := by omega
  have v68 := mr_V h (j := 68) (by decide) r
  have s1 := m_personOf h hT hR hr
  by_cases q : aV A 68 r = 0
  · by_cases q2 : pe9_ A N r = nI p
    · simp [f_X15_speaksOf, f_X15_speaksOf_b22, f_X15_speaksOf_b23, gt_, lt_, nn_, oc_, bd_, hy, a68, b68, c68, g1, g3, g4, v68, q, s1, q2, sR_, bi_]
    · simp [f_X15_speaksOf, f_X15_speaksOf_b22, f_X15_speaksOf_b23, gt_, lt_, nn_, oc_, bd_, hy, a68, b68, c68, g1, g3, g4, v68, q, s1, q2, sR_, bi_]
  · simp [f_X15_speaksOf, f_X15_speaksOf_b22, f_X15_speaksOf_b23, gt_, lt_, nn_, oc_, bd_, hy, a68, b68, c68, g1, g3, g4, v68, q, sR_, bi_]
theorem m_reportsBy (h : mr_ τ y G A N) (hT : pvT A N) (hR : pvR A N) (p s : Nat) : f_X15_reportsBy τ y (nI p) (nI s) = some (nI (bR_ A N p s), τ) := by
  have hy := mo_y h.1
  obtain ⟨e, hb⟩ := mo_n h.1 (j := 59) (cj := 1659) (m := 120) (by decide)
  obtain ⟨a64, b64, c64⟩ := mo_a h.1 (j := 64) (cj := 1664) (K := 20) (n := 120) (by decide)
  refine lp_ (F := fun f acc i => f_X15_reportsBy_b5 f τ y (nI p) (nI s) acc i) (N 59) (fun i => nI (cn_ (fun r => decide (aV A 64 r = nI s) && sR_ A N p r) i)) (fun f i hi => ?_) (fun f => ?_) (by omega)
  · have g2 : ¬ nI (N 59) ≤ nI i := nI_ge hi (by omega)
    have g1 : ¬ nI i < 0 := nI_pos (by omega)
    have g3 : (nI i).toNatClampNeg = i := nI_clamp (by omega)
    have g4 : ¬ 120 ≤ i := by omega
    have v := mr_V h (j := 64) (by decide) i
    have sp := m_speaks h hT hR hi p
    by_cases q1 : aV A 64 i = nI s
    · by_cases q2 : sR_ A N p i = true
      · simp [f_X15_reportsBy_b5, f_X15_reportsBy_b40, f_X15_reportsBy_b41, gt_, lt_, nn_, oc_, bd_, hy, e, a64, b64, c64, g1, g2, g3, g4, v, q1, sp, q2, bi_, cn_, nI_1]
      · simp [f_X15_reportsBy_b5, f_X15_reportsBy_b40, f_X15_reportsBy_b41, gt_, lt_, nn_, oc_, bd_, hy, e, a64, b64, c64, g1, g2, g3, g4, v, q1, sp, q2, bi_, cn_, nI_1]
    · simp [f_X15_reportsBy_b5, f_X15_reportsBy_b40, f_X15_reportsBy_b41, gt_, lt_, nn_, oc_, bd_, hy, e, a64, b64, c64, g1, g2, g3, g4, v, q1, cn_, nI_1]
  · have g2 : nI (N 59) ≤ nI (N 59) := nI_le (Nat.le_refl _) (by omega)
    simp [f_X15_reportsBy_b5, gt_, lt_, nn_, oc_, bd_, hy, e, g2, bR_]
theorem m_hoursR (h : mr_ τ y G A N) (hT : pvT A N) (hR : pvR A N) (p : Nat) : ∀ (m r g : Nat), r + m = N 59 → m < g → f_X15_hoursSince_b2 g τ y (nI p) (nI r) = some (hR_ A N p m r, τ)
  | _, _, 0, _, h2 => by omega
  | 0, r, g + 1, h1, h2 => by
    have hy := mo_y h.1
    obtain ⟨e, hb⟩ := mo_n h.1 (j := 59) (cj := 1659) (m := 120) (by decide)
    have g2 : nI (N 59) ≤ nI r := nI_le (by omega) (by omega)
    simp [f_X15_hoursSince_b2, gt_, lt_, nn_, oc_, bd_, hy, e, g2, hR_]
  | m + 1, r, g + 1, h1, h2 => by
    have hy := mo_y h.1
    obtain ⟨e, hb⟩ := mo_n h.1 (j := 59) (cj := 1659) (m := 120) (by decide)
    obtain ⟨e6, hb6⟩ := mo_n h.1 (j := 6) (cj := 1606) (m := 5257439) (by decide)
    have g2 : ¬ nI (N 59) ≤ nI r := nI_ge (by omega) (by omega)
    obtain ⟨a65, b65, c65⟩ := mo_a h.1 (j := 65) (cj := 1665) (K := 20) (n := 120) (by decide)
    have g1 : ¬ nI r < 0 := nI_pos (by omega)
    have g3 : (nI r).toNatClampNeg = r := nI_clamp (by omega)
    have g4 : ¬ 120 ≤ r := by omega
    have v := mr_V h (j := 65) (by decide) r
    have sp := m_speaks h hT hR (r := r) (by omega) p
    by_cases q2 : sR_ A N p r = true
    · simp [f_X15_hoursSince_b2, gt_, lt_, nn_, oc_, bd_, hy, e, e6, a65, b65, c65, g1, g2, g3, g4, v, sp, q2, bi_, hR_]
    · have ih := m_hoursR h hT hR p m (r + 1) g (by omega) (by omega)
      simp [f_X15_hoursSince_b2, gt_, lt_, nn_, oc_, bd_, hy, e, g2, sp, q2, bi_, hR_, nI_1, ih]
theorem m_sourcesR (h : mr_ τ y G A N) (hT : pvT A N) (hR : pvR A N) {p : Nat} (e43 : fi_ τ 1643 y = nI p) : f_X15_ruleValue_b86 fu_ τ y 0 0 = some (nI (nR_ A N p), τ) := by
  have hy := mo_y h.1
  have hN59 := (mo_n h.1 (j := 59) (cj := 1659) (m := 120) (by decide)).2
  refine lp_ (F := fun f acc i => f_X15_ruleValue_b86 f τ y acc i) 5 (fun i => nI (cn_ (fun s => decide (0 < bR_ A N p s)) i)) (fun f i hi => ?_) (fun f => ?_) (by omega)
  · have g2 : ¬ (5 : Int32) ≤ nI i := nI_ge (b := 5) hi (by decide)
    have s := m_reportsBy h hT hR p i
    by_cases q : 0 < bR_ A N p i
    · have g5 : ¬ nI (bR_ A N p i) ≤ 0 := nI_ge (a := 0) q (Nat.lt_of_le_of_lt (cn_le _ _) (by omega))
      simp [f_X15_ruleValue_b86, f_X15_ruleValue_b109, gt_, lt_, nn_, oc_, bd_, hy, g2, e43, s, g5, q, cn_, nI_1]
    · have q0 : bR_ A N p i = 0 := by omega
      have g5 : nI (bR_ A N p i) ≤ 0 := by rw [q0]; decide
      simp [f_X15_ruleValue_b86, f_X15_ruleValue_b109, gt_, lt_, nn_, oc_, bd_, hy, g2, e43, s, g5, q, cn_, nI_1]
  · simp [f_X15_ruleValue_b86, show (5 : Int32) ≤ nI 5 from by decide, nR_]
end MVAL
section MVE
variable {σ τ : TH} {y : Nat} {G : GH} {A : AS} {N : Nat → Nat} {t n p : Nat} {w : Nat → Nat} {ru : Int32} {r : Bool}
theorem ve_of (hru : (ru = 0 ∧ r = false) ∨ (ru = 1 ∧ r = true)) (hT : pvT A N) (hR : pvR A N) (hp : p < 30) : ve_ σ y G A N t n p w ru r (ER_ A N p) := by
  refine ⟨hru, fun e0 τ z h tv z4 zn => ?_, fun e1 τ z h tv z4 zn => ?_, fun τ h k hk => ⟨⟨_, m_openR h.1 hp k, ?_⟩, m_isStale h.1 hp hk _⟩, fun τ h => m_deadR h.1 hp⟩
  · have hy := rs_y h
    have hN17 := (mo_n h.1.1 (j := 17) (cj := 1617) (m := 240) (by decide)).2
    have e43 : fi_ τ 1643 y = nI p := h.2.2.2.2.2.1.2.1
    have e44 : fi_ τ 1644 y = nI (td_ N) := h.2.2.2.2.2.1.2.2.1
    have c13 : z.2.1 ≤ 13 := by simpa [nm9_] using zn
    obtain ⟨a9, b9, c9⟩ := mo_a h.1.1 (j := 9) (cj := 1609) (K := 20) (n := 30) (by decide)
    obtain ⟨a10, b10, c10⟩ := mo_a h.1.1 (j := 10) (cj := 1610) (K := 20) (n := 30) (by decide)
    have g1 : ¬ nI p < 0 := nI_pos (by omega)
    have g3 : (nI p).toNatClampNeg = p := nI_clamp (by omega)
    have g4 : ¬ 30 ≤ p := by omega
    have v9 := mr_V h.1 (j := 9) (by decide) p
    have v10 := mr_V h.1 (j := 10) (by decide) p
    unfold f_X15_value
    rw [gt_t hy, m_w_age tv hy, bd_s]
    by_cases c10' : z.2.1 = 10
    · rw [bi_t ⟨z4, c10'⟩, if_neg (show ¬ (1 : Int32) = 0 by decide), lt_e, lt_e, e43, e44, m_ageR h.1 hp, bd_s, if_neg (show ¬ z.2.1 < 10 by omega), c10']
      rfl
    rw [bi_f (fun q => c10' q.2), if_pos rfl, m_w_born tv hy, bd_s]
    by_cases c11 : z.2.1 = 11
    · rw [bi_t ⟨z4, c11⟩, if_neg (show ¬ (1 : Int32) = 0 by decide), if_neg (show ¬ z.2.1 < 10 by omega), c11]
      simp [gt_, lt_, nn_, oc_, bd_, e43, a9, b9, c9, g1, g3, g4, v9, ER_]
    rw [bi_f (fun q => c11 q.2), if_pos rfl, m_w_year tv hy, bd_s]
    by_cases c12 : z.2.1 = 12
    · rw [bi_t ⟨z4, c12⟩, if_neg (show ¬ (1 : Int32) = 0 by decide), if_neg (show ¬ z.2.1 < 10 by omega), c12]
      simp [gt_, lt_, nn_, oc_, bd_, e44, ER_]
    rw [bi_f (fun q => c12 q.2), if_pos rfl, m_w_worth tv hy, bd_s]
    by_cases c13' : z.2.1 = 13
    · rw [bi_t ⟨z4, c13'⟩, if_neg (show ¬ (1 : Int32) = 0 by decide), if_neg (show ¬ z.2.1 < 10 by omega), c13']
      simp [gt_, lt_, nn_, oc_, bd_, e43, a10, b10, c10, g1, g3, g4, v10, ER_]
    rw [bi_f (fun q => c13' q.2), if_pos rfl]
    have lt10 : z.2.1 < 10 := by omega
    have f37 := (m_isFact tv hy).2 z4 lt10
    rw [lt_e, lt_e, f37, lt_e, if_pos lt10]
    obtain ⟨τ1, hτ1⟩ : ∃ τ1, τ1 = si_ τ 1640 y (fi_ τ 1640 y ||| ((1 : Int32) <<< (nI z.2.1 &&& 31))) := ⟨_, rfl⟩
    have h1 : rs_ σ y G A N t n p w ru τ1 := by rw [hτ1]; exact rs_si h (j := 40) (by decide) rfl _
    have d43 : fi_ τ1 1643 y = nI p := h1.2.2.2.2.2.1.2.1
    have d44 : fi_ τ1 1644 y = nI (td_ N) := h1.2.2.2.2.2.1.2.2.1
    have d37 : fi_ τ1 1637 y = nI z.2.1 := by rw [hτ1, fi_si, up2_c (by decide)]; exact f37
    rw [← hτ1, lt_e, lt_e, lt_e, d43, d44, d37, m_openR h1.1 hp, bd_s]
    obtain ⟨a22, b22, c22⟩ := mo_a h1.1.1 (j := 22) (cj := 1622) (K := 20) (n := 240) (by decide)
    have eE : (ER_ A N p).1 z.2.1 = fR_ A N p z.2.1 := if_pos lt10
    rw [eE]
    unfold fR_
    cases ho : oR_ A N p z.2.1 with
    | none => rfl
    | some t =>
      have lt : t < N 17 := by
        unfold oR_ at ho
        cases hl : la_ (tp9_ A (nI p) (nI z.2.1) (nI (td_ N))) (N 17) with
        | none => rw [hl] at ho; cases ho
        | some t' =>
          rw [hl] at ho
          have := (la_some hl).1
          dsimp only at ho
          split at ho
          · cases ho; exact this
          · cases ho
      have zt : ¬ nI t = -1 := nI_n1 (by omega)
      have v22 := mr_V h1.1 (j := 22) (by decide) t
      have g1b : ¬ nI t < 0 := nI_pos (by omega)
      have g3b : (nI t).toNatClampNeg = t := nI_clamp (by omega)
      have g4b : ¬ 240 ≤ t := by omega
      show (if nI t = -1 then _ else _) = _
      rw [if_neg zt]
      simp [f_X15_value_b145, gt_, lt_, nn_, oc_, bd_, a22, b22, c22, show oi_ (some t) = nI t from rfl, g1b, g3b, g4b, v22]
  · have hy := rs_y h
    have e43 : fi_ τ 1643 y = nI p := h.2.2.2.2.2.1.2.1
    have e44 : fi_ τ 1644 y = nI (td_ N) := h.2.2.2.2.2.1.2.2.1
    have cc : z.2.1 = 10 ∨ (13 ≤ z.2.1 ∧ z.2.1 ≤ 20) := by simpa [nm9_] using zn
    obtain ⟨a10, b10, c10⟩ := mo_a h.1.1 (j := 10) (cj := 1610) (K := 20) (n := 30) (by decide)
    have g1 : ¬ nI p < 0 := nI_pos (by omega)
    have g3 : (nI p).toNatClampNeg = p := nI_clamp (by omega)
    have g4 : ¬ 30 ≤ p := by omega
    have v10 := mr_V h.1 (j := 10) (by decide) p
    unfold f_X15_ruleValue
    rw [gt_t hy, m_w_age tv hy, bd_s]
    by_cases c10' : z.2.1 = 10
    · rw [bi_t ⟨z4, c10'⟩, if_neg (show ¬ (1 : Int32) = 0 by decide), lt_e, lt_e, e43, e44, m_ageR h.1 hp, bd_s, c10']
      rfl
    rw [bi_f (fun q => c10' q.2), if_pos rfl, m_w_worth tv hy, bd_s]
    by_cases c13' : z.2.1 = 13
    · rw [bi_t ⟨z4, c13'⟩, if_neg (show ¬ (1 : Int32) = 0 by decide), c13']
      simp [gt_, lt_, nn_, oc_, bd_, e43, a10, b10, c10, g1, g3, g4, v10, ER_]
    rw [bi_f (fun q => c13' q.2), if_pos rfl, m_src tv hy z4, bd_s]
    by_cases c14 : 14 ≤ z.2.1 ∧ z.2.1 ≤ 18
    · rw [if_pos c14, if_neg (nI_n1 (by omega)), lt_e, e43, m_reportsBy h.1 hT hR, bd_s]
      have eE : (ER_ A N p).1 z.2.1 = nI (bR_ A N p (z.2.1 - 14)) := by
        unfold ER_
        dsimp only
        rw [if_neg (by omega), if_neg (by omega), if_neg (by omega), if_neg (by omega), if_neg (by omega), if_neg (by omega), if_neg (by omega)]
      rw [eE]
    rw [if_neg c14, if_pos rfl, m_w_hours tv hy, bd_s]
    by_cases c20 : z.2.1 = 20
    · rw [bi_t ⟨z4, c20⟩, if_neg (show ¬ (1 : Int32) = 0 by decide), lt_e, e43, c20]
      unfold f_X15_hoursSince
      have hb := (mo_n h.1.1 (j := 59) (cj := 1659) (m := 120) (by decide)).2
      rw [show (0 : Int32) = nI 0 from rfl, m_hoursR h.1 hT hR p (N 59) 0 fu_ (by omega) (Nat.lt_of_le_of_lt hb (by decide)), bd_s]
      rfl
    have c19 : z.2.1 = 19 := by omega
    rw [bi_f (fun q => c20 q.2), if_pos rfl, m_sourcesR h.1 hT hR e43, c19]
    rfl
  · show oi_ (oR_ A N p k) = -1 ↔ (oR_ A N p k).isSome = false
    have hN17 := (mo_n h.1.1 (j := 17) (cj := 1617) (m := 240) (by decide)).2
    cases ho : oR_ A N p k with
    | none => exact ⟨fun _ => rfl, fun _ => rfl⟩
    | some t =>
      have lt : t < N 17 := by
        unfold oR_ at ho
        cases hl : la_ (tp9_ A (nI p) (nI k) (nI (td_ N))) (N 17) with
        | none => rw [hl] at ho; cases ho
        | some t' =>
          rw [hl] at ho
          have := (la_some hl).1
          dsimp only at ho
          split at ho
          · cases ho; exact this
          · cases ho
      exact ⟨fun q => absurd q (nI_n1 (by omega)), fun q => by cases q⟩
end MVE
