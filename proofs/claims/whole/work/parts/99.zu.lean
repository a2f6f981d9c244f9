/-! CALLS: a story's paragraphs, as they are offered. Written by wip/b/mk99zu.py. -/
/-- the paragraph at a place -/
def kx9_ (A : AS) (N : Nat → Nat) (p b : Nat) : Nat := (pf9_ A N p (nI b)).getD 0
theorem kx9_s {A : AS} {N : Nat → Nat} {p b : Nat} (hPl : ∀ k, k < N 47 → aP A 1401 k = nI (pl_ A k)) (hst : st_ A N p ≤ 14) (hb : b < st_ A N p) : pf9_ A N p (nI b) = some (kx9_ A N p b) ∧ kx9_ A N p b < N 47 ∧ aP A 1400 (kx9_ A N p b) = nI p ∧ pl_ A (kx9_ A N p b) = b := by
  unfold kx9_
  cases hf : pf9_ A N p (nI b) with
  | some k =>
    obtain ⟨f1, f2, f3⟩ := pf9_some hf
    have lt := pl_st f1 f2
    rw [hPl k f1] at f3
    have f4 : pl_ A k = b := (nI_eq (by omega) (by omega)).mp f3
    exact ⟨rfl, f1, f2, f4⟩
  | none =>
    exfalso
    obtain ⟨k, k1, k2, k3⟩ := pl_ex hb
    have q := ff9_none hf k (Nat.zero_le _) (by omega)
    have e1 := hPl k k1
    rw [k3] at e1
    rw [k2, e1] at q
    simp at q
def cco8_ (A : AS) (N : Nat → Nat) (p b : Nat) : Int := if b < st_ A N p then ((ot9_ A N p (kx9_ A N p b)).length : Int) else 0
def cle8_ (A : AS) (N : Nat → Nat) (p b : Nat) : Int := if b < st_ A N p then (aP A 1403 (kx9_ A N p b)).toInt else -1
def cga8_ (A : AS) (N : Nat → Nat) (p b : Nat) : Int := if b < st_ A N p then (aP A 1402 (kx9_ A N p b)).toInt else 0
def cop8_ (A : AS) (N : Nat → Nat) (p : Nat) (v : Int32) (b : Nat) : Bool := decide (v = 0) || !mk9_ A N p (kx9_ A N p b) 10
theorem zI_to (v : Int32) : zI v.toInt = v := Int32.ofInt_toInt v
theorem cob8_ {A : AS} {N : Nat → Nat} {p : Nat} (hPl : ∀ k, k < N 47 → aP A 1401 k = nI (pl_ A k)) (hst : st_ A N p ≤ 14) (hP : pvP A N) (hL : ∀ k, k < N 47 → aP A 1400 k = nI p → (ot9_ A N p k).length ≤ 880) : (∀ b, 0 ≤ cga8_ A N p b ∧ cga8_ A N p b ≤ 100000000) ∧ (∀ b, 0 ≤ cco8_ A N p b ∧ cco8_ A N p b ≤ 10000000) ∧ ∀ b, cle8_ A N p b = -1 ∨ (0 ≤ cle8_ A N p b ∧ cle8_ A N p b < b) := by
  refine ⟨fun b => ?_, fun b => ?_, fun b => ?_⟩
  · unfold cga8_
    by_cases hb : b < st_ A N p
    · rw [if_pos hb]
      obtain ⟨-, k1, k2, k3⟩ := kx9_s hPl hst hb
      obtain ⟨-, ⟨q1, q2⟩, -⟩ := hP _ k1
      have q1 := Int32.le_iff_toInt_le.mp q1
      have q2 := Int32.le_iff_toInt_le.mp q2
      rw [show (0 : Int32).toInt = 0 by decide] at q1
      rw [show (999 : Int32).toInt = 999 by decide] at q2
      omega
    · rw [if_neg hb]; decide
  · unfold cco8_
    by_cases hb : b < st_ A N p
    · rw [if_pos hb]
      obtain ⟨-, k1, k2, k3⟩ := kx9_s hPl hst hb
      have := hL _ k1 k2
      omega
    · rw [if_neg hb]; decide
  · unfold cle8_
    by_cases hb : b < st_ A N p
    · rw [if_pos hb]
      obtain ⟨-, k1, k2, k3⟩ := kx9_s hPl hst hb
      obtain ⟨-, -, q, -⟩ := hP _ k1
      rcases q with q | ⟨j, hj, q⟩
      · left; rw [q]; decide
      · right
        rw [k3] at hj
        rw [q, ← zI_nI, zI_t (by omega) (by omega)]
        omega
    · rw [if_neg hb]; exact Or.inl rfl
section MCU
variable {σ : TH} {y : Nat} {G : GH} {A : AS} {N : Nat → Nat}
def mU9_ (y : Nat) (G : GH) (q : Nat) : Prop := rU_ y G q ∨ q = ga_ G 49 0 ∨ q = ga_ G 50 0 ∨ q = ga_ G 51 0 ∨ q = ga_ G 52 0
/-- laid out so far -/
def lo8_ (A : AS) (N : Nat → Nat) (p : Nat) (v : Int32) (σ : TH) (y : Nat) (G : GH) (i : Nat) (τ : TH) : Prop := mr_ τ y G A N ∧ (∀ j, j < i → ai_ τ (ga_ G 49 0) j = zI (cco8_ A N p j) ∧ ai_ τ (ga_ G 50 0) j = zI (cle8_ A N p j) ∧ ai_ τ (ga_ G 51 0) j = zI (cga8_ A N p j) ∧ ai_ τ (ga_ G 52 0) j = bi_ (cop8_ A N p v j = true)) ∧ fq_ (mU9_ y G) σ τ ∧ (nx_ τ = nx_ σ ∧ sl_ τ = sl_ σ) ∧ ∀ j, j ∈ DS → fi_ τ (1600 + j) y = fi_ σ (1600 + j) y
theorem m_layOne {p i : Nat} {v lim : Int32} {τ : TH} (hv : pv_ A N) (hPl : ∀ k, k < N 47 → aP A 1401 k = nI (pl_ A k)) (hst : st_ A N p ≤ 14) (hp : p < N 5) (hN : N 5 ≤ 30) (h15 : aV A 15 p = bi_ (0 ≤ aV A 12 p)) (hX : ∀ k, k < N 47 → ∃ len arr, TXp_ 0 (aL A k) (aB A k) len arr) (hi : i < st_ A N p) (hI : lo8_ A N p v σ y G i τ) (f : Nat) : ∃ τ2, f_X15_cuts_b10 (f + 1) τ y (nI p) lim v (nI (st_ A N p)) (nI i) = f_X15_cuts_b10 f τ2 y (nI p) lim v (nI (st_ A N p)) (nI (i + 1)) ∧ lo8_ A N p v σ y G (i + 1) τ2 := by
  obtain ⟨hm, hr, hf, hn, hd⟩ := hI
  obtain ⟨kf, k1, k2, k3⟩ := kx9_s hPl hst hi
  obtain ⟨len, arr, hx⟩ := hX _ k1
  have hy := mo_y hm.1
  obtain ⟨τ1, q1, q2, q3, q4, q5, q6, -⟩ := m_lengthOf hm.1.1.1 hm hv.1 hv.2.1 hv.2.2.1 hp k1 k2 h15 hx
  obtain ⟨a49, b49, c49⟩ := mo_a q2.1 (j := 49) (cj := 1649) (K := 20) (n := 14) (by decide)
  obtain ⟨a50, b50, c50⟩ := mo_a q2.1 (j := 50) (cj := 1650) (K := 20) (n := 14) (by decide)
  obtain ⟨a51, b51, c51⟩ := mo_a q2.1 (j := 51) (cj := 1651) (K := 20) (n := 14) (by decide)
  obtain ⟨a52, b52, c52⟩ := mo_a q2.1 (j := 52) (cj := 1652) (K := 22) (n := 14) (by decide)
  have a49' := (mo_a hm.1 (j := 49) (cj := 1649) (K := 20) (n := 14) (by decide)).1
  have keep : ∀ j, j ∈ MA → j ≠ 25 → j ≠ 27 → ai_ τ1 (ga_ G j 0) = ai_ τ (ga_ G j 0) := fun j hj h25 h27 => by
    have hc : 0 < gc_ G j := by rw [(hm.1.2.2.1 j hj).1]; decide
    have e := q3.2.2 (ga_ G j 0) (sh_lt hm.1.1 hc) (fun q => by
      rcases q with q | q | q
      · have e0 := hm.1.2.1.2.1
        have : (0 : Nat) ≠ j := fun z => by
          have h0 : ¬ (0 : Nat) ∈ MA := by decide
          rw [z] at h0; exact h0 hj
        exact sh_ne hm.1.1 hc (by rw [hm.1.2.1.1]; decide) (Or.inl (fun z => this z.symm)) (q.trans e0.symm)
      · exact mo_ne hm.1 hj (by decide) h27 q
      · exact mo_ne hm.1 hj (by decide) h25 q)
    exact congrArg (fun z => z.2.2.2.2.1) e
  have n1 : ∀ {i j}, i ∈ MA → j ∈ MA → i ≠ j → ga_ G i 0 ≠ ga_ G j 0 := fun hi hj hn => mo_ne hm.1 hi hj hn
  have ix := ix9_ (k := i) (M := 14) (by omega) (by omega)
  have cl : (nI i).toNatClampNeg = i := nI_clamp (by omega)
  have pk : ∀ {τ'}, mr_ τ' y G A N → kd_ τ' (ga_ G 100 (kx9_ A N p i)) = 15 ∧ fi_ τ' 1403 (ga_ G 100 (kx9_ A N p i)) = aP A 1403 (kx9_ A N p i) ∧ fi_ τ' 1402 (ga_ G 100 (kx9_ A N p i)) = aP A 1402 (kx9_ A N p i) := fun h => ⟨(mr_P h k1).2.2.2.1, (mr_P h k1).1 1403 (by decide), (mr_P h k1).1 1402 (by decide)⟩
  have m2 := mr_sx q2 (j := 49) (by decide) i (nI (ot9_ A N p (kx9_ A N p i)).length)
  have m3 := mr_sx m2 (j := 50) (by decide) i (aP A 1403 (kx9_ A N p i))
  have m4 := mr_sx m3 (j := 51) (by decide) i (aP A 1402 (kx9_ A N p i))
  have m5 := mr_sx m4 (j := 52) (by decide) i (bi_ (cop8_ A N p v i = true))
  have vb : ∀ {P : Prop} [Decidable P], vp_nar .boolean (bi_ P) = bi_ P := fun {P} _ => by
    unfold bi_
    split <;> decide
  refine ⟨_, ?_, m5, fun j hj => ?_, ?_, ?_, fun j hj => ?_⟩
  · rw [f_X15_cuts_b10, if_neg (nI_ge hi (by omega)), gt_t hy, m_at hm, kf, bd_s, lt_e, a49']
    show bd_ (f_X15_lengthOf τ y (some (ga_ G 100 (kx9_ A N p i)))) _ = _
    rw [q1, bd_s, nn_s, gt_t b49, cl, c49, gt_t ix, lt_e, lt_e, show fr_ (sa_ τ1 (ga_ G 49 0) i (nI (ot9_ A N p (kx9_ A N p i)).length)) 1650 y = some (ga_ G 50 0) from a50]
    show nn_ (some (ga_ G 100 (kx9_ A N p i))) _ = _
    rw [nn_s, gt_t (pk m2).1, lt_e, (pk m2).2.1, nn_s, gt_t (show kd_ (sa_ τ1 (ga_ G 49 0) i (nI (ot9_ A N p (kx9_ A N p i)).length)) (ga_ G 50 0) = 20 from b50), show ln_ (sa_ τ1 (ga_ G 49 0) i (nI (ot9_ A N p (kx9_ A N p i)).length)) (ga_ G 50 0) = 14 from c50, gt_t ix, lt_e]
    generalize hs3 : sa_ (sa_ τ1 (ga_ G 49 0) i (nI (ot9_ A N p (kx9_ A N p i)).length)) (ga_ G 50 0) i (aP A 1403 (kx9_ A N p i)) = s3 at m3 m4 m5 ⊢
    have x3 : fr_ s3 1651 y = some (ga_ G 51 0) ∧ kd_ s3 (ga_ G 51 0) = 20 ∧ ln_ s3 (ga_ G 51 0) = 14 := mo_a m3.1 (j := 51) (cj := 1651) (K := 20) (n := 14) (by decide)
    rw [lt_e, x3.1, lt_e, (pk m3).2.2, nn_s, gt_t x3.2.1, x3.2.2, gt_t ix, lt_e]
    generalize hs4 : sa_ s3 (ga_ G 51 0) i (aP A 1402 (kx9_ A N p i)) = s4 at m4 m5 ⊢
    have x4 : fr_ s4 1652 y = some (ga_ G 52 0) ∧ kd_ s4 (ga_ G 52 0) = 22 ∧ ln_ s4 (ga_ G 52 0) = 14 := mo_a m4.1 (j := 52) (cj := 1652) (K := 22) (n := 14) (by decide)
    have b87 : ∀ rec_10 t0, vp_nar .boolean t0 = bi_ (cop8_ A N p v i = true) → f_X15_cuts_b87 rec_10 s4 y (nI p) lim v (nI (st_ A N p)) (nI i) t0 (nI i) (some (ga_ G 52 0)) = rec_10 (sa_ s4 (ga_ G 52 0) i (bi_ (cop8_ A N p v i = true))) y (nI p) lim v (nI (st_ A N p)) (nI (i + 1)) := fun rec_10 t0 e => by
      unfold f_X15_cuts_b87
      rw [nn_s, gt_t x4.2.1, cl, x4.2.2, gt_t ix, lt_e, e, lt_e, nI_1]
    rw [lt_e, x4.1]
    unfold f_X15_cuts_b82
    by_cases z : v = 0
    · rw [if_pos z]
      exact b87 _ 1 (by unfold cop8_; rw [decide_eq_true z, Bool.true_or]; decide)
    · rw [if_neg z, m_isMarked m4 (by omega) k1 k2, bd_s]
      by_cases w : mk9_ A N p (kx9_ A N p i) 10 = true
      · rw [bi_t w, if_neg (by decide)]
        exact b87 _ 0 (by unfold cop8_; rw [decide_eq_false z, w]; decide)
      · rw [bi_f w, if_pos rfl]
        exact b87 _ 1 (by unfold cop8_; rw [decide_eq_false z, Bool.eq_false_iff.mpr w]; decide)
  · have e0 : ∀ (a : Nat) (s : TH) (b : Nat) (w : Int32) (q : Nat), a ≠ b → ai_ (sa_ s b i w) a q = ai_ s a q := fun a s b w q hne => up2_ne (fun z => hne z.1)
    have e1 : ∀ (s : TH) (b : Nat) (w : Int32), ai_ (sa_ s b i w) b i = w := fun s b w => up2_s
    have e2 : ∀ (s : TH) (b : Nat) (w : Int32) (q : Nat), q ≠ i → ai_ (sa_ s b i w) b q = ai_ s b q := fun s b w q hne => up2_n hne
    have d1 : ga_ G 49 0 ≠ ga_ G 50 0 := n1 (by decide) (by decide) (by decide)
    have d2 : ga_ G 49 0 ≠ ga_ G 51 0 := n1 (by decide) (by decide) (by decide)
    have d3 : ga_ G 49 0 ≠ ga_ G 52 0 := n1 (by decide) (by decide) (by decide)
    have d4 : ga_ G 50 0 ≠ ga_ G 51 0 := n1 (by decide) (by decide) (by decide)
    have d5 : ga_ G 50 0 ≠ ga_ G 52 0 := n1 (by decide) (by decide) (by decide)
    have d6 : ga_ G 51 0 ≠ ga_ G 52 0 := n1 (by decide) (by decide) (by decide)
    rw [e0 _ _ _ _ _ d3, e0 _ _ _ _ _ d2, e0 _ _ _ _ _ d1, e0 _ _ _ _ _ d5, e0 _ _ _ _ _ d4, e0 _ _ _ _ _ d6]
    by_cases z : j = i
    · rw [z, e1, e1, e1, e1]
      refine ⟨?_, ?_, ?_, rfl⟩
      · unfold cco8_; rw [if_pos hi, zI_nI]
      · unfold cle8_; rw [if_pos hi, zI_to]
      · unfold cga8_; rw [if_pos hi, zI_to]
    · have hj2 : j < i := by omega
      rw [e2 _ _ _ _ z, e2 _ _ _ _ z, e2 _ _ _ _ z, e2 _ _ _ _ z, e0 _ _ _ _ _ d1.symm, e0 _ _ _ _ _ d4.symm, e0 _ _ _ _ _ d2.symm, e0 _ _ _ _ _ d6.symm, e0 _ _ _ _ _ d5.symm, e0 _ _ _ _ _ d3.symm, keep 49 (by decide) (by decide) (by decide), keep 50 (by decide) (by decide) (by decide), keep 51 (by decide) (by decide) (by decide), keep 52 (by decide) (by decide) (by decide)]
      exact hr j hj2
  · exact fqa (fqa (fqa (fqa (fq_tr hf (fq_w q3 (fun _ q => Or.inl q))) (Or.inr (Or.inl rfl))) (Or.inr (Or.inr (Or.inl rfl)))) (Or.inr (Or.inr (Or.inr (Or.inl rfl))))) (Or.inr (Or.inr (Or.inr (Or.inr rfl))))
  · exact ⟨q4.1.trans hn.1, q4.2.trans hn.2⟩
  · exact (q5 j hj).trans (hd j hj)
end MCU
