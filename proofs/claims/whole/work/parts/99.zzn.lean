/-! ALL CALLS, and the start: what stage B owes. Written by wip/b/mk99zzn.py. -/
theorem pv_7 (A : AS) (N : Nat → Nat) (S : Nat → Int32) (k : Nat) (v : Int32) (hk : k < N 4) (hv : 0 ≤ v ∧ v ≤ 60) (h : pv_ A N) : pv_ (S, up2_ (aV A) 7 k v, A.2.2) N := by
  obtain ⟨h1, h2, h3, h4, h5, h6, h7, d1, d2, d3, d4, d5, d6⟩ := h
  refine ⟨h1, h2, h3, h4, h5, h6, ⟨h7.1, fun w hw => ?_⟩, d1, d2, d3, d4, d5, d6⟩
  show 0 ≤ up2_ (aV A) 7 k v 7 w ∧ up2_ (aV A) 7 k v 7 w ≤ 60
  by_cases z : w = k
  · rw [z, up2_s]; exact hv
  · rw [up2_n z]; exact h7.2 w hw
theorem pv_16 (A : AS) (N : Nat → Nat) (S : Nat → Int32) (k : Nat) (v : Int32) (hk : k < N 5) (hv : v = 0 ∨ v = 1) (h : pv_ A N) : pv_ (S, up2_ (aV A) 16 k v, A.2.2) N := by
  obtain ⟨h1, h2, h3, h4, h5, h6, h7, d1, d2, d3, d4, d5, d6⟩ := h
  refine ⟨h1, h2, h3, h4, h5, h6, h7, d1, fun p hp hp2 => ?_, d3, d4, d5, d6⟩
  obtain ⟨q1, q2, q3, q4⟩ := d2 p hp hp2
  refine ⟨q1, q2, ?_, q4⟩
  show up2_ (aV A) 16 k v 16 p = 0
  rw [up2_n (by omega)]
  exact q3
theorem pv_13 (A : AS) (N : Nat → Nat) (S : Nat → Int32) (k : Nat) (v : Int32) (hk : k < N 5) (h : pv_ A N) : pv_ (S, up2_ (aV A) 13 k v, A.2.2) N := by
  obtain ⟨h1, h2, h3, h4, h5, h6, h7, d1, d2, d3, d4, d5, d6⟩ := h
  refine ⟨h1, h2, h3, h4, h5, h6, h7, d1, fun p hp hp2 => ?_, d3, d4, d5, d6⟩
  obtain ⟨q1, q2, q3, q4⟩ := d2 p hp hp2
  refine ⟨?_, q2, q3, q4⟩
  show up2_ (aV A) 13 k v 13 p = 0
  rw [up2_n (by omega)]
  exact q1
theorem pv_18 (A : AS) (N : Nat → Nat) (S : Nat → Int32) (k : Nat) (v : Int32) (hk : k < 10) (hv : 1 ≤ v ∧ v ≤ 3650) (h : pv_ A N) : pv_ (S, up2_ (aV A) 18 k v, A.2.2) N := by
  obtain ⟨h1, h2, h3, h4, h5, h6, h7, d1, d2, d3, d4, d5, d6⟩ := h
  exact ⟨h1, h2, h3, h4, h5, h6, h7, d1, d2, d3, d4, d5, d6⟩
theorem pv_68 (A : AS) (N : Nat → Nat) (S : Nat → Int32) (k : Nat) (hk : k < N 59) (h : pv_ A N) : pv_ (S, up2_ (aV A) 68 k 1, A.2.2) N := by
  obtain ⟨h1, h2, h3, h4, h5, h6, h7, d1, d2, d3, d4, d5, d6⟩ := h
  refine ⟨h1, h2, h3, h4, h5, h6, h7, d1, d2, fun r hr hr2 => ?_, d4, d5, d6⟩
  show up2_ (aV A) 68 k 1 68 r = 0
  rw [up2_n (by omega)]
  exact d3 r hr hr2
theorem pv_6 (A : AS) (N : Nat → Nat) (S : Nat → Int32) (v : Nat) (hv : N 6 ≤ v) (hv2 : v ≤ 5257439) (h : pv_ A N) : pv_ (S, A.2) (fun q => if q = 6 then v else N q) := by
  obtain ⟨h1, h2, h3, h4, h5, h6, h7, d1, d2, d3, d4, d5, d6⟩ := h
  have ht : td_ N ≤ td_ (fun q => if q = 6 then v else N q) := Nat.div_le_div_right hv
  refine ⟨fun t ht0 => ?_, fun p hp => ?_, fun r hr => ?_, h4, h5, h6, h7, d1, d2, d3, d4, d5, d6⟩
  · obtain ⟨q1, q2, q3, d, q4, q5⟩ := h1 t ht0
    exact ⟨q1, q2, q3, d, Nat.le_trans q4 ht, q5⟩
  · obtain ⟨q1, q2, q3, q4⟩ := h2 p hp
    refine ⟨q1, q2, ?_, q4⟩
    rcases q3 with q3 | ⟨d, q5, q6⟩
    · exact Or.inl q3
    · exact Or.inr ⟨d, Nat.le_trans q5 ht, q6⟩
  · obtain ⟨q1, ⟨d, q2, q3⟩, q4, ⟨t, q5, q6⟩, q7⟩ := h3 r hr
    exact ⟨q1, ⟨d, Nat.le_trans q2 ht, q3⟩, q4, ⟨t, Nat.le_trans q5 hv, q6⟩, q7⟩
theorem all_ok {ka : Nat → Nat} {x y o N0 : Nat} : Sts_ ka x y o (inv_ ka TXp_ pv_ x y o N0) := ⟨ok_writer, ok_hours pv_S pv_7, ok_bury, ok_person, ok_about, ok_peril pv_S pv_16, ok_keeps pv_S pv_18, ok_fact, ok_check, ok_known, ok_knownOn, ok_ages, ok_alike pv_S, ok_apart, ok_feed, ok_paragraph, ok_rewrite, ok_fault pv_S, ok_where pv_S, ok_paragraphOf, ok_print, ok_out, ok_cut, ok_cutOf pv_S, ok_cutLong pv_S, ok_rule, ok_report, ok_rumour, ok_fits, ok_withdraw pv_S pv_68, ok_may, ok_tell, ok_picture, ok_used pv_S, ok_ask, ok_answer, ok_embargo pv_S pv_13, ok_edition, ok_editionOf, ok_wrong, ok_correct, ok_said, ok_week, ok_fresh, ok_takes pv_S, ok_freshen, ok_pass pv_S pv_6, ok_count pv_S, ok_trouble pv_S⟩
/-- the objects at the start -/
def roC_ (a : Nat) : Nat := if a < 8 then a else if a = 22 then 8 else a + 1
def GC0_ (N : Nat) : GH := (fun r => if r < 23 then 1 else 0, fun r _ => N + offC_ r, fun a => (roC_ (a - N), 0))
def roM_ (a : Nat) : Nat := if a = 0 then 0 else MA.getD (a - 1) 0
def GM0_ (y : Nat) : GH := (fun r => if r = 0 ∨ r ∈ MA then 1 else 0, fun r _ => if r = 0 then y else y + offM_ r, fun a => (roM_ (a - y), 0))
theorem mo_start {c m : TH} {y : Nat} (hy : y = nx_ c) (hm : wf_ m) (k17 : kd_ m y = 17) (hK : ∀ j, j ∈ MA → (kd_ m (y + offM_ j) = KM j ∧ ln_ m (y + offM_ j) = LM j) ∧ fr_ m (1600 + j) y = some (y + offM_ j) ∧ ∀ i, ai_ m (y + offM_ j) i = if j = 18 ∧ i < 10 then 365 else if j = 19 ∧ i < 300 then -1 else 0) (hF : ∀ q, fi_ m q y = if q = 1602 ∨ q = 1656 ∨ q = 1657 ∨ q = 1687 then -1 else 0) : mo_ m y (GM0_ y) (fun _ => 0) := by
  have m0 : ∀ j, j ∈ MA → j ≠ 0 ∧ roM_ (offM_ j) = j ∧ KM j ≠ 0 := by decide
  have mN : ∀ j, j ∈ MN → j ≠ 2 ∧ j ≠ 56 ∧ j ≠ 57 ∧ j ≠ 87 := by decide
  refine ⟨⟨hm, fun r i hi => ?_⟩, ⟨rfl, rfl, ⟨rfl, rfl, rfl, rfl, rfl, rfl, rfl⟩, fun k hk => absurd hk (Nat.not_lt_zero k), fun k hk => absurd hk (Nat.not_lt_zero k), fun k hk => absurd hk (Nat.not_lt_zero k)⟩, fun j hj => ⟨if_pos (Or.inr hj), ?_⟩, fun j hj => ⟨?_, Nat.zero_le _⟩⟩
  · have hi : i < if r = 0 ∨ r ∈ MA then 1 else 0 := hi
    by_cases z : r = 0 ∨ r ∈ MA
    · rw [if_pos z] at hi
      have : i = 0 := by omega
      subst this
      by_cases z0 : r = 0
      · subst z0
        refine ⟨k17, by decide, fun q => absurd rfl q, ?_⟩
        show (roM_ (y - y), 0) = (0, 0)
        rw [Nat.sub_self]
        rfl
      · have hr := z.resolve_left z0
        obtain ⟨⟨q1, q2⟩, -⟩ := hK r hr
        obtain ⟨-, m2, m3⟩ := m0 r hr
        have e : ga_ (GM0_ y) r 0 = y + offM_ r := if_neg z0
        rw [e]
        refine ⟨q1, m3, fun _ => q2, ?_⟩
        show (roM_ (y + offM_ r - y), 0) = (r, 0)
        rw [Nat.add_sub_cancel_left, m2]
    · rw [if_neg z] at hi
      exact absurd hi (Nat.not_lt_zero i)
  · rw [(hK j hj).2.1]
    exact congrArg some (if_neg (m0 j hj).1).symm
  · obtain ⟨h1, h2, h3, h4⟩ := mN j hj
    rw [hF, if_neg (by omega)]
    rfl
theorem stageB (ka : Nat → Nat) (N : Nat) (h200 : ka 200 < N) (h302 : ka 302 ≤ 5120) : B_ ka N := by
  have hw0 : wf_ (o0_ N) := ⟨fun _ h => absurd rfl h, fun _ h => nomatch h⟩
  obtain ⟨c1, i1, f1, ⟨n1, l1⟩, KL1, RF, LI, IN, a8, a10⟩ := mk_class (ka := ka) hw0
  have nN : nx_ (o0_ N) = N := rfl
  have sN : sl_ (o0_ N) = 0 := rfl
  rw [nN] at i1 n1 KL1 RF LI IN a8 a10
  rw [sN] at l1
  obtain ⟨m2, i2, f2, ⟨n2, l2⟩, k17, KL2, F2⟩ := mk_refer (wf_er c1)
  have nE : nx_ (er_ c1) = nx_ c1 := rfl
  have sE : sl_ (er_ c1) = sl_ c1 := rfl
  rw [nE] at i2 n2 k17 KL2 F2
  rw [sE] at l2
  have wc := f1.2.1
  have wm := f2.2.1
  refine ⟨c1, m2, inv_ ka TXp_ pv_ N (nx_ c1) (nx_ m2) N, ⟨i1, wc, i2, wm, ?_⟩, inv_iv, inv_mono, all_ok⟩
  have hmo := mo_start (c := c1) (y := nx_ c1) rfl wm k17 KL2 F2
  obtain ⟨y, hy⟩ : ∃ y, y = nx_ c1 := ⟨_, rfl⟩
  rw [← hy] at hmo KL2 F2 n1 n2 k17 ⊢
  -- the class's heap
  have wb : wf_ (bm_ c1 m2) := wf_bm wc (by omega)
  have n0 : nx_ (bm_ c1 m2) = nx_ m2 := rfl
  have old : ∀ q, q < nx_ m2 → ce_ (nw_ (bm_ c1 m2) 23 1 1) q = ce_ c1 q ∧ kd_ (nw_ (bm_ c1 m2) 23 1 1) q = kd_ c1 q ∧ ln_ (nw_ (bm_ c1 m2) 23 1 1) q = ln_ c1 q := fun q hq => by
    have ne : q ≠ nx_ (bm_ c1 m2) := by rw [n0]; omega
    refine ⟨(ce_nw ne).trans rfl, (kd_nwn ne).trans rfl, (ln_nwn ne).trans rfl⟩
  have kdc : ∀ q, kd_ c1 q ≠ 0 → N ≤ q ∧ q < y := fun q hq => by
    have h1 := wc.1 q hq
    have h2 := (wc.2 q h1).1
    rcases f1.1.2.2.2.1 q h1 with h3 | h3
    · exact absurd h3 List.not_mem_nil
    · exact ⟨h3, by omega⟩
  have kdm : ∀ q, kd_ m2 q ≠ 0 → y ≤ q ∧ q < nx_ m2 := fun q hq => by
    have h1 := wm.1 q hq
    have h2 := (wm.2 q h1).1
    rcases f2.1.2.2.2.1 q h1 with h3 | h3
    · exact absurd h3 List.not_mem_nil
    · exact ⟨by rw [hy]; exact h3, h2⟩
  have off : ∀ r, r < 23 → offC_ r < 23 ∧ roC_ (offC_ r) = r ∧ KC r ≠ 0 := by decide
  have hsh : sh_ KC LC (nw_ (bm_ c1 m2) 23 1 1) (GC0_ N) := by
    refine ⟨wf_nw wb (by decide), fun r i hi => ?_⟩
    have hi : i < if r < 23 then 1 else 0 := hi
    by_cases z : r < 23
    · rw [if_pos z] at hi
      have : i = 0 := by omega
      subst this
      obtain ⟨o1, o2, o3⟩ := off r z
      obtain ⟨q1, q2⟩ := KL1 r z
      obtain ⟨-, w2, w3⟩ := old (N + offC_ r) (by omega)
      refine ⟨w2.trans q1, o3, fun _ => w3.trans q2, ?_⟩
      show (roC_ (N + offC_ r - N), 0) = (r, 0)
      rw [Nat.add_sub_cancel_left, o2]
    · rw [if_neg z] at hi
      exact absurd hi (Nat.not_lt_zero i)
  obtain ⟨A, hA⟩ : ∃ A, A = as_ m2 y (GM0_ y) := ⟨_, rfl⟩
  have eS : ∀ j, aS A j = if 1600 + j = 1602 ∨ 1600 + j = 1656 ∨ 1600 + j = 1657 ∨ 1600 + j = 1687 then -1 else 0 := fun j => by
    rw [hA]
    exact F2 (1600 + j)
  have eV : ∀ j, j ∈ MA → ∀ i, aV A j i = if j = 18 ∧ i < 10 then 365 else if j = 19 ∧ i < 300 then -1 else 0 := fun j hj i => by
    have m0 : ∀ j, j ∈ MA → j ≠ 0 := by decide
    rw [hA, as_V hj, ← (KL2 j hj).2.2 i]
    exact congrArg (fun q => ai_ m2 q i) (if_neg (m0 j hj))
  have kkc : kd_ c1 (ka 200) = 0 := by
    refine Classical.byContradiction (fun z => ?_)
    have := kdc _ z
    omega
  have hrc : rc_ ka TXp_ (nw_ (bm_ c1 m2) 23 1 1) N (GC0_ N) A (fun _ => 0) := by
    refine ⟨hsh, ⟨rfl, ?_, ?_⟩, ?_, fun r i hi => ?_⟩
    · obtain ⟨-, w2, -⟩ := old (ka 200) (by omega)
      exact w2.trans kkc
    · show ka 200 < nx_ m2 + 1
      omega
    · refine ⟨fun r hr => ?_, rfl, rfl, rfl, rfl, rfl, rfl, rfl, rfl, rfl, rfl, rfl, rfl, rfl, rfl, rfl, rfl, rfl, rfl, rfl⟩
      have h9 : ∀ r, r ∈ ([0, 1, 2, 3, 4, 5, 6, 7, 8, 9, 10, 11, 12, 13, 14, 15, 16, 17, 18, 19, 20, 21, 22] : List Nat) → r < 23 := by decide
      exact if_pos (h9 r hr)
    · have hi : i < if r < 23 then 1 else 0 := hi
      by_cases z : r < 23
      · rw [if_pos z] at hi
        have : i = 0 := by omega
        subst this
        obtain ⟨o1, -, -⟩ := off r z
        have eg : ga_ (GC0_ N) r 0 = N + offC_ r := rfl
        rw [eg, (old (N + offC_ r) (by omega)).1]
        obtain ⟨f00, f01, f02, f03, f04, f05, f06, f07, f08, f09, f10, f18, r0, r4, r5, p0, p1, h0, h1, h2, h3, h4⟩ := RF
        obtain ⟨L1, L2, L3, L4, L5, L6, L7, L8⟩ := LI
        obtain ⟨v11, v12, v13, v14, v15, v16, v17, v19, v701, v702⟩ := IN
        have hrr : r = 0 ∨ r = 1 ∨ r = 2 ∨ r = 3 ∨ r = 4 ∨ r = 5 ∨ r = 6 ∨ r = 7 ∨ r = 8 ∨ r = 9 ∨ r = 10 ∨ r = 11 ∨ r = 12 ∨ r = 13 ∨ r = 14 ∨ r = 15 ∨ r = 16 ∨ r = 17 ∨ r = 18 ∨ r = 19 ∨ r = 20 ∨ r = 21 ∨ r = 22 := by omega
        rcases hrr with rfl | rfl | rfl | rfl | rfl | rfl | rfl | rfl | rfl | rfl | rfl | rfl | rfl | rfl | rfl | rfl | rfl | rfl | rfl | rfl | rfl | rfl | rfl
        · exact ⟨⟨f00, f01, f02, f03, f04, f05, f06, f07, f08, f09, f10, f18⟩, v11.trans (eS 17).symm, v12.trans (eS 47).symm, v13.trans (eS 6).symm, v14.trans (eS 1).symm, v15.trans (eS 42).symm, v16.trans (eS 56).symm, v17.trans (eS 57).symm, v19.trans (eS 87).symm⟩
        · exact ⟨L1.1, L1.2, fun _ => rfl⟩
        · exact ⟨L2.1, L2.2, fun _ => rfl⟩
        · exact ⟨L3.1, L3.2, fun _ => rfl⟩
        · exact ⟨L4.1, L4.2, fun _ => rfl⟩
        · exact ⟨L5.1, L5.2, fun _ => rfl⟩
        · exact ⟨L6.1, L6.2, fun _ => rfl⟩
        · exact ⟨L7.1, L7.2, fun _ => rfl⟩
        · exact ⟨L8.1, L8.2, fun _ => rfl⟩
        · intro k hk
          exact (a8 k hk).trans ((eV 18 (by decide) k).trans (if_pos ⟨rfl, hk⟩)).symm
        · exact ⟨r0, r4, r5, v701.trans (eS 30).symm, v702.trans (eS 3).symm, fun q => absurd ((eS 1).symm.trans q) (by decide), fun _ => eS 2⟩
        · intro j hj
          exact (a10 j).trans (eV 26 (by decide) j).symm
        · trivial
        · trivial
        · exact ⟨p0, p1⟩
        · trivial
        · exact ⟨Nat.zero_le _, fun j hj => absurd hj (Nat.not_lt_zero j)⟩
        · exact ⟨h0, h1, h2, h3, h4⟩
        · trivial
        · trivial
        · trivial
        · trivial
        · trivial
      · rw [if_neg z] at hi
        exact absurd hi (Nat.not_lt_zero i)
  have hpv : pv_ A (fun _ => 0) := by
    refine ⟨fun t ht => absurd ht (Nat.not_lt_zero t), fun p hp => absurd hp (Nat.not_lt_zero p), fun r hr => absurd hr (Nat.not_lt_zero r), fun k hk => absurd hk (Nat.not_lt_zero k), fun e he => absurd he (Nat.not_lt_zero e), fun q hq => absurd hq (Nat.not_lt_zero q), ⟨fun j hj => absurd hj (Nat.not_lt_zero j), fun w hw => absurd hw (Nat.not_lt_zero w)⟩, fun w _ hw => ?_, fun p _ hp => ⟨?_, ?_, ?_, fun k hk => ?_⟩, fun r _ hr => ?_, fun i _ hi => ?_, fun q _ hq => ?_, fun j hj => ?_⟩
    · exact eV 14 (by decide) w
    · exact eV 13 (by decide) p
    · exact eV 15 (by decide) p
    · exact eV 16 (by decide) p
    · rw [eV 19 (by decide) (10 * p + k), if_neg (fun z => by cases z.1), if_pos ⟨rfl, by omega⟩]
    · exact eV 68 (by decide) r
    · exact eV 77 (by decide) i
    · exact eV 81 (by decide) q
    · rw [show aV A 26 j = 0 from eV 26 (by decide) j]
      decide
  have e1 : as_ (bm_ m2 (nw_ (bm_ c1 m2) 23 1 1)) y (GM0_ y) = A := by rw [hA]; rfl
  refine ⟨GC0_ N, GM0_ y, fun _ => 0, mo_bm hmo (by show nx_ m2 ≤ nx_ m2 + 1; omega), ?_, ?_, fun q hq => ?_, ⟨rfl, rfl⟩, ⟨kd_nw (bm_ c1 m2) 23 1 1, ln_nw (bm_ c1 m2) 23 1 1⟩, ?_, ?_⟩
  · rw [e1]; exact hrc
  · rw [e1]; exact hpv
  · show kd_ m2 q = 0
    refine Classical.byContradiction (fun z => ?_)
    obtain ⟨z1, z2⟩ := kdm q z
    rw [(old q z2).2.1] at hq
    have := kdc q hq
    omega
  · show nx_ m2 + 1 ≤ N + 1000 * (0 + 1)
    omega
  · show sl_ m2 + 1 ≤ 0 + 14000 * (0 + 1)
    omega
