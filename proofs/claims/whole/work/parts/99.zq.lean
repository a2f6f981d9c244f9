/-! CALLS: the chooser chooses. Written by wip/b/mk99zq.py. -/
section CX9
variable {ka : Nat → Nat} {TX : Nat → Nat → (Nat → Int32) → Nat → (Nat → Int32) → Prop} {x : Nat} {σ : TH} {G : GH} {A : AS} {N : Nat → Nat} {F : Nat → Int32} {W : Nat → Nat → Int32} {g c ln : Nat → Int} {op : Nat → Bool} {gap lim : Int} {n : Nat}
/-- what was offered -/
def cw_ (F : Nat → Int32) (W : Nat → Nat → Int32) (g c ln : Nat → Int) (op : Nat → Bool) (gap lim : Int) (n : Nat) : Prop := (F 105 = nI n ∧ F 106 = zI lim ∧ F 107 = zI gap) ∧ (n ≤ 14 ∧ ∀ i, i < n → W 0 i = zI (g i) ∧ W 1 i = zI (c i) ∧ W 2 i = zI (ln i) ∧ W 3 i = bi_ (op i = true)) ∧ ((∀ i, 0 ≤ g i ∧ g i ≤ 100000000) ∧ (∀ i, 0 ≤ c i ∧ c i ≤ 10000000) ∧ (∀ i, ln i = -1 ∨ (0 ≤ ln i ∧ ln i < i)) ∧ (0 ≤ gap ∧ gap ≤ 1) ∧ (0 ≤ lim ∧ lim ≤ 10000000))
theorem cw_cz (h : rc_ ka TX σ x G A N) (hw : cw_ F W g c ln op gap lim n) : CZ_ (cu_ σ G F W) (ga_ G 17 0) (fun j => ga_ G (18 + j) 0) g c ln op gap lim n := by
  obtain ⟨c0, ⟨r0, r1, r2, r3, r4⟩, k0, k1, k2, k3, k4⟩ := cu_k h
  have hd := cd5_of h
  obtain ⟨⟨f5, f6, f7⟩, ⟨hn, hv⟩, b1, b2, b3, b4, b5⟩ := hw
  exact ⟨c0, r0, r1, r2, r3, r4, k0, k1, k2, k3, k4, (cu_fi 105).trans f5, (cu_fi 106).trans f6, (cu_fi 107).trans f7, hn, fun i hi => (cu_a0 hd i).trans (hv i hi).1, fun i hi => (cu_a1 hd i).trans (hv i hi).2.1, fun i hi => (cu_a2 hd i).trans (hv i hi).2.2.1, fun i hi => (cu_a3 hd i).trans (hv i hi).2.2.2, b1, b2, b3, b4, b5⟩
theorem cw_4 (hw : cw_ F W g c ln op gap lim n) (i : Nat) (v : Int32) : cw_ F (up2_ W 4 i v) g c ln op gap lim n := ⟨hw.1, ⟨hw.2.1.1, fun j hj => by
  rw [up2_c (by decide), up2_c (by decide), up2_c (by decide), up2_c (by decide)]
  exact hw.2.1.2 j hj⟩, hw.2.2⟩
theorem ch_cu {t : CH} : ch_ (cu_ σ G F W) (ga_ G 17 0) t = cu_ σ G (upd (upd (upd F 108 (nI t.1)) 109 (zI t.2.1)) 110 (zI t.2.2)) W := by
  unfold ch_
  rw [cu_si, cu_si, cu_si]
/-- the hopes, then the search -/
theorem k_hope (h : rc_ ka TX σ x G A N) : ∀ (i f : Nat) (W : Nat → Nat → Int32), i ≤ n → i < f → cw_ F W g c ln op gap lim n → (∀ j, i ≤ j → j ≤ n → W 4 j = zI (ho_ g op (n - j) j)) → ∃ W', f_X0_choose_b17 f (cu_ σ G F W) (ga_ G 17 0) (zI ((i : Int) - 1)) = some ((), ch_ (cu_ σ G F W') (ga_ G 17 0) (pk_ g c ln op gap lim n 0 (0, 0, 0) (0, -1, lim + 1))) := by
  obtain ⟨c0, ⟨r0, r1, r2, r3, r4⟩, k0, k1, k2, k3, k4⟩ := cu_k h
  have hd := cd5_of h
  intro i
  induction i with
  | zero =>
    intro f W hi hf hw hh
    obtain ⟨f, rfl⟩ : ∃ e, f = e + 1 := ⟨f - 1, by omega⟩
    have hz := cw_cz h hw
    have hbm := hz.bm
    refine ⟨W, ?_⟩
    have q := k_pick hz (fun i hi => (cu_a4 hd i).trans (hh i (Nat.zero_le _) hi)) n 0 20 (0, 0, 0) (0, -1, lim + 1) (by omega) (by have := hz.hn; omega) ⟨by decide, by decide, by decide, by decide⟩ ⟨show 0 < 2 ^ 14 by decide, show (-1 : Int) ≤ -1 ∧ (-1 : Int) ≤ 1400000000 by decide, by show 0 ≤ lim + 1; omega, by show lim + 1 ≤ 140000014; omega⟩
    rw [f_X0_choose_b17, if_pos (show zI (((0 : Nat) : Int) - 1) < 0 by decide), gt_t hz.ka, lt_e, lt_e, lt_e]
    have e6 : fi_ (si_ (si_ (cu_ σ G F W) 108 (ga_ G 17 0) 0) 109 (ga_ G 17 0) (-1)) 106 (ga_ G 17 0) + 1 = zI (lim + 1) := by
      rw [fi_si, up2_c (by decide), fi_si, up2_c (by decide), hz.f6]
      exact zI_add lim 1
    rw [lt_e, e6]
    have e : si_ (si_ (si_ (cu_ σ G F W) 108 (ga_ G 17 0) 0) 109 (ga_ G 17 0) (-1)) 110 (ga_ G 17 0) (zI (lim + 1)) = ch_ (cu_ σ G F W) (ga_ G 17 0) (0, -1, lim + 1) := by
      unfold ch_
      rw [show zI (-1) = -1 from zI_m1]
      rfl
    rw [e]
    exact (congrArg (fun r => bd_ r fun _ s12 => some ((), s12)) q).trans bd_s
  | succ i ih =>
    intro f W hi hf hw hh
    obtain ⟨f, rfl⟩ : ∃ e, f = e + 1 := ⟨f - 1, by omega⟩
    have hz := cw_cz h hw
    have hn := hz.hn
    have ei : zI (((i + 1 : Nat) : Int) - 1) = nI i := by
      rw [show ((i + 1 : Nat) : Int) - 1 = (i : Int) by omega]
      exact zI_nI i
    have ep : nI i + 1 = nI (i + 1) := nI_1 i
    have em : nI i + (-1) = zI ((i : Int) - 1) := by
      rw [← zI_nI, ← zI_m1, zI_add]
      rfl
    have ix := ix9_ (k := i) (M := 14) (by omega) (by omega)
    have ix5 := ix9_ (k := i) (M := 15) (by omega) (by omega)
    have ix6 := ix9_ (k := i + 1) (M := 15) (by omega) (by omega)
    have cl : (nI i).toNatClampNeg = i := nI_clamp (by omega)
    have cl1 : (nI (i + 1)).toNatClampNeg = i + 1 := nI_clamp (by omega)
    have h1 : ai_ (cu_ σ G F W) (ga_ G 22 0) (i + 1) = zI (ho_ g op (n - (i + 1)) (i + 1)) := (cu_a4 hd _).trans (hh (i + 1) (by omega) (by omega))
    have hoe : ho_ g op (n - i) i = ho_ g op (n - (i + 1)) (i + 1) + (if op i = true then g i else 0) := by
      rw [show n - i = (n - (i + 1)) + 1 by omega]
      rfl
    have b53 : ∀ t0 : Int, t0 = (if op i = true then g i else 0) → ∃ W', f_X0_choose_b53 (f_X0_choose_b17 f) (cu_ σ G F W) (ga_ G 17 0) (nI i) (zI t0) (zI (ho_ g op (n - (i + 1)) (i + 1))) (nI i) (some (ga_ G 22 0)) = some ((), ch_ (cu_ σ G F W') (ga_ G 17 0) (pk_ g c ln op gap lim n 0 (0, 0, 0) (0, -1, lim + 1))) := fun t0 ht => by
      unfold f_X0_choose_b53
      rw [nn_s, gt_t (show kd_ (cu_ σ G F W) (ga_ G 22 0) = 20 from k4.1), show ln_ (cu_ σ G F W) (ga_ G 22 0) = 15 from k4.2, cl, gt_t ix5, lt_e, cu_s4 hd, zI_add, ht, ← hoe, lt_e, em]
      refine ih f _ (by omega) (by omega) (cw_4 hw _ _) (fun j hj hj2 => ?_)
      by_cases z : j = i
      · rw [z, up2_s]
      · rw [up2_n z]
        exact hh j (by omega) hj2
    rw [ei, f_X0_choose_b17, if_neg (nI_pos (by omega)), gt_t hz.ka, lt_e, hz.r4, lt_e, nn_s, gt_t hz.k4.1, ep, cl1, cl]
    rw [show ln_ (cu_ σ G F W) (ga_ G (18 + 4) 0) = 15 from hz.k4.2, gt_t ix6, lt_e, show ai_ (cu_ σ G F W) (ga_ G (18 + 4) 0) (i + 1) = _ from h1, lt_e, hz.r3, nn_s, gt_t hz.k3.1, hz.k3.2, gt_t ix, lt_e, hz.v3 i (by omega)]
    by_cases w : op i = true
    · rw [bi_t w, if_neg (by decide), lt_e, hz.r0, nn_s, gt_t hz.k0.1, hz.k0.2, gt_t ix, lt_e, hz.v0 i (by omega)]
      exact b53 (g i) (by rw [if_pos w])
    · rw [bi_f w, if_pos rfl]
      exact b53 0 (by rw [if_neg w])
theorem k_choose (h : rc_ ka TX σ x G A N) (hw : cw_ F W g c ln op gap lim n) : ∃ F' W', f_X0_choose (cu_ σ G F W) (ga_ G 17 0) = some ((), cu_ σ G F' W') ∧ F' 108 = nI (pk_ g c ln op gap lim n 0 (0, 0, 0) (0, -1, lim + 1)).1 ∧ F' 109 = zI (pk_ g c ln op gap lim n 0 (0, 0, 0) (0, -1, lim + 1)).2.1 ∧ F' 110 = zI (pk_ g c ln op gap lim n 0 (0, 0, 0) (0, -1, lim + 1)).2.2 := by
  have hz := cw_cz h hw
  have hn := hz.hn
  have hd := cd5_of h
  have hz2 := cw_cz h (cw_4 hw n 0)
  obtain ⟨W', q⟩ := k_hope h n fu_ (up2_ W 4 n 0) (Nat.le_refl _) (by unfold fu_; omega) (cw_4 hw n 0) (fun j hj hj2 => by
    have : j = n := by omega
    rw [this, up2_s, Nat.sub_self]
    rfl)
  refine ⟨upd (upd (upd F 108 (nI (pk_ g c ln op gap lim n 0 (0, 0, 0) (0, -1, lim + 1)).1)) 109 (zI (pk_ g c ln op gap lim n 0 (0, 0, 0) (0, -1, lim + 1)).2.1)) 110 (zI (pk_ g c ln op gap lim n 0 (0, 0, 0) (0, -1, lim + 1)).2.2), W', ?_, ?_⟩
  · unfold f_X0_choose
    rw [gt_t hz.ka, lt_e, hz.r4, lt_e, hz.f5, nn_s, gt_t hz.k4.1, nI_clamp (by omega), hz.k4.2, gt_t (ix9_ (k := n) (M := 15) (by omega) (by omega)), lt_e]
    rw [show sa_ (cu_ σ G F W) (ga_ G (18 + 4) 0) n 0 = cu_ σ G F (up2_ W 4 n 0) from cu_s4 hd n 0, lt_e, hz2.f5, lt_e]
    rw [show nI n - 1 = zI ((n : Int) - 1) by rw [← zI_nI]; exact (Int32.ofInt_sub (n : Int) 1).symm, q, ch_cu]
  · generalize pk_ g c ln op gap lim n 0 (0, 0, 0) (0, -1, lim + 1) = r
    refine ⟨?_, ?_, ?_⟩
    · rw [upd9_n (by decide), upd9_n (by decide), upd9_s]
    · rw [upd9_n (by decide), upd9_s]
    · rw [upd9_s]
end CX9
