/-! ARRAYLIST over the typed heap. Written by wip/b/mk42.py. -/
theorem nIo (n : Nat) : Int32.ofNat n = nI n := rfl
theorem kd_nwn {σ : TH} {k n w q : Nat} (h : q ≠ nx_ σ) : kd_ (nw_ σ k n w) q = kd_ σ q := if_neg h
theorem ln_nwn {σ : TH} {k n w q : Nat} (h : q ≠ nx_ σ) : ln_ (nw_ σ k n w) q = ln_ σ q := if_neg h
theorem fi_nwn {σ : TH} {k n w c q : Nat} (h : q ≠ nx_ σ) : fi_ (nw_ σ k n w) c q = fi_ σ c q := if_neg h
theorem fr_nwn {σ : TH} {k n w c q : Nat} (h : q ≠ nx_ σ) : fr_ (nw_ σ k n w) c q = fr_ σ c q := if_neg h
theorem ai_nwn {σ : TH} {k n w q : Nat} (h : q ≠ nx_ σ) : ai_ (nw_ σ k n w) q = ai_ σ q := funext fun _ => if_neg h
theorem ar_nwn {σ : TH} {k n w q : Nat} (h : q ≠ nx_ σ) : ar_ (nw_ σ k n w) q = ar_ σ q := funext fun _ => if_neg h
theorem fi_nw0 {σ : TH} {k n w c : Nat} : fi_ (nw_ σ k n w) c (nx_ σ) = 0 := if_pos rfl
theorem fr_nw0 {σ : TH} {k n w c : Nat} : fr_ (nw_ σ k n w) c (nx_ σ) = none := if_pos rfl
theorem ai_nw0 {σ : TH} {k n w i : Nat} : ai_ (nw_ σ k n w) (nx_ σ) i = 0 := if_pos rfl
theorem ar_nw0 {σ : TH} {k n w i : Nat} : ar_ (nw_ σ k n w) (nx_ σ) i = none := if_pos rfl
/-- a list at a, its array e, its n elements f -/
def ls_ (ka : Nat → Nat) (σ : TH) (a e n : Nat) (f : Nat → Nat) : Prop := kd_ σ a = 1 ∧ fi_ σ 2 a = nI n ∧ fr_ σ 1 a = some e ∧ n ≤ 1000 ∧ ((kd_ σ e = 24 ∧ n ≤ ln_ σ e ∧ 0 < ln_ σ e ∧ ln_ σ e ≤ 2000) ∨ (e = ka 200 ∧ kd_ σ e = 0 ∧ n = 0)) ∧ ∀ i, i < n → ar_ σ e i = some (f i) ∧ 0 < kd_ σ (f i) ∧ kd_ σ (f i) < 18
theorem ce_sc {σ : TH} {s0 d0 sp dp n b : Nat} (h : b ≠ d0) : ce_ (sc_ σ s0 d0 sp dp n) b = ce_ σ b := by
  unfold ce_
  have : ar_ (sc_ σ s0 d0 sp dp n) b = ar_ σ b := funext fun i => if_neg h
  rw [this]
  rfl
section LS
variable {ka : Nat → Nat} {σ : TH} {a e n : Nat} {f : Nat → Nat}
theorem l_size (h : ls_ ka σ a e n f) : f_Jx4a65c_size_8abf5 σ a = some (nI n, σ) := by
  simp [f_Jx4a65c_size_8abf5, gt_, lt_, nn_, oc_, bd_, h.1, h.2.1]
theorem l_isEmpty (h : ls_ ka σ a e n f) : f_Jx4a65c_isEmpty_aae02 σ a = some (bi_ (n = 0), σ) := by
  have hn := h.2.2.2.1
  by_cases q : n = 0
  · subst q
    simp [f_Jx4a65c_isEmpty_aae02, f_Jx4a65c_isEmpty_aae02_b12, gt_, lt_, nn_, oc_, bd_, h.1, h.2.1, bi_, show nI 0 = 0 from rfl]
  · have g : ¬ nI n = 0 := nI_ne0 (by omega) (by omega)
    simp [f_Jx4a65c_isEmpty_aae02, f_Jx4a65c_isEmpty_aae02_b12, gt_, lt_, nn_, oc_, bd_, h.1, h.2.1, bi_, g, q]
theorem l_get (h : ls_ ka σ a e n f) {i : Nat} (hi : i < n) : f_Jx4a65c_get_915e3 σ a (nI i) = some (some (f i), σ) := by
  obtain ⟨h1, h2, h3, h4, h5, h6⟩ := h
  rcases h5 with ⟨k1, k2, k3, k4⟩ | ⟨-, -, k⟩
  · have g1 : ¬ nI i < 0 := nI_pos (by omega)
    have g2 : nI i < nI n := nI_lt hi (by omega)
    have g3 : (nI i).toNatClampNeg = i := nI_clamp (by omega)
    have g4 : ¬ ln_ σ e ≤ i := by omega
    simp [f_Jx4a65c_get_915e3, f_J15_checkIndex_7cf53, f_J3_checkIndex_8e157, f_J3_checkIndex_8e157_b9, f_Jx4a65c_elementData_915e3, gt_, lt_, nn_, oc_, bd_, h1, h2, h3, k1, g1, g2, g3, g4, (h6 i hi).1]
  · omega
/-- room is left -/
theorem l_addA2 (h : ls_ ka σ a e n f) (k1 : kd_ σ e = 24) (hn : n < ln_ σ e) (hne : e ≠ a) {b : Nat} (hb : 0 < kd_ σ b ∧ kd_ σ b < 18) : f_Jx4a65c_add_72be8 ka σ a (some b) (some e) (nI n) = some ((), si_ (sq_ σ e n (some b)) 2 a (nI (n + 1))) := by
  obtain ⟨h1, h2, h3, h4, h5, h6⟩ := h
  have k4 : ln_ σ e ≤ 2000 := by
    rcases h5 with q | q
    · exact q.2.2.2
    · omega
  have g1 : ¬ nI n < 0 := nI_pos (by omega)
  have g3 : (nI n).toNatClampNeg = n := nI_clamp (by omega)
  have g4 : ¬ ln_ σ e ≤ n := by omega
  have g5 : ¬ nI n = nI (ln_ σ e) := fun q => by have := (nI_eq (by omega) (by omega)).mp q; omega
  simp [f_Jx4a65c_add_72be8, f_Jx4a65c_add_72be8_b11, gt_, lt_, nn_, oc_, bd_, kd_si, ln_si, fi_si, fr_si, fl_si, ai_si, ar_si, al_si, ow_si, nx_si, sl_si, kd_sr, ln_sr, fi_sr, fr_sr, fl_sr, ai_sr, ar_sr, al_sr, ow_sr, nx_sr, sl_sr, kd_so, ln_so, fi_so, fr_so, fl_so, ai_so, ar_so, al_so, ow_so, nx_so, sl_so, kd_sa, ln_sa, fi_sa, fr_sa, fl_sa, ai_sa, ar_sa, al_sa, ow_sa, nx_sa, sl_sa, kd_sq, ln_sq, fi_sq, fr_sq, fl_sq, ai_sq, ar_sq, al_sq, ow_sq, nx_sq, sl_sq, kd_sj, ln_sj, fi_sj, fr_sj, fl_sj, ai_sj, ar_sj, al_sj, ow_sj, nx_sj, sl_sj, up2_e, nIo, h1, h2, h3, k1, hb, g1, g3, g4, g5, nI_1]
theorem l_newLen (hn : n ≤ 2000) (h1 : 0 < n) : f_J8_newLength_cabcc σ (nI n) (nI n + 1 - nI n) (nI n >>> ((1 : Int32) &&& 31)) = some (nI (n + max 1 (n / 2)), σ) := by
  have e1 : nI n + 1 - nI n = nI 1 := by
    rw [nI_1, show nI (n + 1) = nI 1 + nI n by rw [nI_add, Nat.add_comm]]
    simp
  have e2 : nI n >>> ((1 : Int32) &&& 31) = nI (n / 2) := by
    have := pk_shrN (n := n) (by omega) ((1 : Int32) &&& 31) 1 (by decide)
    simpa using this
  have e3 : (if nI 1 < nI (n / 2) then nI (n / 2) else nI 1) = nI (max 1 (n / 2)) := by
    by_cases q : 1 < n / 2
    · rw [if_pos (nI_lt q (by omega)), Nat.max_eq_right (by omega)]
    · rw [if_neg (nI_nlt (by omega) (by decide)), Nat.max_eq_left (by omega)]
  have hm : max 1 (n / 2) ≤ 2000 := Nat.max_le.mpr ⟨by omega, by omega⟩
  have hm1 : 1 ≤ max 1 (n / 2) := Nat.le_max_left _ _
  have e4 : ¬ nI (n + max 1 (n / 2)) ≤ 0 := nI_nle (by omega) (by omega)
  have e5 : ¬ (2147483639 : Int32) < nI (n + max 1 (n / 2)) := by
    rw [show (2147483639 : Int32) = nI 2147483639 from rfl]
    exact nI_nlt (by omega) (by decide)
  unfold f_J8_newLength_cabcc
  rw [lt_e, e1, e2, e3, nI_add, if_neg e4, if_neg e5]
/-- the array is full: a larger one -/
theorem l_grow (hw : wf_ σ) (h1 : kd_ σ a = 1) (h2 : fi_ σ 2 a = nI n) (h3 : fr_ σ 1 a = some e) (k1 : kd_ σ e = 24) (hn : n = ln_ σ e) (h0 : 0 < n) (h4 : n ≤ 1000) (hk : ∀ i, i < n → ∃ b, ar_ σ e i = some b ∧ 0 < kd_ σ b ∧ kd_ σ b < 18) : f_Jx4a65c_grow_d5877 ka σ a = some (some (nx_ σ), sr_ (sc_ (nw_ σ 24 (n + max 1 (n / 2)) (n + max 1 (n / 2))) e (nx_ σ) 0 0 n) 1 a (some (nx_ σ))) := by
  have hm : max 1 (n / 2) ≤ 500 := Nat.max_le.mpr ⟨by omega, by omega⟩
  have hm1 : 1 ≤ max 1 (n / 2) := Nat.le_max_left _ _
  generalize hM : n + max 1 (n / 2) = M
  have hM1 : n < M := by omega
  have hM2 : M ≤ 1500 := by omega
  have n0 : kd_ σ (nx_ σ) = 0 := wf_0 hw (Nat.le_refl _)
  have ha : a ≠ nx_ σ := fun q => by rw [q, n0] at h1; cases h1
  have he : e ≠ nx_ σ := fun q => by rw [q, n0] at k1; cases k1
  have g0 : (0 : Int32) < nI n := by have := nI_lt h0 (show n < 2 ^ 31 by omega); simpa [nI_0] using this
  have hl := l_newLen (σ := σ) (n := n) (by omega) h0
  rw [hM] at hl
  have g1 : ¬ nI M < 0 := nI_pos (by omega)
  have g2 : (nI M).toNatClampNeg = M := nI_clamp (by omega)
  have g3 : M ≤ 100000 := by omega
  have g4 : ¬ nI M < nI n := nI_nlt (by omega) (by omega)
  have g5 : (nI n).toNatClampNeg = n := nI_clamp (by omega)
  have g6 : ¬ nI n < 0 := nI_pos (by omega)
  have z0 : (0 : Int32).toNatClampNeg = 0 := by decide
  have hc : ∀ i, i < n → Option.elim (ar_ (nw_ σ 24 M M) e (0 + i)) 1 (kd_ (nw_ σ 24 M M)) ≠ 0 ∧ Option.elim (ar_ (nw_ σ 24 M M) e (0 + i)) 1 (kd_ (nw_ σ 24 M M)) < 18 := fun i hi => by
    obtain ⟨b, b1, b2, b3⟩ := hk i hi
    have hb : b ≠ nx_ σ := fun q => by rw [q, n0] at b2; omega
    rw [Nat.zero_add, ar_nwn he, b1]
    show kd_ (nw_ σ 24 M M) b ≠ 0 ∧ kd_ (nw_ σ 24 M M) b < 18
    rw [kd_nwn hb]
    exact ⟨by omega, b3⟩
  have hcp : f_J7_copyOf_1904c ka σ (some e) (nI M) = some (some (nx_ σ), sc_ (nw_ σ 24 M M) e (nx_ σ) 0 0 n) := by
    unfold f_J7_copyOf_1904c f_J7_copyOf_6403c f_J7_copyOf_6403c_b24
    rw [nn_s, gt_t k1, if_pos rfl, gt_t ⟨g1, by rw [g2]; exact g3, n0⟩, lt_e, g2, lt_e, nn_s, gt_t (Or.inl (by rw [kd_nwn he]; exact k1)), if_pos (by rw [kd_nwn he]; exact k1), lt_e, ln_nwn he, ← hn, nIo, nn_s, gt_t (by rw [kd_nwn he]; exact k1), gt_t (kd_nw _ _ _ _), if_neg g4, g5, z0, gt_t ⟨by decide, by decide, g6, by omega, by rw [ln_nw]; omega, by rw [ln_nw]; omega, hc⟩, lt_e, bd_s]
  unfold f_Jx4a65c_grow_d5877 f_Jx4a65c_grow_92f84 f_Jx4a65c_grow_92f84_b20
  rw [gt_t h1, lt_e, h2, gt_t h1, lt_e, h3, nn_s, gt_t (Or.inl k1), if_pos k1, lt_e, ← hn, nIo, if_pos g0, hl, bd_s, gt_t h1, lt_e, h3, hcp, bd_s, lt_e, bd_s]
/-- the first array -/
theorem l_grow0 (hw : wf_ σ) (h1 : kd_ σ a = 1) (h2 : fi_ σ 2 a = nI 0) (h3 : fr_ σ 1 a = some (ka 200)) (k1 : kd_ σ (ka 200) = 0) : f_Jx4a65c_grow_d5877 ka σ a = some (some (nx_ σ), sr_ (nw_ σ 24 10 10) 1 a (some (nx_ σ))) := by
  have n0 : kd_ σ (nx_ σ) = 0 := wf_0 hw (Nat.le_refl _)
  have c1 : (if (10 : Int32) < nI 0 + 1 then nI 0 + 1 else 10) = 10 := by decide
  have c2 : (10 : Int32).toNatClampNeg = 10 := by decide
  unfold f_Jx4a65c_grow_d5877 f_Jx4a65c_grow_92f84
  rw [gt_t h1, lt_e, h2, gt_t h1, lt_e, h3, nn_s, gt_t (Or.inr rfl), if_neg (by rw [k1]; decide), lt_e, if_neg (by decide), lt_e, if_pos rfl, c1, c2, gt_t ⟨by decide, by decide, n0⟩, lt_e, lt_e, lt_e, bd_s]
/-- the larger array, whichever way -/
theorem l_growS (hw : wf_ σ) (h : ls_ ka σ a e n f) (hfull : kd_ σ e = 24 → n = ln_ σ e) : ∃ (s4 : TH) (M : Nat), f_Jx4a65c_grow_d5877 ka σ a = some (some (nx_ σ), s4) ∧ fq_ (fun z => z = a) σ s4 ∧ kd_ s4 (nx_ σ) = 24 ∧ ln_ s4 (nx_ σ) = M ∧ n < M ∧ M ≤ 1500 ∧ fr_ s4 1 a = some (nx_ σ) ∧ (∀ c, c ≠ 1 → fr_ s4 c a = fr_ σ c a) ∧ (∀ c, fi_ s4 c a = fi_ σ c a) ∧ (∀ i, i < n → ar_ s4 (nx_ σ) i = some (f i)) ∧ (∀ q, q ≠ nx_ σ → kd_ s4 q = kd_ σ q) ∧ nx_ s4 = nx_ σ + 1 ∧ sl_ s4 = sl_ σ + M := by
  obtain ⟨h1, h2, h3, h4, h5, h6⟩ := h
  have n0 : kd_ σ (nx_ σ) = 0 := wf_0 hw (Nat.le_refl _)
  have ha : a ≠ nx_ σ := fun q => by rw [q, n0] at h1; cases h1
  rcases h5 with ⟨k1, k2, k3, k4⟩ | ⟨k1, k2, k3⟩
  · have hnl := hfull k1
    have he : e ≠ nx_ σ := fun q => by rw [q, n0] at k1; cases k1
    have hm : max 1 (n / 2) ≤ 500 := Nat.max_le.mpr ⟨by omega, by omega⟩
    have hm1 : 1 ≤ max 1 (n / 2) := Nat.le_max_left _ _
    have hgr := l_grow (ka := ka) hw h1 h2 h3 k1 hnl (by omega) (by omega) (fun i hi => ⟨f i, (h6 i hi).1, (h6 i hi).2⟩)
    obtain ⟨M, hM⟩ : ∃ M, M = n + max 1 (n / 2) := ⟨_, rfl⟩
    rw [← hM] at hgr
    have w1 : fq_ (fun z => z = a) σ (nw_ σ 24 M M) := fq_nw hw (by decide)
    have w2 : fq_ (fun z => z = a) σ (sc_ (nw_ σ 24 M M) e (nx_ σ) 0 0 n) := ⟨w1.1, w1.2.1, fun q hq hT => (ce_sc (Nat.ne_of_lt hq)).trans (w1.2.2 q hq hT)⟩
    refine ⟨_, M, hgr, fq_tr w2 (fq_sr w2.2.1 rfl), kd_nw σ 24 M M, ln_nw σ 24 M M, by omega, by omega, ?_, fun c c1 => ?_, fun c => fi_nwn (σ := σ) (k := 24) (n := M) (w := M) ha, fun i hi => ?_, fun q hq => kd_nwn (σ := σ) (k := 24) (n := M) (w := M) hq, rfl, rfl⟩
    · rw [fr_sr, up2_s]
    · rw [fr_sr, up2_c c1]
      exact fr_nwn (σ := σ) (k := 24) (n := M) (w := M) ha
    · have e1 : ar_ (sr_ (sc_ (nw_ σ 24 M M) e (nx_ σ) 0 0 n) 1 a (some (nx_ σ))) (nx_ σ) i = va_cpy (ar_ (nw_ σ 24 M M) e) (ar_ (nw_ σ 24 M M) (nx_ σ)) 0 0 n i := if_pos rfl
      rw [e1]
      unfold va_cpy
      rw [if_pos ⟨Nat.zero_le _, by omega⟩, Nat.zero_add, Nat.sub_zero, ar_nwn he]
      exact (h6 i hi).1
  · have h2' : fi_ σ 2 a = nI 0 := by rw [h2, k3]
    have h3' : fr_ σ 1 a = some (ka 200) := by rw [h3, k1]
    have k2' : kd_ σ (ka 200) = 0 := by rw [← k1]; exact k2
    have hgr := l_grow0 (ka := ka) hw h1 h2' h3' k2'
    have w1 : fq_ (fun z => z = a) σ (nw_ σ 24 10 10) := fq_nw hw (by decide)
    refine ⟨_, 10, hgr, fq_tr w1 (fq_sr w1.2.1 rfl), kd_nw σ 24 10 10, ln_nw σ 24 10 10, by omega, by omega, ?_, fun c c1 => ?_, fun c => fi_nwn (σ := σ) (k := 24) (n := 10) (w := 10) ha, fun i hi => ?_, fun q hq => kd_nwn (σ := σ) (k := 24) (n := 10) (w := 10) hq, rfl, rfl⟩
    · rw [fr_sr, up2_s]
    · rw [fr_sr, up2_c c1]
      exact fr_nwn (σ := σ) (k := 24) (n := 10) (w := 10) ha
    · omega
/-- one is put behind the last, where there is room -/
theorem l_put {q M b : Nat} (c1 : kd_ σ a = 1) (c2 : fr_ σ 1 a = some q) (c3 : kd_ σ q = 24) (c4 : ln_ σ q = M) (c5 : n < M) (c6 : M ≤ 2000) (hn : n < 1000) (hw : wf_ σ) (c7 : ∀ i, i < n → ar_ σ q i = some (f i) ∧ 0 < kd_ σ (f i) ∧ kd_ σ (f i) < 18) (c8 : 0 < kd_ σ b ∧ kd_ σ b < 18) : f_Jx4a65c_add_72be8_b11 ka σ a (some b) (some q) (nI n) = some ((), si_ (sq_ σ q n (some b)) 2 a (nI (n + 1))) ∧ ls_ ka (si_ (sq_ σ q n (some b)) 2 a (nI (n + 1))) a q (n + 1) (fun i => if i = n then b else f i) ∧ fq_ (fun z => z = a ∨ z = q) σ (si_ (sq_ σ q n (some b)) 2 a (nI (n + 1))) := by
  have g1 : ¬ nI n < 0 := nI_pos (by omega)
  have g3 : (nI n).toNatClampNeg = n := nI_clamp (by omega)
  have g4 : ¬ (nI n < 0 ∨ ln_ σ q ≤ (nI n).toNatClampNeg) := by
    rw [g3, c4]
    exact fun z => z.elim g1 (by omega)
  refine ⟨?_, ⟨c1, ?_, c2, by omega, Or.inl ⟨c3, ?_, ?_, ?_⟩, fun i hi => ?_⟩, ?_⟩
  · unfold f_Jx4a65c_add_72be8_b11
    rw [nn_s, gt_t c3, nn_s, gt_t c8, gt_t g4, g3, lt_e, gt_t (show kd_ (sq_ σ q n (some b)) a = 1 from c1), lt_e, nI_1]
  · rw [fi_si, up2_s]
  · show n + 1 ≤ ln_ σ q
    omega
  · show 0 < ln_ σ q
    omega
  · show ln_ σ q ≤ 2000
    omega
  · show up2_ (ar_ σ) q n (some b) q i = some (if i = n then b else f i) ∧ 0 < kd_ σ (if i = n then b else f i) ∧ kd_ σ (if i = n then b else f i) < 18
    by_cases z : i = n
    · subst z
      rw [if_pos rfl, up2_s]
      exact ⟨rfl, c8⟩
    · rw [if_neg z, up2_n z]
      exact c7 i (by omega)
  · exact fq_tr (fq_sq hw (Or.inr rfl)) (fq_si hw (Or.inl rfl))
/-- one more at the end: whatever it takes -/
theorem l_add2 (hw : wf_ σ) (h : ls_ ka σ a e n f) (hn : n < 1000) {b : Nat} (hb : 0 < kd_ σ b ∧ kd_ σ b < 18) : ∃ (e1 : Nat) (τ : TH), f_Jx4a65c_add_72be8 ka σ a (some b) (some e) (nI n) = some ((), τ) ∧ ls_ ka τ a e1 (n + 1) (fun i => if i = n then b else f i) ∧ fq_ (fun q => q = a ∨ q = e) σ τ ∧ ((e1 = e ∧ kd_ σ e = 24 ∧ nx_ τ = nx_ σ ∧ sl_ τ = sl_ σ) ∨ (e1 = nx_ σ ∧ nx_ τ = nx_ σ + 1 ∧ sl_ τ ≤ sl_ σ + 2000)) ∧ kd_ τ e1 = 24 ∧ (∀ q, q ≠ nx_ σ → kd_ τ q = kd_ σ q) ∧ (∀ c, c ≠ 2 → fi_ τ c a = fi_ σ c a) ∧ (∀ c, c ≠ 1 → fr_ τ c a = fr_ σ c a) := by
  obtain ⟨h1, h2, h3, h4, h5, h6⟩ := id h
  have n0 : kd_ σ (nx_ σ) = 0 := wf_0 hw (Nat.le_refl _)
  have ha : a ≠ nx_ σ := fun q => by rw [q, n0] at h1; cases h1
  have hbn : b ≠ nx_ σ := fun q => by rw [q, n0] at hb; omega
  have hor : kd_ σ e = 24 ∨ e = ka 200 := by
    rcases h5 with q | q
    · exact Or.inl q.1
    · exact Or.inr q.1
  have hg : f_Jx4a65c_add_72be8 ka σ a (some b) (some e) (nI n) = (if nI n = (if kd_ σ e = 24 then nI (ln_ σ e) else 0) then (bd_ (f_Jx4a65c_grow_d5877 ka σ a) fun r3 s4 => f_Jx4a65c_add_72be8_b11 ka s4 a (some b) r3 (nI n)) else (f_Jx4a65c_add_72be8_b11 ka σ a (some b) (some e) (nI n))) := by
    unfold f_Jx4a65c_add_72be8
    rw [nn_s, gt_t hor, lt_e, gt_t h1]
    rfl
  rcases h5 with ⟨k1, k2, k3, k4⟩ | ⟨k1, k2, k3⟩
  · by_cases hc : n < ln_ σ e
    · have g5 : ¬ nI n = nI (ln_ σ e) := fun q => by have := (nI_eq (by omega) (by omega)).mp q; omega
      obtain ⟨p1, p2, p3⟩ := l_put (ka := ka) (σ := σ) (a := a) (n := n) (f := f) (q := e) (b := b) h1 h3 k1 rfl hc k4 hn hw h6 hb
      refine ⟨e, si_ (sq_ σ e n (some b)) 2 a (nI (n + 1)), ?_, p2, p3, Or.inl ⟨rfl, k1, rfl, rfl⟩, k1, fun q _ => rfl, fun c c2 => ?_, fun c _ => rfl⟩
      · rw [hg, if_pos k1, if_neg g5]
        exact p1
      · rw [fi_si, up2_c c2, fi_sq]
    · have hnl : n = ln_ σ e := by omega
      obtain ⟨s4, M, g1, g2, g3, g4, g5, g6, g7, g8, g9, g10, g11, g12, g13⟩ := l_growS hw h (fun _ => hnl)
      obtain ⟨p1, p2, p3⟩ := l_put (ka := ka) (σ := s4) (a := a) (n := n) (f := f) (q := nx_ σ) (M := M) (b := b) (by rw [g11 a ha]; exact h1) g7 g3 g4 g5 (by omega) hn g2.2.1 (fun i hi => by
        have h7 := h6 i hi
        have hfi : f i ≠ nx_ σ := fun z => by rw [z, n0] at h7; omega
        rw [g11 _ hfi]
        exact ⟨g10 i hi, h7.2⟩) (by rw [g11 b hbn]; exact hb)
      refine ⟨nx_ σ, si_ (sq_ s4 (nx_ σ) n (some b)) 2 a (nI (n + 1)), ?_, p2, ⟨tl_tr g2.1 p3.1, p3.2.1, fun q hq hT => ?_⟩, Or.inr ⟨rfl, g12, ?_⟩, g3, fun q hq => g11 q hq, fun c c2 => ?_, fun c c1 => g8 c c1⟩
      · rw [hg, if_pos k1, if_pos (by rw [← hnl]), g1, bd_s]
        exact p1
      · rw [p3.2.2 q (Nat.lt_of_lt_of_le hq g2.1.1) (fun z => z.elim (fun z1 => hT (Or.inl z1)) (fun z1 => Nat.lt_irrefl _ (z1 ▸ hq))), g2.2.2 q hq (fun z1 => hT (Or.inl z1))]
      · show sl_ s4 ≤ sl_ σ + 2000
        omega
      · rw [fi_si, up2_c c2, fi_sq]
        exact g9 c
  · have g5 : nI n = (if kd_ σ e = 24 then nI (ln_ σ e) else 0) := by
      rw [if_neg (by rw [k2]; decide), k3]
      rfl
    obtain ⟨s4, M, g1, g2, g3, g4, g5', g6, g7, g8, g9, g10, g11, g12, g13⟩ := l_growS hw h (fun q => by rw [k2] at q; cases q)
    obtain ⟨p1, p2, p3⟩ := l_put (ka := ka) (σ := s4) (a := a) (n := n) (f := f) (q := nx_ σ) (M := M) (b := b) (by rw [g11 a ha]; exact h1) g7 g3 g4 g5' (by omega) hn g2.2.1 (fun i hi => by omega) (by rw [g11 b hbn]; exact hb)
    refine ⟨nx_ σ, si_ (sq_ s4 (nx_ σ) n (some b)) 2 a (nI (n + 1)), ?_, p2, ⟨tl_tr g2.1 p3.1, p3.2.1, fun q hq hT => ?_⟩, Or.inr ⟨rfl, g12, ?_⟩, g3, fun q hq => g11 q hq, fun c c2 => ?_, fun c c1 => g8 c c1⟩
    · rw [hg, if_pos g5, g1, bd_s]
      exact p1
    · rw [p3.2.2 q (Nat.lt_of_lt_of_le hq g2.1.1) (fun z => z.elim (fun z1 => hT (Or.inl z1)) (fun z1 => Nat.lt_irrefl _ (z1 ▸ hq))), g2.2.2 q hq (fun z1 => hT (Or.inl z1))]
    · show sl_ s4 ≤ sl_ σ + 2000
      omega
    · rw [fi_si, up2_c c2, fi_sq]
      exact g9 c
theorem l_add (hw : wf_ σ) (h : ls_ ka σ a e n f) (hn : n < 1000) {b : Nat} (hb : 0 < kd_ σ b ∧ kd_ σ b < 18) : ∃ (e1 : Nat) (τ : TH), f_Jx4a65c_add_9ea2d ka σ a (some b) = some (1, τ) ∧ ls_ ka τ a e1 (n + 1) (fun i => if i = n then b else f i) ∧ fq_ (fun q => q = a ∨ q = e) σ τ ∧ ((e1 = e ∧ kd_ σ e = 24 ∧ nx_ τ = nx_ σ ∧ sl_ τ = sl_ σ) ∨ (e1 = nx_ σ ∧ nx_ τ = nx_ σ + 1 ∧ sl_ τ ≤ sl_ σ + 2000)) ∧ kd_ τ e1 = 24 ∧ (∀ q, q ≠ nx_ σ → kd_ τ q = kd_ σ q) ∧ (∀ c, c ≠ 0 → c ≠ 2 → fi_ τ c a = fi_ σ c a) ∧ (∀ c, c ≠ 1 → fr_ τ c a = fr_ σ c a) := by
  have h' : ls_ ka (si_ σ 0 a (fi_ σ 0 a + 1)) a e n f := h
  have hw' : wf_ (si_ σ 0 a (fi_ σ 0 a + 1)) := hw
  obtain ⟨e1, τ, k1, k2, k3, k4, k5, k6, k7, k8⟩ := l_add2 hw' h' hn (b := b) hb
  refine ⟨e1, τ, ?_, k2, fq_tr (fq_si hw (Or.inl rfl)) k3, k4, k5, k6, fun c c0 c2 => ?_, k8⟩
  · unfold f_Jx4a65c_add_9ea2d
    have e2 : fi_ (si_ σ 0 a (fi_ σ 0 a + 1)) 2 a = nI n := h.2.1
    have e3 : fr_ (si_ σ 0 a (fi_ σ 0 a + 1)) 1 a = some e := h.2.2.1
    rw [gt_t h.1, lt_e, lt_e, lt_e, e3, lt_e, e2, k1, bd_s]
  · rw [k7 c c2, fi_si, up2_c c0]
end LS
