/-! PROOFS: a list of one's own, with its room. Written by wip/b/mk99zj.py. -/
section LA9
variable {ka : Nat → Nat} {σ : TH} {a e n : Nat} {f : Nat → Nat}
/-- one more at the end, the room counted -/
theorem l_addS (hw : wf_ σ) (h : ls_ ka σ a e n f) (hn : n < 900) {b : Nat} (hb : 0 < kd_ σ b ∧ kd_ σ b < 18) : ∃ (e1 : Nat) (τ : TH), f_Jx4a65c_add_9ea2d ka σ a (some b) = some (1, τ) ∧ ls_ ka τ a e1 (n + 1) (fun i => if i = n then b else f i) ∧ fq_ (fun q => q = a ∨ q = e) σ τ ∧ kd_ τ e1 = 24 ∧ ((e1 = e ∧ kd_ σ e = 24 ∧ nx_ τ = nx_ σ ∧ sl_ τ = sl_ σ ∧ ln_ τ e1 = ln_ σ e) ∨ (e1 = nx_ σ ∧ nx_ τ = nx_ σ + 1 ∧ sl_ τ = sl_ σ + ln_ τ e1 ∧ ((kd_ σ e = 24 ∧ n = ln_ σ e ∧ ln_ τ e1 = n + max 1 (n / 2)) ∨ (kd_ σ e = 0 ∧ ln_ τ e1 = 10)))) := by
  obtain ⟨e1, τ, k1, k2, k3, k4, k5, -⟩ := l_add hw h (by omega) hb
  refine ⟨e1, τ, k1, k2, k3, k5, ?_⟩
  rcases k4 with ⟨y1, y2, y3, y4⟩ | ⟨y1, y2, y3⟩
  · refine Or.inl ⟨y1, y2, y3, y4, ?_⟩
    rw [y1]
    exact (k3.1.2.2.2.2 e (by rw [y2]; decide)).2
  · refine Or.inr ⟨y1, y2, ?_⟩
    obtain ⟨h1, h2, h3, h4, h5, h6⟩ := id h
    have n0 : kd_ σ (nx_ σ) = 0 := wf_0 hw (Nat.le_refl _)
    have ha : a ≠ nx_ σ := fun q => by rw [q, n0] at h1; cases h1
    have hbn : b ≠ nx_ σ := fun q => by rw [q, n0] at hb; omega
    obtain ⟨σ1, hσ1⟩ : ∃ σ1, σ1 = si_ σ 0 a (fi_ σ 0 a + 1) := ⟨_, rfl⟩
    have h' : ls_ ka σ1 a e n f := by rw [hσ1]; exact h
    have hw' : wf_ σ1 := by rw [hσ1]; exact hw
    have nx1 : nx_ σ1 = nx_ σ := by rw [hσ1]; rfl
    have sl1 : sl_ σ1 = sl_ σ := by rw [hσ1]; rfl
    have kd1 : ∀ q, kd_ σ1 q = kd_ σ q := fun q => by rw [hσ1]; rfl
    have ln1 : ∀ q, ln_ σ1 q = ln_ σ q := fun q => by rw [hσ1]; rfl
    have hor : kd_ σ1 e = 24 ∨ e = ka 200 := by
      rcases h5 with q | q
      · exact Or.inl (by rw [kd1]; exact q.1)
      · exact Or.inr q.1
    have ex : f_Jx4a65c_add_9ea2d ka σ a (some b) = bd_ (if nI n = (if kd_ σ1 e = 24 then nI (ln_ σ1 e) else 0) then (bd_ (f_Jx4a65c_grow_d5877 ka σ1 a) fun r3 s4 => f_Jx4a65c_add_72be8_b11 ka s4 a (some b) r3 (nI n)) else (f_Jx4a65c_add_72be8_b11 ka σ1 a (some b) (some e) (nI n))) (fun x5 s6 => some ((1 : Int32), s6)) := by
      unfold f_Jx4a65c_add_9ea2d
      rw [gt_t h.1, lt_e, lt_e, ← hσ1, lt_e, h'.2.2.1, lt_e, h'.2.1]
      unfold f_Jx4a65c_add_72be8
      rw [nn_s, gt_t hor, lt_e, gt_t h'.1]
      rfl
    rw [ex] at k1
    rcases h5 with ⟨z1, z2, z3, z4⟩ | ⟨z1, z2, z3⟩
    · have kE : kd_ σ1 e = 24 := by rw [kd1]; exact z1
      by_cases hc : n < ln_ σ e
      · exfalso
        have g5 : ¬ nI n = nI (ln_ σ1 e) := fun q => by rw [ln1] at q; have := (nI_eq (by omega) (by omega)).mp q; omega
        obtain ⟨p1, p2, p3⟩ := l_put (ka := ka) (σ := σ1) (a := a) (n := n) (f := f) (q := e) (b := b) h'.1 h'.2.2.1 kE (ln1 e) hc (by omega) (by omega) hw' h'.2.2.2.2.2 (by rw [kd1]; exact hb)
        rw [if_pos kE, if_neg g5, p1, bd_s] at k1
        have e2 : si_ (sq_ σ1 e n (some b)) 2 a (nI (n + 1)) = τ := congrArg Prod.snd (Option.some.inj k1)
        have : nx_ τ = nx_ σ := by rw [← e2]; exact nx1
        omega
      · have hnl : n = ln_ σ e := by omega
        have g := l_grow (ka := ka) hw' h'.1 h'.2.1 h'.2.2.1 kE (by rw [ln1]; exact hnl) (by omega) (by omega) (fun i hi => ⟨f i, h'.2.2.2.2.2 i hi⟩)
        obtain ⟨M, hM⟩ : ∃ M, M = n + max 1 (n / 2) := ⟨_, rfl⟩
        have mb : max 1 (n / 2) ≤ 500 := Nat.max_le.mpr ⟨by omega, by omega⟩
        have m1 : 1 ≤ max 1 (n / 2) := Nat.le_max_left _ _
        rw [← hM] at g
        obtain ⟨s4, hs4⟩ : ∃ s4, s4 = sr_ (sc_ (nw_ σ1 24 M M) e (nx_ σ1) 0 0 n) 1 a (some (nx_ σ1)) := ⟨_, rfl⟩
        rw [← hs4] at g
        have q4 : ∀ q, q ≠ nx_ σ1 → kd_ s4 q = kd_ σ1 q := fun q hq => by rw [hs4]; exact kd_nwn (n := M) (w := M) hq
        have ar4 : ∀ i, i < n → ar_ s4 (nx_ σ1) i = some (f i) := fun i hi => by
          rw [hs4]
          show (if nx_ σ1 = nx_ σ1 then va_cpy _ _ 0 0 n i else _) = _
          rw [if_pos rfl, pk_cpy_in (Nat.zero_le _) (by omega), show 0 + (i - 0) = i by omega, ar_nwn (fun z => by rw [z, wf_0 hw' (Nat.le_refl _)] at kE; cases kE)]
          exact (h'.2.2.2.2.2 i hi).1
        have w4 : wf_ s4 := by rw [hs4]; exact wf_nw (n := M) (w := M) hw' (by decide)
        obtain ⟨p1, p2, p3⟩ := l_put (ka := ka) (σ := s4) (a := a) (n := n) (f := f) (q := nx_ σ1) (M := M) (b := b) (by rw [q4 a (by rw [nx1]; exact ha)]; exact h'.1) (by rw [hs4]; exact up2_s) (by rw [hs4]; exact kd_nw σ1 24 M M) (by rw [hs4]; exact ln_nw σ1 24 M M) (by omega) (by omega) (by omega) w4 (fun i hi => by
          have h7 := h'.2.2.2.2.2 i hi
          have hfi : f i ≠ nx_ σ1 := fun z => by rw [z, wf_0 hw' (Nat.le_refl _)] at h7; omega
          rw [q4 _ hfi]
          exact ⟨ar4 i hi, h7.2⟩) (by rw [q4 b (by rw [nx1]; exact hbn), kd1]; exact hb)
        rw [if_pos kE, if_pos (by rw [ln1, ← hnl]), g, bd_s, p1, bd_s] at k1
        have e2 : si_ (sq_ s4 (nx_ σ1) n (some b)) 2 a (nI (n + 1)) = τ := congrArg Prod.snd (Option.some.inj k1)
        have l2 : ln_ τ e1 = M := by
          rw [← e2, y1, ← nx1]
          show ln_ s4 (nx_ σ1) = M
          rw [hs4]
          exact ln_nw σ1 24 M M
        have s2 : sl_ τ = sl_ σ + M := by
          rw [← e2, ← sl1]
          show sl_ s4 = _
          rw [hs4]
          rfl
        rw [l2]
        exact ⟨s2, Or.inl ⟨z1, hnl, hM⟩⟩
    · have kE : kd_ σ1 e = 0 := by rw [kd1]; exact z2
      have g := l_grow0 (ka := ka) (σ := σ1) (a := a) hw' h'.1 (by rw [h'.2.1, z3]) (by rw [h'.2.2.1, z1]) (by rw [← z1]; exact kE)
      obtain ⟨s4, hs4⟩ : ∃ s4, s4 = sr_ (nw_ σ1 24 10 10) 1 a (some (nx_ σ1)) := ⟨_, rfl⟩
      rw [← hs4] at g
      have q4 : ∀ q, q ≠ nx_ σ1 → kd_ s4 q = kd_ σ1 q := fun q hq => by rw [hs4]; exact kd_nwn (n := 10) (w := 10) hq
      have w4 : wf_ s4 := by rw [hs4]; exact wf_nw (n := 10) (w := 10) hw' (by decide)
      obtain ⟨p1, p2, p3⟩ := l_put (ka := ka) (σ := s4) (a := a) (n := n) (f := f) (q := nx_ σ1) (M := 10) (b := b) (by rw [q4 a (by rw [nx1]; exact ha)]; exact h'.1) (by rw [hs4]; exact up2_s) (by rw [hs4]; exact kd_nw σ1 24 10 10) (by rw [hs4]; exact ln_nw σ1 24 10 10) (by omega) (by omega) (by omega) w4 (fun i hi => by omega) (by rw [q4 b (by rw [nx1]; exact hbn), kd1]; exact hb)
      rw [if_neg (show ¬ kd_ σ1 e = 24 by rw [kE]; decide), if_pos (by rw [z3]; rfl), g, bd_s, p1, bd_s] at k1
      have e2 : si_ (sq_ s4 (nx_ σ1) n (some b)) 2 a (nI (n + 1)) = τ := congrArg Prod.snd (Option.some.inj k1)
      have l2 : ln_ τ e1 = 10 := by
        rw [← e2, y1, ← nx1]
        show ln_ s4 (nx_ σ1) = 10
        rw [hs4]
        exact ln_nw σ1 24 10 10
      have s2 : sl_ τ = sl_ σ + 10 := by
        rw [← e2, ← sl1]
        show sl_ s4 = _
        rw [hs4]
        rfl
      rw [l2]
      exact ⟨s2, Or.inr ⟨z2, rfl⟩⟩
end LA9
/-- those of the first n that have it, in their order -/
def fl9_ (q : Nat → Bool) : Nat → List Nat
  | 0 => []
  | n + 1 => fl9_ q n ++ (if q n = true then [n] else [])
theorem fl9_len (q : Nat → Bool) : ∀ n, (fl9_ q n).length = cn_ q n
  | 0 => rfl
  | n + 1 => by
    show (fl9_ q n ++ (if q n = true then [n] else [])).length = cn_ q n + (if q n = true then 1 else 0)
    rw [List.length_append, fl9_len q n]
    split <;> rfl
theorem fl9_mem {q : Nat → Bool} {r : Nat} : ∀ {n}, r ∈ fl9_ q n ↔ r < n ∧ q r = true := by
  intro n
  induction n with
  | zero => simp [fl9_]
  | succ n ih =>
    show r ∈ fl9_ q n ++ (if q n = true then [n] else []) ↔ _
    rw [List.mem_append, ih]
    by_cases z : q n = true
    · rw [if_pos z, List.mem_singleton]
      constructor
      · rintro (⟨h1, h2⟩ | h)
        · exact ⟨by omega, h2⟩
        · rw [h]; exact ⟨by omega, z⟩
      · rintro ⟨h1, h2⟩
        by_cases e : r = n
        · exact Or.inr e
        · exact Or.inl ⟨by omega, h2⟩
    · rw [if_neg z]
      constructor
      · rintro (⟨h1, h2⟩ | h)
        · exact ⟨by omega, h2⟩
        · cases h
      · rintro ⟨h1, h2⟩
        have e : r ≠ n := fun e => z (by rw [← e]; exact h2)
        exact Or.inl ⟨by omega, h2⟩
section PO8
variable {ka : Nat → Nat} {TX : Nat → Nat → (Nat → Int32) → Nat → (Nat → Int32) → Prop} {x y o N0 : Nat}

/-- THE PROOFS OF A DEATH -/
theorem k_proofs {σ : TH} {G : GH} {A : AS} {N : Nat → Nat} (h : rc_ ka TX σ x G A N) (hR : pvR A N) (hN : N 5 ≤ 30) (hr : N 59 ≤ 120) {p : Nat} : ∃ (e : Nat) (τ : TH), f_X11_proofsOf ka σ x (nI p) = some (some (nx_ σ), τ) ∧ ls_ ka τ (nx_ σ) e (fl9_ (sR_ A N p) (N 59)).length (fun i => ga_ G 41 ((fl9_ (sR_ A N p) (N 59)).getD i 0)) ∧ rc_ ka TX τ x G A N ∧ fq_ (fun q => q = ka 200) σ τ ∧ nx_ τ ≤ nx_ σ + 122 ∧ sl_ τ ≤ sl_ σ + 803 := by
  have hx := rc_x h
  have hw := h.1.1
  have c41 : gc_ G 41 = N 59 := by
    have := h.2.2.1
    unfold cg_ at this
    simp only [this]
  have rcT : ∀ {τ}, fq_ (fun q => q = ka 200) σ τ → rc_ ka TX τ x G A N := fun hf => rc_gen2 h hf (sh_fq h.1 hf) h.2.2.1 [] (fun r _ => ⟨rfl, fun _ => rfl⟩) h.2.1.1 (fun q hq => Or.inr hq) (fun r i m _ h9 => h9) (fun r i hd _ => absurd hd List.not_mem_nil)
  have n0 : kd_ σ (nx_ σ) = 0 := wf_0 hw (Nat.le_refl _)
  obtain ⟨s4, hs4⟩ : ∃ s4, s4 = sr_ (si_ (nw_ σ 1 0 3) 0 (nx_ σ) 0) 1 (nx_ σ) (some (ka 200)) := ⟨_, rfl⟩
  have f4 : fq_ (fun q => q = ka 200) σ s4 := by
    rw [hs4]
    exact fq_srn (fq_sin (fq_nw hw (by decide)) (Nat.le_refl _)) (Nat.le_refl _)
  have k200 : kd_ s4 (ka 200) = 0 := fq_k0 f4 hw h.2.1.2.2 h.2.1.2.1
  have l0 : ls_ ka s4 (nx_ σ) (ka 200) 0 (fun i => ga_ G 41 (([] : List Nat).getD i 0)) := by
    refine ⟨?_, ?_, ?_, by decide, Or.inr ⟨rfl, k200, rfl⟩, fun i hi => absurd hi (Nat.not_lt_zero _)⟩
    · rw [hs4]; exact kd_nw σ 1 0 3
    · rw [hs4]
      show up2_ (fi_ (nw_ σ 1 0 3)) 0 (nx_ σ) 0 2 (nx_ σ) = nI 0
      rw [up2_c (by decide)]
      exact if_pos rfl
    · rw [hs4]; exact up2_s
  have key : ∃ q, f_X11_proofsOf_b10 ka fu_ s4 x (nI p) (some (nx_ σ)) (nI 0) = some q ∧ ∃ (e : Nat) (τ : TH), q = (some (nx_ σ), τ) ∧ ls_ ka τ (nx_ σ) e (fl9_ (sR_ A N p) (N 59)).length (fun i => ga_ G 41 ((fl9_ (sR_ A N p) (N 59)).getD i 0)) ∧ fq_ (fun q => q = ka 200) σ τ ∧ nx_ τ ≤ nx_ σ + 122 ∧ sl_ τ ≤ sl_ σ + 803 := by
    refine lpe_ (F := fun f (s : TH) k => f_X11_proofsOf_b10 ka f s x (nI p) (some (nx_ σ)) k) (N 59) (fun k τ => ∃ e, ls_ ka τ (nx_ σ) e (fl9_ (sR_ A N p) k).length (fun i => ga_ G 41 ((fl9_ (sR_ A N p) k).getD i 0)) ∧ fq_ (fun q => q = ka 200) σ τ ∧ nx_ τ ≤ nx_ σ + 1 + (fl9_ (sR_ A N p) k).length ∧ ((kd_ τ e = 24 ∧ 10 ≤ ln_ τ e ∧ ln_ τ e ≤ 200 ∧ nx_ σ < e ∧ sl_ τ ≤ sl_ σ + 3 + 4 * ln_ τ e) ∨ (e = ka 200 ∧ kd_ τ e = 0 ∧ sl_ τ = sl_ σ + 3))) _ (fun f k τ hk hI => ?_) (fun f τ hI => ?_) (by omega) s4 ⟨ka 200, l0, f4, ?_, Or.inr ⟨rfl, k200, ?_⟩⟩
    · obtain ⟨e, i1, i2, i3, i4⟩ := hI
      have hr0 := rcT i2
      have hl4 := rc_l4 hr0 (by omega)
      obtain ⟨r3, r3k⟩ := rc_r1203 hr0
      obtain ⟨p1, ⟨q0, q1, q2, q3, q4, q7, q8⟩, -⟩ := k_rep hr0 hk
      have hkd : kd_ τ (ga_ G 41 k) = 9 := p1
      have f9 : fi_ τ 809 (ga_ G 41 k) = aV A 68 k := q8
      have po := k_personOf hr0 hR hN hk hr
      have st : f_X11_proofsOf_b10 ka (f + 1) τ x (nI p) (some (nx_ σ)) (nI k) = (if aV A 68 k = 0 then (if pe9_ A N k = nI p then (bd_ (f_Jx4a65c_add_9ea2d ka τ (nx_ σ) (some (ga_ G 41 k))) fun x18 s19 => f_X11_proofsOf_b10 ka f s19 x (nI p) (some (nx_ σ)) (nI (k + 1))) else f_X11_proofsOf_b10 ka f τ x (nI p) (some (nx_ σ)) (nI (k + 1))) else f_X11_proofsOf_b10 ka f τ x (nI p) (some (nx_ σ)) (nI (k + 1))) := by
        rw [f_X11_proofsOf_b10, gt_t (rc_x hr0), lt_e, r3, nn_s, gt_t r3k, l_size hl4, bd_s, if_neg (nI_ge hk (by omega)), lt_e, r3, nn_s, gt_t r3k, l_get hl4 hk, bd_s, gt_t (show Option.elim (some (ga_ G 41 k)) 9 (kd_ τ) = 9 from hkd), nn_s, gt_t hkd, lt_e, f9]
        unfold f_X11_proofsOf_b59
        by_cases z1 : aV A 68 k = 0
        · rw [if_pos z1, if_pos z1, po, bd_s]
          by_cases z2 : pe9_ A N k = nI p
          · rw [if_pos z2, if_pos z2, nn_s, gt_t i1.1]
            simp only [lt_e, nI_1]
          · rw [if_neg z2, if_neg z2, lt_e, nI_1]
        · rw [if_neg z1, if_neg z1, lt_e, nI_1]
      have fs : fl9_ (sR_ A N p) (k + 1) = fl9_ (sR_ A N p) k ++ (if sR_ A N p k = true then [k] else []) := rfl
      have lc : (fl9_ (sR_ A N p) k).length ≤ k := by rw [fl9_len]; exact cn_le _ _
      by_cases z : sR_ A N p k = true
      · have z' : aV A 68 k = 0 ∧ pe9_ A N k = nI p := by simpa [sR_] using z
        obtain ⟨e1, τ2, a1, a2, a3, a4, a5⟩ := l_addS (ka := ka) i2.2.1 i1 (by omega) (b := ga_ G 41 k) (by rw [hkd]; decide)
        rw [fs, if_pos z]
        have e200 : ka 200 < nx_ σ := h.2.1.2.2
        have nkE : nx_ σ ≤ e ∨ e = ka 200 := by
          rcases i4 with ⟨-, -, -, y, -⟩ | ⟨y, -⟩
          · exact Or.inl (by omega)
          · exact Or.inr y
        have f2 : fq_ (fun q => q = ka 200) σ τ2 := by
          refine ⟨tl_tr i2.1 a3.1, a3.2.1, fun q hq hT => ?_⟩
          have ze : q ≠ e := fun ze => by
            rcases i4 with ⟨-, -, -, y, -⟩ | ⟨y1, -⟩
            · omega
            · exact hT (ze.trans y1)
          exact (a3.2.2 q (Nat.lt_of_lt_of_le hq i2.1.1) (fun w => w.elim (by omega) ze)).trans (i2.2.2 q hq hT)
        refine ⟨τ2, ?_, e1, ?_, f2, ?_, ?_⟩
        · show f_X11_proofsOf_b10 ka (f + 1) τ x (nI p) (some (nx_ σ)) (nI k) = _
          rw [st, if_pos z'.1, if_pos z'.2, a1, bd_s]
        · rw [List.length_append]
          obtain ⟨b1, b2, b3, b4, b5, b6⟩ := a2
          refine ⟨b1, b2, b3, b4, b5, fun i hi => ?_⟩
          have hi : i < (fl9_ (sR_ A N p) k).length + 1 := hi
          have q := b6 i hi
          dsimp only at q
          by_cases zi : i = (fl9_ (sR_ A N p) k).length
          · rw [if_pos zi] at q
            show ar_ τ2 e1 i = some (ga_ G 41 ((fl9_ (sR_ A N p) k ++ [k]).getD i 0)) ∧ 0 < kd_ τ2 (ga_ G 41 ((fl9_ (sR_ A N p) k ++ [k]).getD i 0)) ∧ kd_ τ2 (ga_ G 41 ((fl9_ (sR_ A N p) k ++ [k]).getD i 0)) < 18
            rw [zi, gn_last]
            rw [zi] at q
            exact q
          · rw [if_neg zi] at q
            show ar_ τ2 e1 i = some (ga_ G 41 ((fl9_ (sR_ A N p) k ++ [k]).getD i 0)) ∧ 0 < kd_ τ2 (ga_ G 41 ((fl9_ (sR_ A N p) k ++ [k]).getD i 0)) ∧ kd_ τ2 (ga_ G 41 ((fl9_ (sR_ A N p) k ++ [k]).getD i 0)) < 18
            rw [gn_app (by omega)]
            exact q
        · rw [List.length_append]
          show nx_ τ2 ≤ nx_ σ + 1 + ((fl9_ (sR_ A N p) k).length + 1)
          rcases a5 with ⟨-, -, y, -⟩ | ⟨-, y, -⟩
          · omega
          · omega
        · left
          rcases a5 with ⟨y1, y2, y3, y4, y5⟩ | ⟨y1, y2, y3, y4⟩
          · rcases i4 with ⟨w1, w2, w3, w4, w5⟩ | ⟨w1, w2, w3⟩
            · rw [y5, y1, y4]
              exact ⟨y1 ▸ a4, w2, w3, w4, w5⟩
            · rw [w2] at y2; cases y2
          · have hi2 := i2.1.1
            have nxl : nx_ σ < nx_ τ := kd_ltn i2.2.1 i1.1 (by decide)
            rcases y4 with ⟨w1, w2, w3⟩ | ⟨w1, w2⟩
            · rcases i4 with ⟨v1, v2, v3, v4, v5⟩ | ⟨v1, v2, v3⟩
              · rw [y3, w3]
                have m2 : max 1 ((fl9_ (sR_ A N p) k).length / 2) = (fl9_ (sR_ A N p) k).length / 2 := Nat.max_eq_right (by omega)
                rw [m2]
                exact ⟨a4, by omega, by omega, by omega, by omega⟩
              · rw [v2] at w1; cases w1
            · rcases i4 with ⟨v1, v2, v3, v4, v5⟩ | ⟨v1, v2, v3⟩
              · rw [v1] at w1; cases w1
              · rw [y3, w2]
                exact ⟨a4, by omega, by omega, by omega, by omega⟩
      · have z' : ¬ (aV A 68 k = 0 ∧ pe9_ A N k = nI p) := by simpa [sR_] using z
        rw [fs, if_neg z, List.append_nil]
        refine ⟨τ, ?_, e, i1, i2, i3, i4⟩
        show f_X11_proofsOf_b10 ka (f + 1) τ x (nI p) (some (nx_ σ)) (nI k) = _
        rw [st]
        by_cases z1 : aV A 68 k = 0
        · rw [if_pos z1, if_neg (fun q => z' ⟨z1, q⟩)]
        · rw [if_neg z1]
    · obtain ⟨e, i1, i2, i3, i4⟩ := hI
      have hr0 := rcT i2
      have hl4 := rc_l4 hr0 (by omega)
      obtain ⟨r3, r3k⟩ := rc_r1203 hr0
      have lc : (fl9_ (sR_ A N p) (N 59)).length ≤ N 59 := by rw [fl9_len]; exact cn_le _ _
      refine ⟨(some (nx_ σ), τ), ?_, e, τ, rfl, i1, i2, by omega, ?_⟩
      · show f_X11_proofsOf_b10 ka (f + 1) τ x (nI p) (some (nx_ σ)) (nI (N 59)) = _
        rw [f_X11_proofsOf_b10, gt_t (rc_x hr0), lt_e, r3, nn_s, gt_t r3k, l_size hl4, bd_s, if_pos (nI_le (Nat.le_refl _) (by omega))]
      · rcases i4 with ⟨-, -, y3, -, y5⟩ | ⟨-, -, y⟩
        · omega
        · omega
    · rw [hs4]
      show nx_ σ + 1 ≤ _
      exact Nat.le_add_right _ _
    · rw [hs4]
      rfl
  obtain ⟨q, q1, e, τ, rfl, q2, q3, q4, q5⟩ := key
  refine ⟨e, τ, ?_, q2, rcT q3, q3, q4, q5⟩
  unfold f_X11_proofsOf f_Jx4a65c_init_da8c8 f_Jxc12de_init_da8c8 f_Jxa1e45_init_da8c8
  rw [gt_t n0, lt_e, lt_e, bd_s, gt_t (show kd_ (nw_ σ 1 0 3) (nx_ σ) = 1 from kd_nw σ 1 0 3), lt_e, bd_s, gt_t (show kd_ (si_ (nw_ σ 1 0 3) 0 (nx_ σ) 0) (nx_ σ) = 1 from kd_nw σ 1 0 3), lt_e, bd_s, ← hs4]
  exact q1
end PO8
