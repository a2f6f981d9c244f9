/-! CALLS: may. Written by wip/b/mk99zl.py. -/
/-- any of m from i on -/
def af9_ (q : Nat → Bool) : Nat → Nat → Bool
  | 0, _ => false
  | m + 1, i => q i || af9_ q m (i + 1)
/-- what a rule says -/
def vr9_ (A : AS) (N : Nat → Nat) (p i : Nat) : Bool := match pR_ (ER_ A N p) (w9_ (aM A i) (aR A i)) with
  | .inr x => x.2.2
  | .inl _ => false
def pr9_ (A : AS) (N : Nat → Nat) (p : Nat) : Bool := decide (0 < cn_ (sR_ A N p) (N 59)) && af9_ (vr9_ A N p) (N 58) 0
section IP9
variable {ka : Nat → Nat} {x : Nat} {σ : TH} {G : GH} {A : AS} {N : Nat → Nat}
theorem k_ruleT (h : rc_ ka TXp_ σ x G A N) {i : Nat} (hi : i < N 58) : kd_ σ (ga_ G 39 i) = 11 ∧ fr_ σ 1000 (ga_ G 39 i) = some (ga_ G 40 i) ∧ kd_ σ (ga_ G 40 i) = 20 ∧ TXp_ 1 (aM A i) (aR A i) (ln_ σ (ga_ G 40 i)) (ai_ σ (ga_ G 40 i)) := by
  obtain ⟨g1, g2⟩ := rc_39 h
  exact ⟨(h.1.2 39 i (by rw [g1]; exact hi)).1, h.2.2.2 39 i (by rw [g1]; exact hi), (h.1.2 40 i (by rw [g2]; exact hi)).1, h.2.2.2 40 i (by rw [g2]; exact hi)⟩
theorem k_isProvenL (h : rc_ ka TXp_ σ x G A N) (hN58 : N 58 ≤ 12) {p : Nat} : ∀ (m i f : Nat) (F Y : Nat → Int32), i + m = N 58 → m < f → KN_ (ER_ A N p) true F Y → ∃ F', f_X11_isProven_b17 f (kp_ σ G F (ai_ σ (ga_ G 16 0)) Y) x (nI i) = some (bi_ (af9_ (vr9_ A N p) m i = true), kp_ σ G F' (ai_ σ (ga_ G 16 0)) Y) := by
  have hX := rc_o28 h
  have hrc : ∀ {F Y}, rc_ ka TXp_ (kp_ σ G F (ai_ σ (ga_ G 16 0)) Y) x G A N := rc_kp h hX
  intro m
  induction m with
  | zero =>
    intro i f F Y hi hf hK
    obtain ⟨g, rfl⟩ : ∃ g, f = g + 1 := ⟨f - 1, by omega⟩
    have hl3 := rc_l3 (hrc (F := F) (Y := Y)) (by omega)
    obtain ⟨r2, r2k⟩ := rc_r1202 (hrc (F := F) (Y := Y))
    refine ⟨F, ?_⟩
    rw [f_X11_isProven_b17, gt_t (rc_x hrc), lt_e, r2, nn_s, gt_t r2k, l_size hl3, bd_s, if_pos (nI_le (by omega) (by omega))]
    rfl
  | succ m ih =>
    intro i f F Y hi hf hK
    obtain ⟨g, rfl⟩ : ∃ g, f = g + 1 := ⟨f - 1, by omega⟩
    have hl3 := rc_l3 (hrc (F := F) (Y := Y)) (by omega)
    obtain ⟨r2, r2k⟩ := rc_r1202 (hrc (F := F) (Y := Y))
    obtain ⟨r9, r9k⟩ := rc_r1209 (hrc (F := F) (Y := Y))
    obtain ⟨t1, t2, t3, t4⟩ := k_ruleT (hrc (F := F) (Y := Y)) (i := i) (by omega)
    obtain ⟨hn, S, S1, S2, S3, S4, S5⟩ := tx_R t4
    obtain ⟨X, X1, X2⟩ := S5 (ER_ A N p)
    have e1 : (fun c => fi_ (kp_ σ G F (ai_ σ (ga_ G 16 0)) Y) c (ga_ G 14 0)) = F := funext fun c => kh_fi c
    have e2 : ai_ (kp_ σ G F (ai_ σ (ga_ G 16 0)) Y) (ga_ G 15 0) = Y := funext fun j => kh_K (hP_ne (k_hP h)) j
    have e3 : ai_ (kp_ σ G F (ai_ σ (ga_ G 16 0)) Y) (ga_ G 16 0) = ai_ σ (ga_ G 16 0) := funext fun j => kh_S j
    have n4 := pR_4 X1
    rw [X2] at n4
    obtain ⟨le, re, F', X', q1, q2, q3⟩ := k_run (E := ER_ A N p) (r := true) (keep := false) (S := S) (Z := ga_ G 40 i) (k_hP (hrc (F := F) (Y := Y))) ⟨t3, S1, by omega⟩ (fun j hj => S3 j (by omega)) (fun s hs => ⟨S4 s hs, fun z => absurd z (n4 s hs).2.1, fun _ => (n4 s hs).2.2 rfl⟩) (by rw [e1, e2]; exact hK) 0 rfl
    have l9 : S.length ≤ fu_ := Nat.le_of_lt (Nat.lt_of_le_of_lt (show S.length ≤ 1000 by omega) (by decide))
    have qt := (qr_R X1 (f := fu_) (by rw [X2]; exact l9) le re).1
    rw [X2] at qt
    have ev : vr9_ A N p i = X.2.2 := by
      unfold vr9_
      rw [X1]
    rw [qt, ← ev] at q1
    have hX' : X' = ai_ σ (ga_ G 16 0) := (q2.2.2.2 rfl).trans e3
    have hkk : kh_ (kp_ σ G F (ai_ σ (ga_ G 16 0)) Y) (ga_ G 14 0) (ga_ G 16 0) (ga_ G 15 0) F' X' (ai_ (kp_ σ G F (ai_ σ (ga_ G 16 0)) Y) (ga_ G 15 0)) = kp_ σ G F' (ai_ σ (ga_ G 16 0)) Y := by
      rw [e2, hX']
      exact kh_kh
    rw [hkk] at q1
    have ex : f_X11_isProven_b17 (g + 1) (kp_ σ G F (ai_ σ (ga_ G 16 0)) Y) x (nI i) = if bb9_ (vr9_ A N p i) = 0 then f_X11_isProven_b17 g (kp_ σ G F' (ai_ σ (ga_ G 16 0)) Y) x (nI (i + 1)) else some (1, kp_ σ G F' (ai_ σ (ga_ G 16 0)) Y) := by
      rw [f_X11_isProven_b17, gt_t (rc_x hrc), lt_e, r2, nn_s, gt_t r2k, l_size hl3, bd_s, if_neg (nI_ge (by omega) (by omega)), lt_e, r9, lt_e, r2, nn_s, gt_t r2k, l_get hl3 (by omega), bd_s, gt_t (show Option.elim (some (ga_ G 39 i)) 11 (kd_ (kp_ σ G F (ai_ σ (ga_ G 16 0)) Y)) = 11 from t1), nn_s, gt_t t1, lt_e, t2, nn_s, gt_t r9k, q1, bd_s]
      by_cases z : bb9_ (vr9_ A N p i) = 0
      · rw [if_pos z, if_pos z, lt_e, nI_1]
      · rw [if_neg z, if_neg z]
    rw [ex]
    have st : af9_ (vr9_ A N p) (m + 1) i = (vr9_ A N p i || af9_ (vr9_ A N p) m (i + 1)) := rfl
    rw [st]
    cases hv : vr9_ A N p i with
    | true =>
      rw [if_neg (by decide)]
      exact ⟨F', by rw [bi_t (show (true || af9_ (vr9_ A N p) m (i + 1)) = true from rfl)]⟩
    | false =>
      rw [if_pos (show bb9_ false = 0 from rfl)]
      have ih := ih (i + 1) g F' Y (by omega) (by omega) ⟨hK.1, fun z => by cases z⟩
      exact ih
theorem k_isProven {a e p : Nat} (h : rc_ ka TXp_ σ x G A N) (hk : kf_ σ x G A N p) (hR : pvR A N) (hr : N 59 ≤ 120) (hN58 : N 58 ≤ 12) (hl : ls_ ka σ a e (fl9_ (sR_ A N p) (N 59)).length (fun i => ga_ G 41 ((fl9_ (sR_ A N p) (N 59)).getD i 0))) (hna : a ≠ ga_ G 14 0 ∧ e ≠ ga_ G 15 0 ∧ e ≠ ga_ G 16 0) : ∃ F' Y', f_X11_isProven σ x (some (ga_ G 31 p)) (some a) = some (bi_ (pr9_ A N p = true), kp_ σ G F' (ai_ σ (ga_ G 16 0)) Y') := by
  have hself : kp_ σ G (fun c => fi_ σ c (ga_ G 14 0)) (ai_ σ (ga_ G 16 0)) (ai_ σ (ga_ G 15 0)) = σ := kh_self
  have lc : (fl9_ (sR_ A N p) (N 59)).length ≤ 120 := by
    rw [fl9_len]
    exact Nat.le_trans (cn_le _ _) hr
  unfold pr9_
  rw [← fl9_len]
  unfold f_X11_isProven f_Jx4a65c_isEmpty_aae02 f_Jx4a65c_isEmpty_aae02_b12
  rw [nn_s, gt_t hl.1, gt_t hl.1, lt_e, hl.2.1]
  by_cases z : (fl9_ (sR_ A N p) (N 59)).length = 0
  · refine ⟨fun c => fi_ σ c (ga_ G 14 0), ai_ σ (ga_ G 15 0), ?_⟩
    rw [z, if_pos (show nI 0 = (0 : Int32) from rfl), gt_t (by decide), bd_s, if_neg (by decide), bi_f (by simp), hself]
  · obtain ⟨F', Y', q1, q2⟩ := k_fillP h hk hR hr hl hna (by omega)
    obtain ⟨F2, q3⟩ := k_isProvenL h hN58 (p := p) (N 58) 0 fu_ F' Y' (by omega) (Nat.lt_of_le_of_lt hN58 (by decide)) q2
    refine ⟨F2, Y', ?_⟩
    rw [if_neg (nI_ne0 (by omega) (by omega)), gt_t (by decide), bd_s, if_pos rfl, gt_t (rc_x h), q1, bd_s, decide_eq_true (show 0 < (fl9_ (sR_ A N p) (N 59)).length by omega)]
    exact q3
end IP9
section MB9
variable {σ : TH} {y : Nat} {G : GH} {A : AS} {N : Nat → Nat}
theorem m_mayBeTold (h : mr_ σ y G A N) (hT : pvT A N) (hR : pvR A N) {p : Nat} (hp : p < 30) (hX : ∀ i, i < N 58 → ∃ len arr, TXp_ 1 (aM A i) (aR A i) len arr) : ∃ τ, f_X15_mayBeTold σ y (nI p) = some (bi_ (pr9_ A N p = true), τ) ∧ mr_ τ y G A N ∧ fq_ (rU_ y G) σ τ ∧ (nx_ τ = nx_ σ ∧ sl_ τ = sl_ σ) ∧ ∀ j, j ∈ DS → fi_ τ (1600 + j) y = fi_ σ (1600 + j) y := by
  obtain ⟨e58, hN58⟩ := mo_n h.1 (j := 58) (cj := 1658) (m := 12) (by decide)
  obtain ⟨e59, hN59⟩ := mo_n h.1 (j := 59) (cj := 1659) (m := 120) (by decide)
  have hy := mo_y h.1
  -- the rules
  have rules : ∀ (m i f : Nat) (τ : TH), i + m = N 58 → m < f → mr_ τ y G A N → fq_ (rU_ y G) σ τ → (nx_ τ = nx_ σ ∧ sl_ τ = sl_ σ) → (∀ j, j ∈ DS → fi_ τ (1600 + j) y = fi_ σ (1600 + j) y) → ∃ τ', f_X15_mayBeTold_b42 f τ y (nI p) 1 0 (nI i) = some (bi_ (af9_ (vr9_ A N p) m i = true), τ') ∧ mr_ τ' y G A N ∧ fq_ (rU_ y G) σ τ' ∧ (nx_ τ' = nx_ σ ∧ sl_ τ' = sl_ σ) ∧ ∀ j, j ∈ DS → fi_ τ' (1600 + j) y = fi_ σ (1600 + j) y := by
    intro m
    induction m with
    | zero =>
      intro i f τ hi hf h1 h2 h3 h4
      obtain ⟨g, rfl⟩ : ∃ g, f = g + 1 := ⟨f - 1, by omega⟩
      have e58 := (mo_n h1.1 (j := 58) (cj := 1658) (m := 12) (by decide)).1
      refine ⟨τ, ?_, h1, h2, h3, h4⟩
      rw [f_X15_mayBeTold_b42, gt_t (mo_y h1.1), lt_e, e58, if_pos (nI_le (by omega) (by omega))]
      rfl
    | succ m ih =>
      intro i f τ hi hf h1 h2 h3 h4
      obtain ⟨g, rfl⟩ : ∃ g, f = g + 1 := ⟨f - 1, by omega⟩
      have e58 := (mo_n h1.1 (j := 58) (cj := 1658) (m := 12) (by decide)).1
      obtain ⟨a60, b60, c60⟩ := mo_a h1.1 (j := 60) (cj := 1660) (K := 27) (n := 12) (by decide)
      obtain ⟨p1, p2, p3, p4, p5, p6⟩ := mr_R h1 (k := i) (by omega)
      obtain ⟨len, arr, hXi⟩ := hX i (by omega)
      obtain ⟨hn, S, S1, S2, S3, S4, S5⟩ := tx_R hXi
      obtain ⟨X, X1, X2⟩ := S5 (ER_ A N p)
      have hb : tbx_ τ G (ga_ G 103 i) (aM A i) (w9_ (aM A i) (aR A i)) := by
        have hw := w9_wn (B := aR A i) hn
        refine ⟨⟨p4, by rw [p2]; exact Nat.le_refl _, ?_⟩, fun j hj => ⟨?_, hw.2.1 j hj⟩, hw.1, hn⟩
        · have g1 : 0 < gc_ G 27 := by rw [(h1.1.2.2.1 27 (by decide)).1]; decide
          exact sh_ne h1.1.1 (by rw [h1.1.2.1.2.2.1.2.2.2.1]; omega) g1 (Or.inl (by decide))
        · rw [p1]
          show _ = nI (if j < aM A i then _ else _)
          rw [if_pos hj]
          exact (and255 _).1
      have gg := m_ruleHolds (E := ER_ A N p) (p := p) h1.1.1.1 h1 hb (ve_of (Or.inr ⟨rfl, rfl⟩) hT hR hp)
      rw [X1] at gg
      obtain ⟨u, τ', g1, g2, g3, g4⟩ := gg
      have ev : vr9_ A N p i = X.2.2 := by
        unfold vr9_
        rw [X1]
      have lz : Int32.ofNat (ln_ τ (ga_ G 103 i)) = nI (aM A i) := by rw [p2]; rfl
      have i12 := ix9_ (k := i) (M := 12) (by omega) (by omega)
      have ex : f_X15_mayBeTold_b42 (g + 1) τ y (nI p) 1 0 (nI i) = f_X15_mayBeTold_b42 g τ' y (nI p) 1 (bi_ (vr9_ A N p i = true)) (nI (i + 1)) := by
        rw [f_X15_mayBeTold_b42, gt_t (mo_y h1.1), lt_e, e58, if_neg (nI_ge (by omega) (by omega)), if_neg (by decide), if_pos rfl, lt_e, a60, nn_s, gt_t b60, nI_clamp (by omega), c60, gt_t i12, lt_e, p5, nn_s, gt_t p3, lt_e, p6, lt_e, nn_s, gt_t b60, c60, gt_t i12, lt_e, p5, nn_s, gt_t p3, lt_e, p6, nn_s, gt_t p4, lt_e, lz, g1, bn9_s, lt_e, nI_1, g4, ev]
      have h2' := fq_tr h2 g2.2.1
      have h3' : nx_ τ' = nx_ σ ∧ sl_ τ' = sl_ σ := ⟨g2.2.2.1.1.trans h3.1, g2.2.2.1.2.trans h3.2⟩
      have h4' : ∀ j, j ∈ DS → fi_ τ' (1600 + j) y = fi_ σ (1600 + j) y := fun j hj => (g2.2.2.2.2.2.2 j hj).trans (h4 j hj)
      rw [ex]
      have st : af9_ (vr9_ A N p) (m + 1) i = (vr9_ A N p i || af9_ (vr9_ A N p) m (i + 1)) := rfl
      rw [st]
      cases hv : vr9_ A N p i with
      | false =>
        rw [bi_f (show ¬ (false = true) by decide)]
        exact ih (i + 1) g τ' (by omega) (by omega) g2.1 h2' h3' h4'
      | true =>
        refine ⟨τ', ?_, g2.1, h2', h3', h4'⟩
        obtain ⟨g', rfl⟩ : ∃ g', g = g' + 1 := ⟨g - 1, by omega⟩
        have e58 := (mo_n g2.1.1 (j := 58) (cj := 1658) (m := 12) (by decide)).1
        rw [bi_t (show true = true from rfl), f_X15_mayBeTold_b42, gt_t (mo_y g2.1.1), lt_e, e58]
        unfold f_X15_mayBeTold_b92
        by_cases z : nI (N 58) ≤ nI (i + 1)
        · rw [if_pos z, gt_t (by decide)]
          rfl
        · rw [if_neg z, if_neg (by decide), if_neg (by decide), gt_t (by decide)]
          rfl
  -- the reports
  have fin : ∃ τ', f_X15_mayBeTold_b42 fu_ σ y (nI p) (bi_ (0 < cn_ (sR_ A N p) (N 59))) 0 0 = some (bi_ (pr9_ A N p = true), τ') ∧ mr_ τ' y G A N ∧ fq_ (rU_ y G) σ τ' ∧ (nx_ τ' = nx_ σ ∧ sl_ τ' = sl_ σ) ∧ ∀ j, j ∈ DS → fi_ τ' (1600 + j) y = fi_ σ (1600 + j) y := by
    unfold pr9_
    by_cases z : 0 < cn_ (sR_ A N p) (N 59)
    · rw [bi_t z, decide_eq_true z]
      exact rules (N 58) 0 fu_ σ (by omega) (Nat.lt_of_le_of_lt hN58 (by decide)) h (fq_rf h.1.1.1) ⟨rfl, rfl⟩ (fun _ _ => rfl)
    · rw [bi_f z, decide_eq_false z]
      refine ⟨σ, ?_, h, fq_rf h.1.1.1, ⟨rfl, rfl⟩, fun _ _ => rfl⟩
      have e : ∀ f, f_X15_mayBeTold_b42 (f + 1) σ y (nI p) 0 0 0 = some (0, σ) := fun f => by
        rw [f_X15_mayBeTold_b42, gt_t hy, lt_e]
        unfold f_X15_mayBeTold_b92
        by_cases w : fi_ σ 1658 y ≤ 0
        · rw [if_pos w, gt_t (by decide)]
        · rw [if_neg w, if_pos rfl, gt_t (by decide)]
      exact e 39999
  obtain ⟨τ', q1, q2⟩ := fin
  refine ⟨τ', ?_, q2⟩
  unfold f_X15_mayBeTold
  refine lpk_ (F := fun f (a : Int32) k => f_X15_mayBeTold_b4 f σ y (nI p) a k) 0 (N 59) (Nat.zero_le _) (fun i => bi_ (0 < cn_ (sR_ A N p) i)) (fun f i _ hi => ?_) (fun f => ?_) (by omega)
  · show f_X15_mayBeTold_b4 (f + 1) σ y (nI p) (bi_ (0 < cn_ (sR_ A N p) i)) (nI i) = f_X15_mayBeTold_b4 f σ y (nI p) (bi_ (0 < cn_ (sR_ A N p) (i + 1))) (nI (i + 1))
    have sp := m_speaks h hT hR hi p
    rw [f_X15_mayBeTold_b4, gt_t hy, lt_e, e59, if_neg (nI_ge hi (by omega))]
    unfold f_X15_mayBeTold_b25 f_X15_mayBeTold_b30
    have st := cn_s (sR_ A N p) i
    by_cases z : 0 < cn_ (sR_ A N p) i
    · rw [bi_t z, if_neg (by decide), lt_e, nI_1, bi_t (show 0 < cn_ (sR_ A N p) (i + 1) by omega)]
    · rw [bi_f z, if_pos rfl, sp, bd_s]
      by_cases z2 : sR_ A N p i = true
      · rw [if_pos z2] at st
        rw [bi_t z2, if_neg (by decide), lt_e, nI_1, bi_t (show 0 < cn_ (sR_ A N p) (i + 1) by omega)]
      · rw [if_neg z2] at st
        rw [bi_f z2, if_pos rfl, lt_e, nI_1, bi_f (show ¬ 0 < cn_ (sR_ A N p) (i + 1) by omega)]
  · show f_X15_mayBeTold_b4 (f + 1) σ y (nI p) (bi_ (0 < cn_ (sR_ A N p) (N 59))) (nI (N 59)) = _
    rw [f_X15_mayBeTold_b4, gt_t hy, lt_e, e59, if_pos (nI_le (Nat.le_refl _) (by omega))]
    exact q1
end MB9
section MY9
variable {ka : Nat → Nat} {x y o N0 : Nat}

/-- what a question of proofs needs, on both sides -/
theorem pf_end {n : Nat} {c m τ : TH} {GC GM : GH} {N : Nat → Nat} {F Y : Nat → Int32} (k2 : rc_ ka TXp_ c x GC (as_ m y GM) N) (hf : fq_ (fun q => q = ka 200) c τ) (hr : rc_ ka TXp_ τ x GC (as_ m y GM) N) (v : Int32) (hv : v ≠ 4) : rc_ ka TXp_ (si_ (kp_ τ GC F (ai_ τ (ga_ GC 16 0)) Y) 1214 x v) x GC (s3_ (aS (as_ m y GM)) v, (as_ m y GM).2) N ∧ fq_ (fun q => (q = ka 200 ∨ q = ga_ GC 14 0 ∨ q = ga_ GC 16 0 ∨ q = ga_ GC 15 0) ∨ q = x) c (si_ (kp_ τ GC F (ai_ τ (ga_ GC 16 0)) Y) 1214 x v) := by
  have h1 : rc_ ka TXp_ (kp_ τ GC F (ai_ τ (ga_ GC 16 0)) Y) x GC (as_ m y GM) N := rc_kp hr (rc_o28 hr)
  have h2 : fq_ (fun q => q = ga_ GC 14 0 ∨ q = ga_ GC 16 0 ∨ q = ga_ GC 15 0) τ (kp_ τ GC F (ai_ τ (ga_ GC 16 0)) Y) := kh_fq hr.1.1
  exact ⟨rc_tr h1 _ v hv rfl rfl s3_l, fqi (fq_tr (fq_w hf (fun _ q => Or.inl (Or.inl q))) (fq_w h2 (fun _ q => Or.inl (Or.inr q)))) (Or.inr rfl)⟩
theorem ok_may : St_may ka x y (inv_ ka TXp_ pv_ x y o N0) := fun n c m a0 hn hI => by
  obtain ⟨GC, GM, N, k1, k2, k3, k4, k5, k6, k7, k8⟩ := id hI
  have hN := (mo_n k1 (j := 5) (cj := 1605) (m := 30) (by decide)).2
  obtain ⟨e6, hN6⟩ := mo_n k1 (j := 6) (cj := 1606) (m := 5257439) (by decide)
  have hb : mr_ (bm_ m c) y GM (as_ m y GM) N := mr_bm (mr_of k1) (Nat.le_of_eq k5.1)
  have hx := rc_x k2
  have hj0 : ∀ j, j ∈ DS → j ≠ 0 := by decide
  have hN58 := (mo_n k1 (j := 58) (cj := 1658) (m := 12) (by decide)).2
  have hN59 := (mo_n k1 (j := 59) (cj := 1659) (m := 120) (by decide)).2
  rcases rg_ a0 (n := N 5) (by omega) with ⟨p, hp, rfl⟩ | hout
  · have hH := k3.2.1
    obtain ⟨p1, p2⟩ := k_person1 k2 hN hp
    obtain ⟨pk, pa, pb, pc, h15⟩ := k_per k2 hp
    have dd := k_isDead (σ := c) p2
    rw [pc] at dd
    by_cases dead : 0 ≤ aV (as_ m y GM) 12 p
    · rw [bi_t dead] at dd
      refine ⟨-1, si_ c 1214 x 1, tr_ (si_ (bm_ m (si_ c 1214 x 1)) 1600 y 0) y 1, ?_, ?_, no_ pv_S hI 1 (by decide)⟩
      · unfold f_X11_may f_X11_may_b17
        rw [gt_t hx, p1, bd_s, oc_s, gt_t p2, dd, bd_s, if_neg (by decide), gt_t hx, k_refused hx, bd_s]
      · have h1 := mr_si (mr_bm (z := si_ c 1214 x 1) (mr_of k1) (Nat.le_of_eq k5.1)) (j := 0) (c := 1600) (by decide) 0
        unfold f_X15_may
        rw [gt_t (show kd_ (bm_ m (si_ c 1214 x 1)) y = 17 from mo_yb k1), lt_e]
        generalize si_ (bm_ m (si_ c 1214 x 1)) 1600 y 0 = σ at h1 ⊢
        obtain ⟨a15, b15, c15⟩ := mo_a h1.1 (j := 15) (cj := 1615) (K := 22) (n := 30) (by decide)
        have v15 := mr_V h1 (j := 15) (by decide) p
        have h15' : aV (as_ m y GM) 15 p = 1 := by rw [h15, bi_t dead]
        rw [h15'] at v15
        rw [m_isPerson1 h1.1 hp, bd_s, if_neg (by decide), lt_e, a15, nn_s, gt_t b15, nI_clamp (by omega), c15, gt_t (ix9_ (k := p) (M := 30) (by omega) (by omega)), lt_e, v15, if_neg (by decide)]
        unfold f_X15_may_b22
        rw [gt_t (mo_y h1.1), m_refused (mo_y h1.1), bd_s]
    · rw [bi_f dead] at dd
      obtain ⟨e, τ, q1, q2, q3, q4, q5, q6⟩ := k_proofs k2 k3.2.2.1 hN hN59 (p := p)
      have hkf : ∀ σ, kf_ σ x GC (as_ m y GM) N p := fun σ => ⟨hp, hN, k3.1, hH, hN6, e6, h15⟩
      have hna : nx_ c ≠ ga_ GC 14 0 ∧ e ≠ ga_ GC 15 0 ∧ e ≠ ga_ GC 16 0 := by
        have l14 := sh_lt k2.1 (show 0 < gc_ GC 14 from rc_1 k2 (by decide))
        have z15 := (q3.1.2 15 0 (rc_1 k2 (by decide))).1
        have z16 := (q3.1.2 16 0 (rc_1 k2 (by decide))).1
        have ke : kd_ τ e = 24 ∨ kd_ τ e = 0 := q2.2.2.2.2.1.elim (fun y => Or.inl y.1) (fun y => Or.inr y.2.1)
        refine ⟨by omega, fun z => ?_, fun z => ?_⟩
        · rw [z, z15] at ke
          revert ke; decide
        · rw [z, z16] at ke
          revert ke; decide
      obtain ⟨F', Y', q7⟩ := k_isProven q3 (hkf τ) k3.2.2.1 hN59 hN58 q2 hna
      obtain ⟨rc1, fc1⟩ := pf_end (F := F') (Y := Y') (n := n) k2 q4 q3 0 (by decide)
      have cl : f_X11_may ka c x (nI p) = some (bi_ (pr9_ (as_ m y GM) N p = true), si_ (kp_ τ GC F' (ai_ τ (ga_ GC 16 0)) Y') 1214 x 0) := by
        have hxk : kd_ (kp_ τ GC F' (ai_ τ (ga_ GC 16 0)) Y') x = 13 := (rc_x q3 : kd_ τ x = 13)
        unfold f_X11_may
        rw [gt_t hx, p1, bd_s, oc_s, gt_t p2, dd, bd_s, if_pos rfl, q1, bd_s, q7, bd_s, k_asN _ bi_01, bd_s, k_granted hxk, bd_s]
      have zC : nx_ m ≤ nx_ (si_ (kp_ τ GC F' (ai_ τ (ga_ GC 16 0)) Y') 1214 x 0) := by
        show nx_ m ≤ nx_ τ
        rw [k5.1]
        exact q4.1.1
      have hb0 := mr_bm (z := si_ (kp_ τ GC F' (ai_ τ (ga_ GC 16 0)) Y') 1214 x 0) (mr_of k1) zC
      have hb1 := mr_si hb0 (j := 0) (c := 1600) (by decide) 0
      obtain ⟨m2, g1, g2, g3, g4, g5⟩ := m_mayBeTold hb1 k3.1 k3.2.2.1 (p := p) (by omega) (fun i hi => ⟨_, _, (k_ruleT k2 hi).2.2.2⟩)
      have rf : f_X15_may (bm_ m (si_ (kp_ τ GC F' (ai_ τ (ga_ GC 16 0)) Y') 1214 x 0)) y (nI p) = some (bi_ (pr9_ (as_ m y GM) N p = true), tr_ m2 y 0) := by
        obtain ⟨a15, b15, c15⟩ := mo_a hb1.1 (j := 15) (cj := 1615) (K := 22) (n := 30) (by decide)
        have v15 := mr_V hb1 (j := 15) (by decide) p
        have h15' : aV (as_ m y GM) 15 p = 0 := by rw [h15, bi_f dead]
        rw [h15'] at v15
        unfold f_X15_may
        rw [gt_t (mo_y hb0.1), lt_e, m_isPerson1 hb1.1 hp, bd_s, if_neg (by decide), lt_e, a15, nn_s, gt_t b15, nI_clamp (by omega), c15, gt_t (ix9_ (k := p) (M := 30) (by omega) (by omega)), lt_e, v15, if_pos rfl, g1, bd_s]
        unfold f_X15_may_b42
        by_cases z : pr9_ (as_ m y GM) N p = true
        · rw [bi_t z, if_neg (by decide), nn_s, gt_t (mo_y g2.1), m_done (mo_y g2.1), bd_s]
        · rw [bi_f z, if_pos rfl, nn_s, gt_t (mo_y g2.1), m_done (mo_y g2.1), bd_s]
      refine ⟨_, _, _, cl, rf, inv_fin hI fc1 ⟨by show nx_ τ ≤ _; omega, by show sl_ τ ≤ _; omega⟩ (U := rU_ y GM) (fqt (fq_tr (fq_si hb0.1.1.1 (Or.inl rfl)) g3) (Or.inl rfl)) ⟨by show nx_ m2 ≤ _; rw [g4.1]; exact Nat.le_add_right _ _, by show sl_ m2 ≤ _; rw [g4.2]; exact Nat.le_add_right _ _⟩ (mr_S (mr_tr g2 0) _) (fun j hj => ?_) rc1 ?_⟩
      · have h0 := hj0 j hj
        show _ = if j = 2 then -1 else if j = 1 then 0 else if j = 0 then 0 else aS (as_ m y GM) j
        unfold tr_
        rw [fi_si]
        by_cases z2 : j = 2
        · subst z2; rw [if_pos rfl]; exact up2_s
        rw [up2_c (by omega), if_neg z2, fi_si]
        by_cases z1 : j = 1
        · subst z1; rw [if_pos rfl]; exact up2_s
        rw [up2_c (by omega), if_neg z1, if_neg h0, g5 j hj, fi_si, up2_c (by omega)]
        rfl
      · exact pv_S _ _ _ k3
  · have p0 := k_person0 k2 hN hout
    refine ⟨-1, si_ c 1214 x 1, tr_ (si_ (bm_ m (si_ c 1214 x 1)) 1600 y 0) y 1, ?_, ?_, no_ pv_S hI 1 (by decide)⟩
    · unfold f_X11_may f_X11_may_b17
      rw [gt_t hx, p0, bd_s, oc_n, gt_t hx, k_refused hx, bd_s]
    · have h1 := mr_si (mr_bm (z := si_ c 1214 x 1) (mr_of k1) (Nat.le_of_eq k5.1)) (j := 0) (c := 1600) (by decide) 0
      unfold f_X15_may
      rw [gt_t (show kd_ (bm_ m (si_ c 1214 x 1)) y = 17 from mo_yb k1), lt_e]
      generalize si_ (bm_ m (si_ c 1214 x 1)) 1600 y 0 = σ at h1 ⊢
      rw [m_isPerson0 h1.1 hout, bd_s, if_pos rfl]
      unfold f_X15_may_b22
      rw [gt_t (mo_y h1.1), m_refused (mo_y h1.1), bd_s]
end MY9
