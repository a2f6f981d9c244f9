/-! THE CLASS'S READER ON THE HEAP: what a token does. Written by wip/b/mk99v.py. -/
section TK9
variable {σ : TH} {R T S K : Nat} {r : Bool} {n : Nat} {m : MM} {a L : Nat} {F X Y : Nat → Int32}
theorem k_emP (hS : hS_ σ R T S K) (h : PR_ r n m a L F X Y) (hL : L < 1024) {p1 p2 : Int32} {s d : Nat} (e1 : p1 = nI s) (e2 : p2 = nI d) (hk : sk9_ r (s, d)) : ∃ F' X', f_X6_emit (kh_ σ R S K F X Y) R p1 p2 = some (nI (mS_ m).length, kh_ σ R S K F' X' Y) ∧ PR_ r n (mst_ m (ms_ m) [(s, d)]) a (L + 1) F' X' Y := by
  have hl : (mS_ m).length ≤ L := h.2.2.2.2.2.1.1
  subst e1 e2
  exact ⟨_, _, k_emit hS h.1.2.1 (by omega) _ _, PR_em h hk⟩
theorem k_failP (hS : hS_ σ R T S K) {p1 p2 : Int32} {f p : Nat} (e1 : p1 = nI f) (e2 : p2 = nI p) (hf : 0 < f ∧ f ≤ 3) : ∃ F', f_X6_fail (kh_ σ R S K F X Y) R p1 p2 = some ((), kh_ σ R S K F' X Y) ∧ ∀ (r : Bool) (n a L : Nat), ou9_ r n (.inl (f, p)) a L F' X Y := by
  subst e1 e2
  exact ⟨_, k_fail hS _ _, fun _ _ _ _ => ⟨rfl, rfl, hf.1, hf.2⟩⟩
theorem mj_mcl (m : MM) : mj_ (mcl_ m) = mj_ m := by
  unfold mcl_
  split <;> rfl
theorem md_mcl (m : MM) : md9_ (mcl_ m) = md9_ m := by
  unfold mcl_
  split <;> rfl
theorem k_closeC (hS : hS_ σ R T S K) (h : PR_ r n m a L F X Y) (hL : L < 1024) : ∃ F' X', f_X6_closeComparison (kh_ σ R S K F X Y) R = some ((), kh_ σ R S K F' X' Y) ∧ PR_ r n (mcl_ m) a (L + 1) F' X' Y := by
  have hs : ms_ m ≤ 11 := h.2.2.2.2.1.1
  unfold f_X6_closeComparison f_X6_closeComparison_b23
  rw [gt_t (k8 hS), lt_e, kh_fi, h.2.1.1]
  by_cases z : ms_ m = 10
  · obtain ⟨F1, X1, e1, h1⟩ := k_emP hS h hL (p1 := 6) (p2 := 0) (s := 6) (d := 0) rfl rfl (sk9_o (by decide) (by decide) (by decide))
    rw [if_pos ((iq9_ (b := 10) (B := 10) rfl (by omega) (by decide)).mpr z), e1, bd_s, lt_e, kh_si]
    refine ⟨_, _, rfl, ?_⟩
    rw [show mcl_ m = mst_ m 11 [(6, 0)] from if_pos z]
    exact PR_st h1 (s := 11) (by decide) (by decide)
  · rw [if_neg (fun q => z ((iq9_ (b := 10) (B := 10) rfl (by omega) (by decide)).mp q))]
    refine ⟨_, _, rfl, ?_⟩
    rw [show mcl_ m = m from if_neg z]
    exact PR_L h (by omega)
theorem k_mayCome (hS : hS_ σ R T S K) (h : PR_ r n m a L F X Y) : f_X6_termMayCome (kh_ σ R S K F X Y) R = some (bi_ (mtc_ (ms_ m) = true), kh_ σ R S K F X Y) := by
  have hs : ms_ m ≤ 11 := h.2.2.2.2.1.1
  unfold f_X6_termMayCome f_X6_termMayCome_b29 f_X6_termMayCome_b34
  rw [gt_t (k8 hS), lt_e, kh_fi, h.2.1.1]
  have key : ∀ s, s < 12 → ((if nI s = (1 : Int32) then (1 : Int32) else if nI s = 2 then 1 else if bi_ ((5 : Int32) ≤ nI s ∧ nI s ≤ 7) = 0 then 0 else 1) = bi_ (mtc_ s = true)) := by decide +kernel
  rw [← key _ (by omega : ms_ m < 12)]
  by_cases z1 : nI (ms_ m) = 1
  · rw [if_pos z1, if_pos z1, gt_t (by decide)]
  · rw [if_neg z1, if_neg z1, lt_e]
    by_cases z2 : nI (ms_ m) = 2
    · rw [if_pos z2, if_pos z2, gt_t (by decide)]
    · rw [if_neg z2, if_neg z2, lt_e, k_within, bd_s]
      by_cases z3 : bi_ ((5 : Int32) ≤ nI (ms_ m) ∧ nI (ms_ m) ≤ 7) = 0
      · rw [if_pos z3, if_pos z3, gt_t (by decide)]
      · rw [if_neg z3, if_neg z3, gt_t (by decide)]
theorem k_term (hS : hS_ σ R T S K) (h : PR_ r n m a L F X Y) (hL : L < 1024) {p1 p2 p3 : Int32} {s d pl : Nat} (e1 : p1 = nI s) (e2 : p2 = nI d) (e3 : p3 = nI pl) (hk : sk9_ r (s, d)) : ∃ F' X', f_X6_takeTerm (kh_ σ R S K F X Y) R p1 p2 p3 = some ((), kh_ σ R S K F' X' Y) ∧ ou9_ r n (mtt_ m s d pl) a (L + 1) F' X' Y := by
  have hs11 : ms_ m ≤ 11 := h.2.2.2.2.1.1
  have h30 : (mc_ m).2.1 ≤ 30 := h.2.2.2.2.1.2.2.2.2.2.1
  unfold f_X6_takeTerm f_X6_takeTerm_b49 f_X6_takeTerm_b75 f_X6_takeTerm_b78
  rw [gt_t (k8 hS), lt_e, kh_fi, h.2.2.1.2.1, nI_1, lt_e, kh_si, lt_e, kh_fi, show upd F 717 (nI ((mc_ m).2.1 + 1)) 717 = nI ((mc_ m).2.1 + 1) from rfl]
  unfold mtt_
  by_cases z : (mc_ m).2.1 = 30
  · rw [if_pos z, if_neg (show ¬ nI ((mc_ m).2.1 + 1) ≤ 30 from nI_ge (a := 30) (by omega) (by omega))]
    obtain ⟨F1, q1, q2⟩ := k_failP (F := upd F 717 (nI ((mc_ m).2.1 + 1))) (X := X) (Y := Y) hS (p1 := 3) (f := 3) (p := pl) rfl e3 (by decide)
    rw [q1, bd_s]
    exact ⟨_, _, rfl, q2 _ _ _ _⟩
  · rw [if_neg z, if_pos (show nI ((mc_ m).2.1 + 1) ≤ 30 from nI_le (b := 30) (by omega) (by decide))]
    have h1 := PR_te h (t := (mc_ m).2.1 + 1) (by omega)
    obtain ⟨F2, X2, q2, h2⟩ := k_emP hS h1 hL e1 e2 hk
    have s2 : F2 710 = nI (ms_ m) := h2.2.1.1
    rw [q2, bd_s, lt_e, kh_fi, s2]
    by_cases z1 : ms_ m = 1
    · rw [if_pos ((iq9_ (b := 1) (B := 1) rfl (by omega) (by decide)).mpr z1), gt_t (k8 hS), lt_e, kh_si]
      refine ⟨_, _, rfl, ?_⟩
      rw [show maf_ (ms_ m) = 8 from if_pos (Or.inl z1)]
      exact PR_st h2 (s := 8) (by decide) (by decide)
    rw [if_neg (fun q => z1 ((iq9_ (b := 1) (B := 1) rfl (by omega) (by decide)).mp q)), lt_e]
    by_cases z5 : ms_ m = 5
    · rw [if_pos ((iq9_ (b := 5) (B := 5) rfl (by omega) (by decide)).mpr z5), gt_t (k8 hS), lt_e, kh_si]
      refine ⟨_, _, rfl, ?_⟩
      rw [show maf_ (ms_ m) = 8 from if_pos (Or.inr z5)]
      exact PR_st h2 (s := 8) (by decide) (by decide)
    rw [if_neg (fun q => z5 ((iq9_ (b := 5) (B := 5) rfl (by omega) (by decide)).mp q)), lt_e]
    by_cases z7 : ms_ m = 7
    · rw [if_pos ((iq9_ (b := 7) (B := 7) rfl (by omega) (by decide)).mpr z7), nn_s, gt_t (k8 hS), lt_e, kh_si]
      refine ⟨_, _, rfl, ?_⟩
      rw [show maf_ (ms_ m) = 10 from (if_neg (fun q => q.elim z1 z5)).trans (if_pos z7)]
      exact PR_st h2 (s := 10) (by decide) (by decide)
    · rw [if_neg (fun q => z7 ((iq9_ (b := 7) (B := 7) rfl (by omega) (by decide)).mp q)), nn_s, gt_t (k8 hS), lt_e, kh_si]
      refine ⟨_, _, rfl, ?_⟩
      rw [show maf_ (ms_ m) = 9 from (if_neg (fun q => q.elim z1 z5)).trans (if_neg z7)]
      exact PR_st h2 (s := 9) (by decide) (by decide)
/-- a word's number as the class has it -/
def cw9_ (c : Nat) : Int32 := if c = 99 then -1 else nI c
theorem k_isKind9 (σ : TH) {c : Nat} (hc : c ≤ 27 ∨ c = 99) : f_X11_isKind σ (cw9_ c) = some (bi_ (c < 10), σ) := by
  have key : ∀ c, c < 100 → (c ≤ 27 ∨ c = 99) → bi_ ((0 : Int32) ≤ cw9_ c ∧ cw9_ c ≤ 9) = bi_ (c < 10) := by decide +kernel
  unfold f_X11_isKind
  rw [k_within, bd_s, key c (by omega) hc, gt_t bi_01]
theorem k_fact (hS : hS_ σ R T S K) (h : PR_ r n m a L F X Y) (hL : L < 1024) {c pl : Nat} (hc : c ≤ 27 ∨ c = 99) (hm : ms_ m = 3 ∨ ms_ m = 4) : ∃ F' X', f_X6_takeFact (kh_ σ R S K F X Y) R (cw9_ c) (nI pl) = some ((), kh_ σ R S K F' X' Y) ∧ ou9_ r n (if c < 10 then .inr (mct_ (mst_ m 11 [((if ms_ m = 3 then 8 else 9), c)]) ((mc_ m).1, (mc_ m).2.1, (mc_ m).2.2 ||| ((1 : Int32) <<< (nI c &&& 31)))) else .inl (1, pl)) a (L + 1) F' X' Y := by
  unfold f_X6_takeFact f_X6_takeFact_b42
  rw [k_isKind9 _ hc, bd_s]
  by_cases z : c < 10
  · have ec : cw9_ c = nI c := if_neg (by omega)
    have h1 := PR_ki h ((mc_ m).2.2 ||| ((1 : Int32) <<< (nI c &&& 31))) (or9_k h.2.2.2.2.1.2.2.2.2.2.2 (by omega))
    have s1 : upd F 718 ((mc_ m).2.2 ||| ((1 : Int32) <<< (nI c &&& 31))) 710 = nI (ms_ m) := h.2.1.1
    rw [if_pos z, bi_t z, if_neg (by decide), gt_t (k8 hS), lt_e, kh_fi, h.2.2.1.2.2, lt_e, ec, kh_si, lt_e, kh_fi, s1]
    by_cases z3 : ms_ m = 3
    · obtain ⟨F2, X2, q2, h2⟩ := k_emP hS h1 hL (p1 := 8) (p2 := nI c) (s := 8) (d := c) rfl rfl (sk9_f (by decide) z)
      rw [if_pos ((iq9_ (b := 3) (B := 3) rfl (by omega) (by decide)).mpr z3), nn_s, gt_t (k8 hS), q2, bd_s, gt_t (k8 hS), lt_e, kh_si, if_pos z3]
      exact ⟨_, _, rfl, PR_st h2 (s := 11) (by decide) (by decide)⟩
    · obtain ⟨F2, X2, q2, h2⟩ := k_emP hS h1 hL (p1 := 9) (p2 := nI c) (s := 9) (d := c) rfl rfl (sk9_f (by decide) z)
      rw [if_neg (fun q => z3 ((iq9_ (b := 3) (B := 3) rfl (by omega) (by decide)).mp q)), nn_s, gt_t (k8 hS), q2, bd_s, gt_t (k8 hS), lt_e, kh_si, if_neg z3]
      exact ⟨_, _, rfl, PR_st h2 (s := 11) (by decide) (by decide)⟩
  · rw [if_neg z, bi_f z, if_pos rfl, gt_t (k8 hS)]
    obtain ⟨F1, q1, q2⟩ := k_failP (F := F) (X := X) (Y := Y) hS (p1 := 1) (p2 := nI pl) (f := 1) (p := pl) rfl rfl (by decide)
    rw [q1, bd_s]
    exact ⟨_, _, rfl, q2 _ _ _ _⟩
theorem k_join (hS : hS_ σ R T S K) (h : PR_ r n m a L F X Y) (hL : L + 1 < 1024) {p1 : Int32} {j pl : Nat} (e1 : p1 = nI j) (hj : j = 1 ∨ j = 2) : ∃ F' X', f_X6_takeJoin (kh_ σ R S K F X Y) R p1 (nI pl) = some ((), kh_ σ R S K F' X' Y) ∧ ou9_ r n (if ms_ (mcl_ m) = 11 ∧ (mj_ m = 0 ∨ mj_ m = j) then .inr (mst_ (mjn_ (mcl_ m) j) 2 [(12, j)]) else .inl (1, pl)) a (L + 2) F' X' Y := by
  subst e1
  obtain ⟨F1, X1, q1, h1⟩ := k_closeC hS h (by omega)
  have t1 : F1 710 = nI (ms_ (mcl_ m)) := h1.2.1.1
  have t2 : F1 711 = nI (mj_ m) := by rw [h1.2.1.2.1, mj_mcl]
  have u1 : ms_ (mcl_ m) ≤ 11 := h1.2.2.2.2.1.1
  have u2 : mj_ m ≤ 2 := h.2.2.2.2.1.2.1
  have fl : ∀ x : FT ⊕ MM, x = .inl (1, pl) → ∃ F' X', f_X6_takeJoin_b28 (kh_ σ R S K F1 X1 Y) R (nI pl) = some ((), kh_ σ R S K F' X' Y) ∧ ou9_ r n x a (L + 2) F' X' Y := fun x hx => by
    subst hx
    unfold f_X6_takeJoin_b28
    obtain ⟨F2, q1, q2⟩ := k_failP (F := F1) (X := X1) (Y := Y) hS (p1 := 1) (p2 := nI pl) (f := 1) (p := pl) rfl rfl (by decide)
    rw [gt_t (k8 hS), q1, bd_s]
    exact ⟨_, _, rfl, q2 _ _ _ _⟩
  have go : ∃ F' X', f_X6_takeJoin_b35 (kh_ σ R S K F1 X1 Y) R (nI j) = some ((), kh_ σ R S K F' X' Y) ∧ ou9_ r n (.inr (mst_ (mjn_ (mcl_ m) j) 2 [(12, j)])) a (L + 2) F' X' Y := by
    unfold f_X6_takeJoin_b35
    rw [gt_t (k8 hS), lt_e, kh_si]
    have h2 := PR_jn h1 (j := j) (by omega)
    obtain ⟨F3, X3, q3, h3⟩ := k_emP hS h2 hL (p1 := 12) (p2 := nI j) (s := 12) (d := j) rfl rfl (sk9_o (by decide) (by omega) (by decide))
    rw [q3, bd_s, lt_e, kh_si]
    exact ⟨_, _, rfl, PR_st h3 (s := 2) (by decide) (by decide)⟩
  unfold f_X6_takeJoin
  rw [gt_t (k8 hS), q1, bd_s, lt_e, kh_fi, t1]
  by_cases z1 : ms_ (mcl_ m) = 11
  · rw [if_pos ((iq9_ (b := 11) (B := 11) rfl (by omega) (by decide)).mpr z1), lt_e, kh_fi, t2]
    by_cases z2 : mj_ m = 0
    · rw [if_pos ((iq9_ (b := 0) (B := 0) rfl (by omega) (by decide)).mpr z2), if_pos (show ms_ (mcl_ m) = 11 ∧ (mj_ m = 0 ∨ mj_ m = j) from ⟨z1, Or.inl z2⟩)]
      exact go
    · rw [if_neg (fun q => z2 ((iq9_ (b := 0) (B := 0) rfl (by omega) (by decide)).mp q)), lt_e]
      by_cases z3 : mj_ m = j
      · rw [if_pos ((nI_eq (by omega) (by omega)).mpr z3), if_pos (show ms_ (mcl_ m) = 11 ∧ (mj_ m = 0 ∨ mj_ m = j) from ⟨z1, Or.inr z3⟩)]
        exact go
      · rw [if_neg (fun q => z3 ((nI_eq (by omega) (by omega)).mp q))]
        exact fl _ (if_neg (fun q => q.2.elim z2 z3))
  · rw [if_neg (fun q => z1 ((iq9_ (b := 11) (B := 11) rfl (by omega) (by decide)).mp q))]
    exact fl _ (if_neg (fun q => z1 q.1))
theorem k_openIf (hS : hS_ σ R T S K) (h : PR_ r n m a L F X Y) (hL : L < 1024) (hm : ms_ m = 1) : ∃ F' X', f_X6_openIf (kh_ σ R S K F X Y) R = some ((), kh_ σ R S K F' X' Y) ∧ ou9_ r n (if 5 ≤ md9_ m then .inl (3, mb_ m) else .inr (mst_ (mjn_ m 0) 2 [(11, 0)])) a (L + 1) F' X' Y := by
  have u1 : md9_ m ≤ 5 := h.2.2.2.2.1.2.2.2.1
  unfold f_X6_openIf
  rw [gt_t (k8 hS), lt_e, kh_fi, h.2.1.2.2.2.2.1]
  by_cases z : 5 ≤ md9_ m
  · rw [if_pos z, if_neg (show ¬ nI (md9_ m) < 5 from nI_nlt (b := 5) z (by omega)), lt_e, kh_fi, h.2.1.2.2.2.1 hm]
    obtain ⟨F2, q1, q2⟩ := k_failP (F := F) (X := X) (Y := Y) hS (p1 := 3) (p2 := nI (mb_ m)) (f := 3) (p := mb_ m) rfl rfl (by decide)
    rw [q1, bd_s]
    exact ⟨_, _, rfl, q2 _ _ _ _⟩
  · rw [if_neg z, if_pos (show nI (md9_ m) < 5 from nI_lt (b := 5) (by omega) (by decide))]
    obtain ⟨F3, X3, q3, h3⟩ := k_emP hS h hL (p1 := 11) (p2 := 0) (s := 11) (d := 0) rfl rfl (sk9_o (by decide) (by decide) (by decide))
    rw [q3, bd_s, lt_e, kh_si, lt_e, kh_si]
    exact ⟨_, _, rfl, PR_st (PR_jn h3 (j := 0) (by decide)) (s := 2) (by decide) (by decide)⟩
theorem mst_nil (m : MM) (s : Nat) : mst_ m s [] = ((s, m.1.2), m.2) := by
  unfold mst_
  rw [List.append_nil]
theorem k_question (hS : hS_ σ R T S K) (h : PR_ r n m a L F X Y) (hL : L < 1024) {c : Nat} (hc : 24 ≤ c ∧ c ≤ 27) (hm : ms_ m = 2) : ∃ F' X', f_X6_takeQuestion (kh_ σ R S K F X Y) R (nI c) = some ((), kh_ σ R S K F' X' Y) ∧ ou9_ r n (if c = 24 then .inr (mst_ m 2 [(7, 0)]) else if c = 27 then .inr (mst_ m 11 [(10, 0)]) else if c = 25 then .inr (mst_ m 3 []) else .inr (mst_ m 4 [])) a (L + 1) F' X' Y := by
  unfold f_X6_takeQuestion f_X6_takeQuestion_b52 f_X6_takeQuestion_b55
  by_cases z1 : c = 24
  · obtain ⟨F3, X3, q3, h3⟩ := k_emP hS h hL (p1 := 7) (p2 := 0) (s := 7) (d := 0) rfl rfl (sk9_o (by decide) (by decide) (by decide))
    rw [if_pos ((iq9_ (b := 24) (B := 24) rfl (by omega) (by decide)).mpr z1), if_pos z1, gt_t (k8 hS), q3, bd_s]
    rw [hm] at h3
    exact ⟨_, _, rfl, h3⟩
  rw [if_neg (fun q => z1 ((iq9_ (b := 24) (B := 24) rfl (by omega) (by decide)).mp q)), if_neg z1]
  by_cases z2 : c = 27
  · obtain ⟨F3, X3, q3, h3⟩ := k_emP hS h hL (p1 := 10) (p2 := 0) (s := 10) (d := 0) rfl rfl (sk9_o (by decide) (by decide) (by decide))
    rw [if_pos ((iq9_ (b := 27) (B := 27) rfl (by omega) (by decide)).mpr z2), if_pos z2, gt_t (k8 hS), q3, bd_s, lt_e, kh_si]
    exact ⟨_, _, rfl, PR_st h3 (s := 11) (by decide) (by decide)⟩
  rw [if_neg (fun q => z2 ((iq9_ (b := 27) (B := 27) rfl (by omega) (by decide)).mp q)), if_neg z2]
  by_cases z3 : c = 25
  · rw [if_pos ((iq9_ (b := 25) (B := 25) rfl (by omega) (by decide)).mpr z3), if_pos z3, nn_s, gt_t (k8 hS), lt_e, kh_si, mst_nil]
    exact ⟨_, _, rfl, PR_L (PR_st h (s := 3) (by decide) (by decide)) (by omega)⟩
  · rw [if_neg (fun q => z3 ((iq9_ (b := 25) (B := 25) rfl (by omega) (by decide)).mp q)), if_neg z3, nn_s, gt_t (k8 hS), lt_e, kh_si, mst_nil]
    exact ⟨_, _, rfl, PR_L (PR_st h (s := 4) (by decide) (by decide)) (by omega)⟩
theorem k_isName (hS : hS_ σ R T S K) (h : PR_ r n m a L F X Y) {c : Nat} (hc : c ≤ 27 ∨ c = 99) : f_X6_isName (kh_ σ R S K F X Y) R (cw9_ c) = some (bi_ (nm9_ r c = true), kh_ σ R S K F X Y) := by
  unfold f_X6_isName f_X6_isName_b24 f_X6_isName_b39
  have h7 := h.1.2.2.1
  cases r with
  | false =>
    have key : ∀ c, c < 100 → (c ≤ 27 ∨ c = 99) → bi_ ((0 : Int32) ≤ cw9_ c ∧ cw9_ c ≤ 13) = bi_ (nm9_ false c = true) := by decide +kernel
    rw [if_neg (by decide)] at h7
    rw [gt_t (k8 hS), lt_e, kh_fi, h7, if_pos rfl, k_within, bd_s, key c (by omega) hc, gt_t bi_01]
  | true =>
    have key : ∀ c, c < 100 → (c ≤ 27 ∨ c = 99) → (if cw9_ c = 10 then (1 : Int32) else if bi_ ((13 : Int32) ≤ cw9_ c ∧ cw9_ c ≤ 20) = 0 then 0 else 1) = bi_ (nm9_ true c = true) := by decide +kernel
    rw [if_pos rfl] at h7
    rw [gt_t (k8 hS), lt_e, kh_fi, h7, if_neg (by decide), ← key c (by omega) hc]
    by_cases z1 : cw9_ c = 10
    · rw [if_pos z1, if_pos z1, gt_t (by decide)]
    · rw [if_neg z1, if_neg z1, k_within, bd_s]
      by_cases z3 : bi_ ((13 : Int32) ≤ cw9_ c ∧ cw9_ c ≤ 20) = 0
      · rw [if_pos z3, if_pos z3, gt_t (by decide)]
      · rw [if_neg z3, if_neg z3, gt_t (by decide)]
/-- a word that is a term, or stands where it may not -/
theorem k_word112 (hS : hS_ σ R T S K) (h : PR_ r n m a L F X Y) (hL : L < 1024) {c pl : Nat} (hc : c ≤ 27 ∨ c = 99) : ∃ F' X', f_X6_takeWord_b112 (kh_ σ R S K F X Y) R (cw9_ c) (nI pl) = some ((), kh_ σ R S K F' X' Y) ∧ ou9_ r n (if (21 ≤ c ∧ c ≤ 27) ∨ mtc_ (ms_ m) = false then .inl (1, pl) else if nm9_ r c = false then .inl (2, pl) else mtt_ (mct_ m ((mc_ m).1, (mc_ m).2.1, (if c < 10 then (mc_ m).2.2 ||| ((1 : Int32) <<< (nI c &&& 31)) else (mc_ m).2.2))) 2 c pl) a (L + 1) F' X' Y := by
  have fl : ∀ x : FT ⊕ MM, x = .inl (1, pl) → ∃ F' X', f_X6_takeWord_b125 (kh_ σ R S K F X Y) R (nI pl) = some ((), kh_ σ R S K F' X' Y) ∧ ou9_ r n x a (L + 1) F' X' Y := fun x hx => by
    subst hx
    unfold f_X6_takeWord_b125 f_X6_takeWord_b180
    obtain ⟨F2, q1, q2⟩ := k_failP (F := F) (X := X) (Y := Y) hS (p1 := 1) (p2 := nI pl) (f := 1) (p := pl) rfl rfl (by decide)
    rw [gt_t (k8 hS), q1, bd_s]
    exact ⟨_, _, rfl, q2 _ _ _ _⟩
  have k21 : ∀ c, c < 100 → (c ≤ 27 ∨ c = 99) → ((21 : Int32) ≤ cw9_ c ↔ 21 ≤ c ∧ c ≤ 27) := by decide +kernel
  have k10 : ∀ c, c < 100 → (c ≤ 27 ∨ c = 99) → ((10 : Int32) ≤ cw9_ c ↔ 10 ≤ c ∧ c ≤ 27) := by decide +kernel
  have k21 := k21 c (by omega) hc
  have k10 := k10 c (by omega) hc
  unfold f_X6_takeWord_b112
  by_cases z1 : 21 ≤ c ∧ c ≤ 27
  · rw [if_pos (k21.mpr z1)]
    exact fl _ (if_pos (Or.inl z1))
  rw [if_neg (fun q => z1 (k21.mp q)), gt_t (k8 hS), k_mayCome hS h, bd_s]
  by_cases z2 : mtc_ (ms_ m) = true
  · have z2' : ¬ ((21 ≤ c ∧ c ≤ 27) ∨ mtc_ (ms_ m) = false) := fun q => q.elim z1 (fun q => by rw [z2] at q; cases q)
    rw [if_neg z2', bi_t z2, if_neg (by decide), k_isName hS h hc, bd_s]
    by_cases z3 : nm9_ r c = true
    · have c20 : c ≤ 20 := by
        rcases hc with q | q
        · omega
        · subst q
          exfalso
          revert z3
          unfold nm9_
          cases r <;> decide
      have ec : cw9_ c = nI c := if_neg (by omega)
      rw [if_neg (show ¬ nm9_ r c = false by rw [z3]; decide), bi_t z3, if_neg (by decide), lt_e, kh_fi, h.2.2.1.2.2]
      unfold f_X6_takeWord_b169 f_X6_takeWord_b180
      by_cases z4 : c < 10
      · rw [if_neg (fun q => by have := k10.mp q; omega), if_pos z4, nn_s, gt_t (k8 hS), lt_e, kh_si, gt_t (k8 hS), ec]
        have h1 := PR_ki h ((mc_ m).2.2 ||| ((1 : Int32) <<< (nI c &&& 31))) (or9_k h.2.2.2.2.1.2.2.2.2.2.2 (by omega))
        obtain ⟨F2, X2, q2, h2⟩ := k_term hS h1 hL (p1 := 2) (p2 := nI c) (p3 := nI pl) (s := 2) (d := c) (pl := pl) rfl rfl rfl (sk9_nm z3 (by omega))
        rw [q2, bd_s]
        exact ⟨_, _, rfl, h2⟩
      · have e0 : (mc_ m).2.2 ||| 0 = (mc_ m).2.2 := by simp
        rw [if_pos (k10.mpr (by omega)), if_neg z4, nn_s, gt_t (k8 hS), lt_e, kh_si, gt_t (k8 hS), ec, e0]
        have h1 := PR_ki h (mc_ m).2.2 h.2.2.2.2.1.2.2.2.2.2.2
        obtain ⟨F2, X2, q2, h2⟩ := k_term hS h1 hL (p1 := 2) (p2 := nI c) (p3 := nI pl) (s := 2) (d := c) (pl := pl) rfl rfl rfl (sk9_nm z3 (by omega))
        rw [q2, bd_s]
        exact ⟨_, _, rfl, h2⟩
    · have z3' : nm9_ r c = false := by simpa using z3
      rw [if_pos z3', bi_f z3, if_pos rfl]
      unfold f_X6_takeWord_b180
      obtain ⟨F2, q1, q2⟩ := k_failP (F := F) (X := X) (Y := Y) hS (p1 := 2) (p2 := nI pl) (f := 2) (p := pl) rfl rfl (by decide)
      rw [q1, bd_s]
      exact ⟨_, _, rfl, q2 _ _ _ _⟩
  · have z2' : mtc_ (ms_ m) = false := by simpa using z2
    rw [bi_f z2, if_pos rfl]
    exact fl _ (if_pos (Or.inr z2'))
/-- A WORD -/
theorem k_word (hS : hS_ σ R T S K) (h : PR_ r n m a L F X Y) (hL : L + 1 < 1024) {c pl : Nat} (q : Nat) (hc : c ≤ 27 ∨ c = 99) : ∃ F' X', f_X6_takeWord (kh_ σ R S K F X Y) R (cw9_ c) (nI pl) = some ((), kh_ σ R S K F' X' Y) ∧ ou9_ r n (tr9_ r m (4, c, pl, q)) a (L + 2) F' X' Y := by
  have hs11 : ms_ m ≤ 11 := h.2.2.2.2.1.1
  have g : ∀ d, d < 28 → ∀ D : Int32, D = nI d → (cw9_ c = D ↔ c = d) := fun d hd D e => by
    subst e
    unfold cw9_
    by_cases z : c = 99
    · rw [if_pos z]
      exact ⟨fun y => absurd y.symm (nI_n1 (by omega)), fun y => by omega⟩
    · rw [if_neg z]; exact nI_eq (by omega) (by omega)
  have k24 : ∀ c, c < 100 → (c ≤ 27 ∨ c = 99) → (cw9_ c < (24 : Int32) ↔ ¬ (24 ≤ c ∧ c ≤ 27)) := by decide +kernel
  have k24 := k24 c (by omega) hc
  have tr : tr9_ r m (4, c, pl, q) = (if ms_ m = 3 ∨ ms_ m = 4 then
      (if c < 10 then .inr (mct_ (mst_ m 11 [((if ms_ m = 3 then 8 else 9), c)]) ((mc_ m).1, (mc_ m).2.1, (mc_ m).2.2 ||| ((1 : Int32) <<< (nI c &&& 31)))) else .inl (1, pl))
    else if c = 22 ∨ c = 23 then
      (if ms_ (mcl_ m) = 11 ∧ (mj_ m = 0 ∨ mj_ m = c - 21) then .inr (mst_ (mjn_ (mcl_ m) (c - 21)) 2 [(12, c - 21)]) else .inl (1, pl))
    else if c = 21 ∧ ms_ m = 1 then
      (if 5 ≤ md9_ m then .inl (3, mb_ m) else .inr (mst_ (mjn_ m 0) 2 [(11, 0)]))
    else if 24 ≤ c ∧ c ≤ 27 ∧ ms_ m = 2 ∧ (c = 24 ∨ r = false) then
      (if c = 24 then .inr (mst_ m 2 [(7, 0)]) else if c = 27 then .inr (mst_ m 11 [(10, 0)]) else if c = 25 then .inr (mst_ m 3 []) else .inr (mst_ m 4 []))
    else if (21 ≤ c ∧ c ≤ 27) ∨ mtc_ (ms_ m) = false then .inl (1, pl)
    else if nm9_ r c = false then .inl (2, pl)
    else mtt_ (mct_ m ((mc_ m).1, (mc_ m).2.1, (if c < 10 then (mc_ m).2.2 ||| ((1 : Int32) <<< (nI c &&& 31)) else (mc_ m).2.2))) 2 c pl) := rfl
  rw [tr]
  unfold f_X6_takeWord
  rw [gt_t (k8 hS), lt_e, kh_fi, h.2.1.1]
  have fact : ms_ m = 3 ∨ ms_ m = 4 → ∃ F' X', f_X6_takeWord_b16 (kh_ σ R S K F X Y) R (cw9_ c) (nI pl) = some ((), kh_ σ R S K F' X' Y) ∧ ou9_ r n (if c < 10 then .inr (mct_ (mst_ m 11 [((if ms_ m = 3 then 8 else 9), c)]) ((mc_ m).1, (mc_ m).2.1, (mc_ m).2.2 ||| ((1 : Int32) <<< (nI c &&& 31)))) else .inl (1, pl)) a (L + 2) F' X' Y := fun hm => by
    unfold f_X6_takeWord_b16 f_X6_takeWord_b180
    obtain ⟨F2, X2, q2, h2⟩ := k_fact hS h (by omega) (pl := pl) hc hm
    rw [gt_t (k8 hS), q2, bd_s]
    exact ⟨_, _, rfl, ou9_L h2 (by omega)⟩
  by_cases z3 : ms_ m = 3
  · rw [if_pos ((iq9_ (b := 3) (B := 3) rfl (by omega) (by decide)).mpr z3), if_pos (Or.inl z3)]
    exact fact (Or.inl z3)
  rw [if_neg (fun y => z3 ((iq9_ (b := 3) (B := 3) rfl (by omega) (by decide)).mp y)), lt_e]
  by_cases z4 : ms_ m = 4
  · rw [if_pos ((iq9_ (b := 4) (B := 4) rfl (by omega) (by decide)).mpr z4), if_pos (Or.inr z4)]
    exact fact (Or.inr z4)
  rw [if_neg (fun y => z4 ((iq9_ (b := 4) (B := 4) rfl (by omega) (by decide)).mp y)), if_neg (show ¬ (ms_ m = 3 ∨ ms_ m = 4) from fun y => y.elim z3 z4)]
  have jn : ∀ j, (j = 1 ∨ j = 2) → ∀ p : Int32, p = nI j → c - 21 = j → ∃ F' X', f_X6_takeWord_b49 (kh_ σ R S K F X Y) (nI pl) p (some R) = some ((), kh_ σ R S K F' X' Y) ∧ ou9_ r n (if ms_ (mcl_ m) = 11 ∧ (mj_ m = 0 ∨ mj_ m = c - 21) then .inr (mst_ (mjn_ (mcl_ m) (c - 21)) 2 [(12, c - 21)]) else .inl (1, pl)) a (L + 2) F' X' Y := fun j hj p hp e => by
    rw [e]
    unfold f_X6_takeWord_b49 f_X6_takeWord_b180
    obtain ⟨F2, X2, q2, h2⟩ := k_join hS h hL (pl := pl) hp hj
    rw [nn_s, gt_t (k8 hS), q2, bd_s]
    exact ⟨_, _, rfl, h2⟩
  by_cases w22 : c = 22
  · rw [if_pos ((g 22 (by decide) 22 rfl).mpr w22), if_pos (Or.inl w22)]
    unfold f_X6_takeWord_b37
    rw [if_pos ((g 22 (by decide) 22 rfl).mpr w22)]
    exact jn 1 (Or.inl rfl) 1 rfl (by omega)
  rw [if_neg (fun y => w22 ((g 22 (by decide) 22 rfl).mp y))]
  by_cases w23 : c = 23
  · rw [if_pos ((g 23 (by decide) 23 rfl).mpr w23), if_pos (Or.inr w23)]
    unfold f_X6_takeWord_b37
    rw [if_neg (fun y => w22 ((g 22 (by decide) 22 rfl).mp y))]
    exact jn 2 (Or.inr rfl) 2 rfl (by omega)
  rw [if_neg (fun y => w23 ((g 23 (by decide) 23 rfl).mp y)), if_neg (show ¬ (c = 22 ∨ c = 23) from fun y => y.elim w22 w23)]
  have b77 : ¬ (c = 21 ∧ ms_ m = 1) → ∃ F' X', f_X6_takeWord_b77 (kh_ σ R S K F X Y) R (cw9_ c) (nI pl) = some ((), kh_ σ R S K F' X' Y) ∧ ou9_ r n (if 24 ≤ c ∧ c ≤ 27 ∧ ms_ m = 2 ∧ (c = 24 ∨ r = false) then
      (if c = 24 then .inr (mst_ m 2 [(7, 0)]) else if c = 27 then .inr (mst_ m 11 [(10, 0)]) else if c = 25 then .inr (mst_ m 3 []) else .inr (mst_ m 4 []))
    else if (21 ≤ c ∧ c ≤ 27) ∨ mtc_ (ms_ m) = false then .inl (1, pl)
    else if nm9_ r c = false then .inl (2, pl)
    else mtt_ (mct_ m ((mc_ m).1, (mc_ m).2.1, (if c < 10 then (mc_ m).2.2 ||| ((1 : Int32) <<< (nI c &&& 31)) else (mc_ m).2.2))) 2 c pl) a (L + 2) F' X' Y := fun _ => by
    have go := k_word112 hS h (by omega) (pl := pl) hc
    have go2 : ¬ (24 ≤ c ∧ c ≤ 27 ∧ ms_ m = 2 ∧ (c = 24 ∨ r = false)) → ∃ F' X', f_X6_takeWord_b112 (kh_ σ R S K F X Y) R (cw9_ c) (nI pl) = some ((), kh_ σ R S K F' X' Y) ∧ ou9_ r n (if 24 ≤ c ∧ c ≤ 27 ∧ ms_ m = 2 ∧ (c = 24 ∨ r = false) then
      (if c = 24 then .inr (mst_ m 2 [(7, 0)]) else if c = 27 then .inr (mst_ m 11 [(10, 0)]) else if c = 25 then .inr (mst_ m 3 []) else .inr (mst_ m 4 []))
    else if (21 ≤ c ∧ c ≤ 27) ∨ mtc_ (ms_ m) = false then .inl (1, pl)
    else if nm9_ r c = false then .inl (2, pl)
    else mtt_ (mct_ m ((mc_ m).1, (mc_ m).2.1, (if c < 10 then (mc_ m).2.2 ||| ((1 : Int32) <<< (nI c &&& 31)) else (mc_ m).2.2))) 2 c pl) a (L + 2) F' X' Y := fun y => by
      rw [if_neg y]
      obtain ⟨F2, X2, q2, h2⟩ := go
      exact ⟨F2, X2, q2, ou9_L h2 (by omega)⟩
    have quest : 24 ≤ c ∧ c ≤ 27 → ms_ m = 2 → (c = 24 ∨ r = false) → ∃ F' X', f_X6_takeWord_b104 (kh_ σ R S K F X Y) R (cw9_ c) = some ((), kh_ σ R S K F' X' Y) ∧ ou9_ r n (if 24 ≤ c ∧ c ≤ 27 ∧ ms_ m = 2 ∧ (c = 24 ∨ r = false) then
      (if c = 24 then .inr (mst_ m 2 [(7, 0)]) else if c = 27 then .inr (mst_ m 11 [(10, 0)]) else if c = 25 then .inr (mst_ m 3 []) else .inr (mst_ m 4 []))
    else if (21 ≤ c ∧ c ≤ 27) ∨ mtc_ (ms_ m) = false then .inl (1, pl)
    else if nm9_ r c = false then .inl (2, pl)
    else mtt_ (mct_ m ((mc_ m).1, (mc_ m).2.1, (if c < 10 then (mc_ m).2.2 ||| ((1 : Int32) <<< (nI c &&& 31)) else (mc_ m).2.2))) 2 c pl) a (L + 2) F' X' Y := fun y1 y2 y3 => by
      rw [if_pos (show 24 ≤ c ∧ c ≤ 27 ∧ ms_ m = 2 ∧ (c = 24 ∨ r = false) from ⟨y1.1, y1.2, y2, y3⟩)]
      unfold f_X6_takeWord_b104 f_X6_takeWord_b180
      have ec : cw9_ c = nI c := if_neg (by omega)
      obtain ⟨F2, X2, q2, h2⟩ := k_question hS h (by omega) y1 y2
      rw [gt_t (k8 hS), ec, q2, bd_s]
      exact ⟨F2, X2, rfl, ou9_L h2 (by omega)⟩
    unfold f_X6_takeWord_b77
    by_cases y1 : 24 ≤ c ∧ c ≤ 27
    · rw [if_neg (fun y => (k24.mp y) y1), gt_t (k8 hS), lt_e, kh_fi, h.2.1.1]
      by_cases y2 : ms_ m = 2
      · rw [if_pos ((iq9_ (b := 2) (B := 2) rfl (by omega) (by decide)).mpr y2)]
        by_cases y3 : c = 24
        · rw [if_pos ((g 24 (by decide) 24 rfl).mpr y3)]
          exact quest y1 y2 (Or.inl y3)
        · rw [if_neg (fun y => y3 ((g 24 (by decide) 24 rfl).mp y)), lt_e, kh_fi, h.1.2.2.1]
          cases r with
          | false =>
            rw [if_neg (show ¬ (false = true) by decide), if_pos rfl]
            exact quest y1 y2 (Or.inr rfl)
          | true =>
            rw [if_pos (show true = true from rfl), if_neg (show ¬ (1 : Int32) = 0 by decide)]
            exact go2 (fun y => y.2.2.2.elim y3 (fun y => by cases y))
      · rw [if_neg (fun y => y2 ((iq9_ (b := 2) (B := 2) rfl (by omega) (by decide)).mp y))]
        exact go2 (fun y => y2 y.2.2.1)
    · rw [if_pos (k24.mpr y1)]
      exact go2 (fun y => y1 ⟨y.1, y.2.1⟩)
  by_cases w21 : c = 21
  · rw [if_pos ((g 21 (by decide) 21 rfl).mpr w21), lt_e]
    by_cases z1 : ms_ m = 1
    · rw [if_pos ((iq9_ (b := 1) (B := 1) rfl (by omega) (by decide)).mpr z1), if_pos (show c = 21 ∧ ms_ m = 1 from ⟨w21, z1⟩)]
      unfold f_X6_takeWord_b180
      obtain ⟨F2, X2, q2, h2⟩ := k_openIf hS h (by omega) z1
      rw [q2, bd_s]
      exact ⟨_, _, rfl, ou9_L h2 (by omega)⟩
    · rw [if_neg (fun y => z1 ((iq9_ (b := 1) (B := 1) rfl (by omega) (by decide)).mp y)), if_neg (show ¬ (c = 21 ∧ ms_ m = 1) from fun y => z1 y.2)]
      exact b77 (fun y => z1 y.2)
  · rw [if_neg (fun y => w21 ((g 21 (by decide) 21 rfl).mp y)), if_neg (show ¬ (c = 21 ∧ ms_ m = 1) from fun y => w21 y.1)]
    exact b77 (fun y => w21 y.1)
end TK9
