/-! THE CLASS'S READER ON THE HEAP: the whole reading. Written by wip/b/mk99y.py. -/
section RD9
variable {σ : TH} {R T S K : Nat} {r : Bool} {w : Nat → Nat} {n : Nat} {m : MM} {a L : Nat} {F X Y : Nat → Int32}
theorem bt9_wn (hb : bt9_ w n (ai_ σ T)) : wn_ w n := ⟨hb.2.1, fun k hk => (hb.1 k hk).1, hb.2.2⟩
theorem tz_ns (h : tS (w a) = false) : tz_ w a = tkp_ w a := by
  unfold tz_
  rw [en9_st h]
theorem tz_sp (hw : wn_ w n) (ha : a < n) (h : tS (w a) = true) : tz_ w a = tz_ w (a + 1) := by
  have hn := hw.2.2
  unfold tz_
  have e1 : en9_ tS w 500 a = en9_ tS w 499 (a + 1) := en9_nx (f := 499) h
  rw [e1, en9_fu (q := tS) rfl hw.1 (f := 499) (g := 500) (by omega) (by omega)]
theorem rN_sp (hw : wn_ w n) (ha : a < n) (hs : ms_ m ≠ 0) (h : tS (w a) = true) : rN_ r w n m a = rN_ r w n m (a + 1) := by
  have e := tz_sp hw ha h
  have e2 : nx9_ w a = nx9_ w (a + 1) := by unfold nx9_; rw [e]
  unfold rN_
  conv => lhs; unfold rn_
  conv => rhs; unfold rn_
  rw [if_neg hs, if_neg hs, e, e2]
theorem rN_pl (hw : wn_ w n) (ha : a < n) (hs : ms_ m = 0) : rN_ r w n m a = eb_ (tp8_ m a (w a)) (fun m => rN_ r w n m (a + 1)) := by
  have h9 := hw.2.1 a ha
  unfold rN_
  conv => lhs; unfold rn_
  rw [if_pos hs, if_neg (by omega)]
  exact eb_cong (fun b _ => rn_fu hw.1 n (n + 1) b (a + 1) (by omega) (by omega) (by omega))
theorem rN_end (hw : wn_ w n) : rN_ r w n m n = fin9_ r n m := by
  have h9 := hw.1 n (Nat.le_refl _)
  have e : tz_ w n = tkp_ w n := tz_ns (by rw [h9]; rfl)
  have e1 : (tz_ w n).1 = 1 := by
    rw [e]
    unfold tkp_
    rw [if_pos h9]
  unfold rN_
  conv => lhs; unfold rn_
  by_cases z : ms_ m = 0
  · rw [if_pos z, if_pos h9]
  · rw [if_neg z, if_pos e1]
theorem k_finish (hS : hS_ σ R T S K) (h : PR_ r n m a L F X Y) (hL : L < 1024) : ∃ F' X', f_X6_finish (kh_ σ R S K F X Y) R = some ((), kh_ σ R S K F' X' Y) ∧ ou9_ r n (fin9_ r n m) a (L + 1) F' X' Y := by
  have hs11 : ms_ m ≤ 11 := h.2.2.2.2.1.1
  have u14 : md9_ m ≤ 5 := h.2.2.2.2.1.2.2.2.1
  have u12 : ml_ m ≤ 2 := h.2.2.2.2.1.2.2.1
  unfold fin9_
  cases r with
  | true =>
    have h7 : F 707 = 1 := h.1.2.2.1
    obtain ⟨F1, X1, q1, h1⟩ := k_closeC hS h hL
    have t1 : F1 710 = nI (ms_ (mcl_ m)) := h1.2.1.1
    have u1 : ms_ (mcl_ m) ≤ 11 := h1.2.2.2.2.1.1
    have t8 : F1 708 = nI n := h1.1.2.2.2.1
    unfold f_X6_finish f_X6_finish_b62
    rw [gt_t (k8 hS), lt_e, kh_fi, h7, if_neg (show ¬ (1 : Int32) = 0 by decide), q1, bd_s, lt_e, kh_fi, t1, if_pos (show true = true from rfl)]
    by_cases z : ms_ (mcl_ m) = 11
    · rw [if_pos ((iq9_ (b := 11) (B := 11) rfl (by omega) (by decide)).mpr z), if_pos z]
      exact ⟨_, _, rfl, h1⟩
    · obtain ⟨F2, q2, q3⟩ := k_failP (F := F1) (X := X1) (Y := Y) hS (p1 := 1) (p2 := nI n) (f := 1) (p := n) rfl rfl (by decide)
      rw [if_neg (fun q => z ((iq9_ (b := 11) (B := 11) rfl (by omega) (by decide)).mp q)), if_neg z, lt_e, kh_fi, t8, q2, bd_s]
      exact ⟨_, _, rfl, q3 _ _ _ _⟩
  | false =>
    have h7 : F 707 = 0 := h.1.2.2.1
    have fl : ∀ x : FT ⊕ MM, x = .inl (1, n) → ∃ F' X', f_X6_finish_b53 (kh_ σ R S K F X Y) R = some ((), kh_ σ R S K F' X' Y) ∧ ou9_ false n x a (L + 1) F' X' Y := fun x hx => by
      subst hx
      unfold f_X6_finish_b53 f_X6_finish_b62
      obtain ⟨F2, q1, q2⟩ := k_failP (F := F) (X := X) (Y := Y) hS (p1 := 1) (p2 := nI n) (f := 1) (p := n) rfl rfl (by decide)
      rw [gt_t (k8 hS), lt_e, kh_fi, h.1.2.2.2.1, q1, bd_s]
      exact ⟨_, _, rfl, q2 _ _ _ _⟩
    unfold f_X6_finish
    rw [gt_t (k8 hS), lt_e, kh_fi, h7, if_pos rfl, lt_e, kh_fi, h.2.1.1, if_neg (show ¬ false = true by decide)]
    by_cases z1 : ms_ m = 0
    · rw [if_pos ((iq9_ (b := 0) (B := 0) rfl (by omega) (by decide)).mpr z1), lt_e, kh_fi, h.2.1.2.2.2.2.1]
      by_cases z2 : md9_ m = 0
      · rw [if_neg (show ¬ 0 < nI (md9_ m) by rw [z2]; decide), lt_e, kh_fi, h.2.1.2.2.1]
        by_cases z3 : ml_ m = 0
        · rw [if_pos ((iq9_ (b := 0) (B := 0) rfl (by omega) (by decide)).mpr z3)]
          exact fl _ (if_neg (fun q => q.2.2 z3))
        · rw [if_neg (fun q => z3 ((iq9_ (b := 0) (B := 0) rfl (by omega) (by decide)).mp q)), if_pos ⟨z1, z2, z3⟩]
          exact ⟨_, _, rfl, PR_L h (by omega)⟩
      · rw [if_pos (show (0 : Int32) < nI (md9_ m) from nI_lt (a := 0) (by omega) (by omega))]
        exact fl _ (if_neg (fun q => z2 q.2.1))
    · rw [if_neg (fun q => z1 ((iq9_ (b := 0) (B := 0) rfl (by omega) (by decide)).mp q))]
      exact fl _ (if_neg (fun q => z1 q.1))
theorem k_exit (hS : hS_ σ R T S K) {f : Nat} {l1 l : Int32} (h : ¬ F 702 = 0) : f_X6_read_b8 (f + 1) (kh_ σ R S K F X Y) R l1 l = f_X6_read_b110 (kh_ σ R S K F X Y) R := by
  have e : f_X6_read_b99 (kh_ σ R S K F X Y) R = f_X6_read_b110 (kh_ σ R S K F X Y) R := by
    unfold f_X6_read_b99
    rw [gt_t (k8 hS), lt_e, kh_fi, if_neg h]
  rw [f_X6_read_b8]
  by_cases z1 : l1 ≤ l
  · rw [if_pos z1]; exact e
  rw [if_neg z1, gt_t (k8 hS), lt_e, lt_e]
  by_cases z2 : fi_ (kh_ σ R S K F X Y) 708 R ≤ fi_ (kh_ σ R S K F X Y) 709 R
  · rw [if_pos z2]; exact e
  rw [if_neg z2, lt_e, kh_fi, if_neg h]
  exact e
/-- THE LOOP -/
theorem k_loop (hS : hS_ σ R T S K) (hb : bt9_ w n (ai_ σ T)) : ∀ (k : Nat) (m : MM) (a l f : Nat) (F X Y : Nat → Int32), n - a ≤ k → a ≤ n → l ≤ a → k < f → PR_ r n m a (2 * a) F X Y → ∃ F' X' Y' a', f_X6_read_b8 f (kh_ σ R S K F X Y) R (nI n) (nI l) = f_X6_read_b110 (kh_ σ R S K F' X' Y') R ∧ ou9_ r n (rN_ r w n m a) a' 801 F' X' Y' := by
  have hw := bt9_wn hb
  have hn := hb.2.2
  intro k
  induction k with
  | zero =>
    intro m a l f F X Y hk ha hl hf h
    obtain ⟨g, rfl⟩ : ∃ g, f = g + 1 := ⟨f - 1, by omega⟩
    have e : a = n := by omega
    subst e
    obtain ⟨F1, X1, q1, h1⟩ := k_finish hS h (by omega)
    have e9 : f_X6_read_b99 (kh_ σ R S K F X Y) R = f_X6_read_b110 (kh_ σ R S K F1 X1 Y) R := by
      unfold f_X6_read_b99
      rw [gt_t (k8 hS), lt_e, kh_fi, h.1.1, if_pos rfl, q1, bd_s]
    refine ⟨F1, X1, Y, a, ?_, ?_⟩
    · rw [← e9, f_X6_read_b8]
      by_cases z : nI a ≤ nI l
      · rw [if_pos z]
      · rw [if_neg z, gt_t (k8 hS), lt_e, kh_fi, lt_e, kh_fi, h.1.2.2.2.1, h.1.2.2.2.2, if_pos (nI_le (Nat.le_refl _) (by omega))]
    · rw [rN_end hw]
      exact ou9_L h1 (by omega)
  | succ k ih =>
    intro m a l f F X Y hk ha hl hf h
    by_cases hn0 : a = n
    · exact (fun _ => by
        obtain ⟨g, rfl⟩ : ∃ g, f = g + 1 := ⟨f - 1, by omega⟩
        subst hn0
        obtain ⟨F1, X1, q1, h1⟩ := k_finish hS h (by omega)
        have e9 : f_X6_read_b99 (kh_ σ R S K F X Y) R = f_X6_read_b110 (kh_ σ R S K F1 X1 Y) R := by
          unfold f_X6_read_b99
          rw [gt_t (k8 hS), lt_e, kh_fi, h.1.1, if_pos rfl, q1, bd_s]
        refine ⟨F1, X1, Y, a, ?_, ?_⟩
        · rw [← e9, f_X6_read_b8]
          by_cases z : nI a ≤ nI l
          · rw [if_pos z]
          · rw [if_neg z, gt_t (k8 hS), lt_e, kh_fi, lt_e, kh_fi, h.1.2.2.2.1, h.1.2.2.2.2, if_pos (nI_le (Nat.le_refl _) (by omega))]
        · rw [rN_end hw]
          exact ou9_L h1 (by omega) : True → _) trivial
    have an : a < n := by omega
    obtain ⟨g, rfl⟩ : ∃ g, f = g + 1 + 1 := ⟨f - 2, by omega⟩
    have hs11 : ms_ m ≤ 11 := h.2.2.2.2.1.1
    have w256 := (hb.1 a an).1
    rw [f_X6_read_b8, if_neg (nI_ge (by omega) (by omega)), gt_t (k8 hS), lt_e, kh_fi, lt_e, kh_fi, h.1.2.2.2.1, h.1.2.2.2.2, if_neg (nI_ge an (by omega)), lt_e, kh_fi, h.1.1, if_pos rfl, lt_e, k_byte hS hb h.1.2.2.2.1 (by omega), bd_s, lt_e, kh_fi, h.2.1.1]
    -- what follows a step
    have go : ∀ (x : FT ⊕ MM) (b : Nat) (F1 X1 Y1 : Nat → Int32), ou9_ r n x b (2 * a + 2) F1 X1 Y1 → (∀ m1, x = .inr m1 → a < b ∧ b ≤ n) → rN_ r w n m a = eb_ x (fun m => rN_ r w n m b) → ∃ F' X' Y' a', f_X6_read_b93 (f_X6_read_b8 (g + 1)) (kh_ σ R S K F1 X1 Y1) R (nI n) (nI l) = f_X6_read_b110 (kh_ σ R S K F' X' Y') R ∧ ou9_ r n (rN_ r w n m a) a' 801 F' X' Y' := fun x b F1 X1 Y1 ho hx er => by
      unfold f_X6_read_b93
      rw [lt_e, nI_1]
      cases x with
      | inl e =>
        obtain ⟨o1, o2, o3, o4⟩ := ho
        have nz : ¬ F1 702 = 0 := by rw [o1]; exact nI_ne0 o3 (by omega)
        rw [k_exit hS nz]
        refine ⟨F1, X1, Y1, 0, rfl, ?_⟩
        rw [er, eb_l]
        exact ⟨o1, o2, o3, o4⟩
      | inr m1 =>
        obtain ⟨x1, x2⟩ := hx m1 rfl
        rw [er, eb_r]
        exact ih m1 b (l + 1) (g + 1) F1 X1 Y1 (by omega) x2 (by omega) (by omega) (PR_L ho (by omega))
    by_cases z0 : ms_ m = 0
    · rw [if_pos ((iq9_ (b := 0) (B := 0) rfl (by omega) (by decide)).mpr z0)]
      obtain ⟨F1, X1, Y1, q1, h1⟩ := k_plain hS h (by omega) z0 w256
      rw [q1, bd_s]
      exact go _ _ _ _ _ (ou9_L h1 (by omega)) (fun _ _ => ⟨by omega, by omega⟩) (rN_pl hw an z0)
    rw [if_neg (fun q => z0 ((iq9_ (b := 0) (B := 0) rfl (by omega) (by decide)).mp q)), k_let _ (bt9_ok hb a), bd_s]
    have tl := tz_le hw.1 ha
    have tok : tS (w a) = false → (tz_ w a).1 ≠ 1 := fun hq => by
      rw [tz_ns hq]
      unfold tkp_
      rw [if_neg (by omega)]
      repeat' split
      all_goals (intro q; cases q)
    have tkn : tS (w a) = false → ∀ m1, tr9_ r m (tz_ w a) = .inr m1 → a < nx9_ w a ∧ nx9_ w a ≤ n := fun hq m1 hm => by
      refine ⟨tl.2.2.2 (fun q => ?_) (tok hq), tl.2.2.1⟩
      rw [tr_0 q] at hm
      cases hm
    by_cases zl : tL (w a) = true
    · have ns : tS (w a) = false := by
        have : 97 ≤ w a ∧ w a ≤ 122 := by simpa [tL] using zl
        simp [tS]; omega
      rw [bi_t zl, if_neg (show ¬ (1 : Int32) = 0 by decide)]
      obtain ⟨F1, X1, q1, h1⟩ := k_readWord hS hb h (by omega) an zl
      rw [q1, bd_s]
      rw [← tz_ns ns] at h1
      exact go _ _ _ _ _ h1 (tkn ns) (rN_t hw ha z0 (tok ns))
    have zl' : tL (w a) = false := by simpa using zl
    rw [bi_f zl, if_pos rfl, k_dig _ (bt9_ok hb a), bd_s]
    by_cases zd : tD (w a) = true
    · have ns : tS (w a) = false := by
        have : 48 ≤ w a ∧ w a ≤ 57 := by simpa [tD] using zd
        simp [tS]; omega
      rw [bi_t zd, if_neg (show ¬ (1 : Int32) = 0 by decide)]
      obtain ⟨F1, X1, q1, h1⟩ := k_readWhole hS hb h (by omega) an zl' zd
      rw [q1, bd_s]
      rw [← tz_ns ns] at h1
      exact go _ _ _ _ _ h1 (tkn ns) (rN_t hw ha z0 (tok ns))
    rw [bi_f zd, if_pos rfl]
    by_cases z32 : w a = 32
    · have sp : tS (w a) = true := by rw [z32]; rfl
      unfold f_X6_readSign
      rw [if_pos (show sb9_ (w a) = 32 by rw [z32]; rfl), k_118 hS, bd_s]
      have h2 := ou9_inc (x := .inr m) (r := r) (n := n) (a := a) h
      exact go (.inr m) (a + 1) _ _ _ (ou9_L h2 (by omega)) (fun _ _ => ⟨by omega, by omega⟩) (rN_sp hw an z0 sp)
    · have ns : tS (w a) = false := by simp [tS]; exact z32
      obtain ⟨F1, X1, Y1, q1, h1⟩ := k_sign hS h (by omega) (a + 1) (bt9_ok hb a) z32
      rw [q1, bd_s]
      have et : tr9_ r m (tz_ w a) = tr9_ r m (3, w a, a, a + 1) := by
        rw [tz_ns ns]
        unfold tkp_
        rw [if_neg (by omega), if_neg zl, if_neg zd]
        by_cases zm : tM (w a) = true
        · rw [if_pos zm]
        · rw [if_neg zm]
          have zm : ¬ (w a = 60 ∨ w a = 62 ∨ w a = 61 ∨ w a = 43 ∨ w a = 45 ∨ w a = 40 ∨ w a = 41 ∨ w a = 58 ∨ w a = 123 ∨ w a = 125) := by simpa [tM, or_assoc] using zm
          rw [tr_0 rfl]
          unfold tr9_
          dsimp only
          rw [if_neg (show ¬ (3 : Nat) = 2 by decide), if_pos rfl, if_neg (show ¬ (w a = 43 ∨ w a = 45) by omega), if_neg (show ¬ (w a = 60 ∨ w a = 61 ∨ w a = 62) by omega), if_neg (show ¬ w a = 125 by omega), if_neg (show ¬ w a = 58 by omega)]
      by_cases zm : tM (w a) = true
      · have enx : nx9_ w a = a + 1 := by
          unfold nx9_
          rw [tz_ns ns]
          unfold tkp_
          rw [if_neg (by omega), if_neg zl, if_neg zd, if_pos zm]
        refine go _ (a + 1) _ _ _ h1 (fun _ _ => ⟨by omega, by omega⟩) ?_
        rw [rN_t hw ha z0 (tok ns), et, enx]
      · have e0 : (tz_ w a).1 = 0 := by
          rw [tz_ns ns]
          unfold tkp_
          rw [if_neg (by omega), if_neg zl, if_neg zd, if_neg zm]
        rw [← et, tr_0 e0] at h1
        refine go _ (a + 1) _ _ _ h1 (fun _ q => by cases q) ?_
        rw [rN_t hw ha z0 (tok ns), tr_0 e0]
        rfl
/-- the machine at its beginning -/
def m0_ (r : Bool) : MM := ((if r = true then 2 else 0, 0, 0, 0, 0), fun _ => false, fun _ => 0, (0, 0, 0), [])
theorem k_begin (hS : hS_ σ R T S K) (hn : n ≤ 400) (v : Int32) (hv : v = if r = true then 1 else 0) : ∃ F', f_X6_begin (kh_ σ R S K F X Y) R (nI n) v = some ((), kh_ σ R S K F' X Y) ∧ PR_ r n (m0_ r) 0 0 F' X Y := by
  unfold f_X6_begin f_X6_begin_b40
  cases r with
  | true =>
    have hv : v = 1 := hv
    subst hv
    rw [gt_t (k8 hS), gt_t (by decide), lt_e, kh_si, lt_e, kh_si, lt_e, kh_si, lt_e, kh_si, lt_e, kh_si, lt_e, kh_si, if_neg (show ¬ (1 : Int32) = 0 by decide), nn_s, gt_t (k8 hS), lt_e, kh_si, gt_t (k8 hS), lt_e, kh_si, lt_e, kh_si, lt_e, kh_si, lt_e, kh_si, lt_e, kh_si, lt_e, kh_si, lt_e, kh_si]
    refine ⟨_, rfl, ⟨rfl, rfl, rfl, rfl, rfl⟩, ⟨rfl, rfl, rfl, fun q => (by cases q), rfl, rfl⟩, ⟨rfl, rfl, rfl⟩, ⟨fun i hi => ?_, fun q hq => ?_⟩, ⟨by decide, by decide, by decide, by decide, by decide, by decide, 0, by decide, rfl⟩, ⟨by decide, fun s hs => ?_⟩, fun q hq => ?_, fun q q' h1 h2 => ?_⟩
    · exact absurd hi (Nat.not_lt_zero _)
    · exact absurd hq (Nat.not_lt_zero _)
    · cases hs
    · exact absurd hq (Nat.not_lt_zero _)
    · exact absurd h2 (Nat.not_lt_zero _)
  | false =>
    have hv : v = 0 := hv
    subst hv
    rw [gt_t (k8 hS), gt_t (by decide), lt_e, kh_si, lt_e, kh_si, lt_e, kh_si, lt_e, kh_si, lt_e, kh_si, lt_e, kh_si, if_pos rfl, nn_s, gt_t (k8 hS), lt_e, kh_si, gt_t (k8 hS), lt_e, kh_si, lt_e, kh_si, lt_e, kh_si, lt_e, kh_si, lt_e, kh_si, lt_e, kh_si, lt_e, kh_si]
    refine ⟨_, rfl, ⟨rfl, rfl, rfl, rfl, rfl⟩, ⟨rfl, rfl, rfl, fun q => (by cases q), rfl, rfl⟩, ⟨rfl, rfl, rfl⟩, ⟨fun i hi => ?_, fun q hq => ?_⟩, ⟨by decide, by decide, by decide, by decide, by decide, by decide, 0, by decide, rfl⟩, ⟨by decide, fun s hs => ?_⟩, fun q hq => ?_, fun q q' h1 h2 => ?_⟩
    · exact absurd hi (Nat.not_lt_zero _)
    · exact absurd hq (Nat.not_lt_zero _)
    · cases hs
    · exact absurd hq (Nat.not_lt_zero _)
    · exact absurd h2 (Nat.not_lt_zero _)
/-- THE READER: what it does, up to its end -/
theorem k_read0 (hS : hS_ σ R T S K) (hb : bt9_ w n (ai_ σ T)) (v : Int32) (hv : v = if r = true then 1 else 0) : ∃ F' X' Y' a', f_X6_read σ R (nI n) v = f_X6_read_b110 (kh_ σ R S K F' X' Y') R ∧ ou9_ r n (rN_ r w n (m0_ r) 0) a' 801 F' X' Y' := by
  have hn := hb.2.2
  obtain ⟨F1, q1, h1⟩ := k_begin (F := fun c => fi_ σ c R) (X := ai_ σ S) (Y := ai_ σ K) hS hn v hv
  rw [kh_self] at q1
  have hf : n < fu_ := Nat.lt_of_le_of_lt hn (by decide)
  obtain ⟨F2, X2, Y2, a2, q2, h2⟩ := k_loop hS hb n (m0_ r) 0 0 fu_ F1 (ai_ σ S) (ai_ σ K) (by omega) (by omega) (by omega) hf h1
  refine ⟨F2, X2, Y2, a2, ?_, h2⟩
  unfold f_X6_read
  rw [gt_t hS.1, q1, bd_s]
  exact q2
end RD9
