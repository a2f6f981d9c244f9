/-! THE CLASS'S PRINTER ON THE HEAP: steps, the run. Written by wip/b/mk99z4.py. -/
/-- WHAT IS KNOWN stands in the printer -/
def KN_ (E : EV9) (r : Bool) (F Y : Nat → Int32) : Prop := (∀ c, nm9_ r c = true → Y c = E.1 c) ∧ (r = false → (∀ k, k < 10 → (F 502 &&& ((1 : Int32) <<< (nI k &&& 31)) = 0 ↔ E.2.1 k = false)) ∧ (∀ k, k < 10 → (F 503 &&& ((1 : Int32) <<< (nI k &&& 31)) = 0 ↔ E.2.2.1 k = false)) ∧ F 504 = bb9_ E.2.2.2)
def PQ_ (E : EV9) (keep : Bool) (X0 : Nat → Int32) (c : Nat) (q : QQ) (F X : Nat → Int32) : Prop :=
  PU_ keep X0 (qou_ q) F X ∧ (F 507 = qsu_ q ∧ F 508 = bb9_ (qmi_ q) ∧ F 509 = qle_ q ∧ (F 510 = 60 ↔ qre_ q = 60) ∧ (F 510 = 62 ↔ qre_ q = 62)) ∧ (F 511 = bb9_ (qde_ q) ∧ (F 512 = nI (qjo_ q) ∧ qjo_ q ≤ 9999) ∧ F 513 = bb9_ (qte_ q)) ∧ (qou_ q).length ≤ 8 * c ∧ (eB_ E → -(20000 * c : Int) ≤ (qsu_ q).toInt ∧ (qsu_ q).toInt ≤ 20000 * c)
section PF
variable {σ : TH} {R P B : Nat} {E : EV9} {r keep : Bool} {F X Y X0 : Nat → Int32} {q : QQ} {c : Nat}
theorem PQ_c {c' : Nat} (h : PQ_ E keep X0 c q F X) (hc : c ≤ c') : PQ_ E keep X0 c' q F X := by
  obtain ⟨h1, h2, h3, h4, h5⟩ := h
  refine ⟨h1, h2, h3, by omega, fun e => ?_⟩
  have := h5 e
  omega
theorem k_add (hP : hP_ σ R P B) (h : PQ_ E keep X0 c q F X) (hc : c < 40000) {v : Int32} (hv : eB_ E → -20000 ≤ v.toInt ∧ v.toInt ≤ 20000) : ∃ F', f_X4_add (kh_ σ R B P F X Y) R v = some ((), kh_ σ R B P F' X Y) ∧ PQ_ E keep X0 (c + 1) (qad_ q v) F' X ∧ ∀ d, d < 505 → F' d = F d := by
  obtain ⟨h1, ⟨a1, a2, a3, a4, a5⟩, ⟨b1, b2, b3⟩, h4, h5⟩ := h
  have bnd : ∀ u : Int32, (eB_ E → -20000 ≤ u.toInt ∧ u.toInt ≤ 20000) → eB_ E → -(20000 * (c + 1 : Nat) : Int) ≤ (qsu_ q + u).toInt ∧ (qsu_ q + u).toInt ≤ 20000 * (c + 1 : Nat) := fun u hu e => by
    have q1 := hu e
    have q2 := h5 e
    rw [add_toi (by omega)]
    omega
  unfold f_X4_add f_X4_add_b18
  rw [gt_t (k6 hP), lt_e, lt_e, kh_fi 507, a1, kh_fi 508, a2]
  unfold qad_
  cases e : qmi_ q with
  | false =>
    rw [if_pos (show bb9_ false = 0 from rfl), nn_s, gt_t (k6 hP), lt_e, kh_si, gt_t (k6 hP), lt_e, kh_si, if_neg (by decide)]
    refine ⟨_, rfl, ⟨h1, ⟨rfl, rfl, a3, a4, a5⟩, ⟨b1, b2, b3⟩, ?_, bnd v hv⟩, fun d hd => ?_⟩
    · show (qou_ q).length ≤ 8 * (c + 1)
      omega
    · exact (if_neg (by omega)).trans (if_neg (by omega))
  | true =>
    rw [if_neg (show ¬ bb9_ true = 0 by decide), nn_s, gt_t (k6 hP), lt_e, kh_si, gt_t (k6 hP), lt_e, kh_si, if_pos rfl]
    refine ⟨_, rfl, ⟨h1, ⟨rfl, rfl, a3, a4, a5⟩, ⟨b1, b2, b3⟩, ?_, bnd (-v) (fun e => ?_)⟩, fun d hd => ?_⟩
    · show (qou_ q).length ≤ 8 * (c + 1)
      omega
    · have := hv e
      rw [neg_toi (by omega)]
      omega
    · exact (if_neg (by omega)).trans (if_neg (by omega))
theorem k_decide (hP : hP_ σ R P B) (h : PQ_ E keep X0 c q F X) (is : Bool) : ∃ F', f_X4_decide (kh_ σ R B P F X Y) R (bb9_ is) = some ((), kh_ σ R B P F' X Y) ∧ PQ_ E keep X0 c (qdc_ q is) F' X ∧ ∀ d, d < 505 → F' d = F d := by
  obtain ⟨h1, ⟨a1, a2, a3, a4, a5⟩, ⟨b1, ⟨b2, b2'⟩, b3⟩, h4, h5⟩ := h
  obtain ⟨j, hj⟩ : ∃ j, j = qjo_ q := ⟨_, rfl⟩
  have st : ∀ one : Bool, ∃ F', f_X4_decide_b13 (kh_ σ R B P F X Y) R (bb9_ one) = some ((), kh_ σ R B P F' X Y) ∧ PQ_ E keep X0 c (q.1, (false, qjo_ q, qtj_ (qjo_ q) (qte_ q) one), qou_ q) F' X ∧ ∀ d, d < 505 → F' d = F d := fun one => by
    have fin : ∀ u : Bool, qtj_ (qjo_ q) (qte_ q) one = u → PQ_ E keep X0 c (q.1, (false, qjo_ q, qtj_ (qjo_ q) (qte_ q) one), qou_ q) (upd (upd F 511 0) 513 (bb9_ u)) X ∧ ∀ d, d < 505 → upd (upd F 511 0) 513 (bb9_ u) d = F d := fun u hu => by
      rw [hu]
      exact ⟨⟨h1, ⟨a1, a2, a3, a4, a5⟩, ⟨rfl, ⟨b2, b2'⟩, rfl⟩, h4, h5⟩, fun d hd => (if_neg (by omega)).trans (if_neg (by omega))⟩
    have e12 : upd F 511 0 512 = nI (qjo_ q) := b2
    have e13 : upd F 511 0 513 = bb9_ (qte_ q) := b3
    unfold f_X4_decide_b13 f_X4_decide_b43 f_X4_decide_b44 f_X4_decide_b70 f_X4_decide_b75 f_X4_decide_b86
    rw [gt_t (k6 hP), lt_e, kh_si, lt_e, kh_fi, e12]
    have fin1 : ∀ u : Bool, qtj_ (qjo_ q) (qte_ q) one = u → ∃ F', (some ((), kh_ σ R B P (upd (upd F 511 0) 513 (bb9_ u)) X Y) : Option (Unit × TH)) = some ((), kh_ σ R B P F' X Y) ∧ PQ_ E keep X0 c (q.1, (false, qjo_ q, qtj_ (qjo_ q) (qte_ q) one), qou_ q) F' X ∧ ∀ d, d < 505 → F' d = F d := fun u hu => ⟨_, rfl, fin u hu⟩
    by_cases j1 : qjo_ q = 1
    · have ev : qtj_ (qjo_ q) (qte_ q) one = (qte_ q && one) := if_pos j1
      rw [if_pos ((iq9_ (b := 1) (B := 1) rfl (by omega) (by decide)).mpr j1), lt_e, kh_fi, e13]
      cases et : qte_ q with
      | false =>
        rw [if_pos (show bb9_ false = 0 from rfl), nn_s, gt_t (k6 hP), gt_t (by decide), lt_e, kh_si]
        rw [et] at ev fin1
        exact fin1 false ev
      | true =>
        rw [if_neg (show ¬ bb9_ true = 0 by decide)]
        rw [et] at ev fin1
        cases one with
        | false =>
          rw [if_pos (show bb9_ false = 0 from rfl), nn_s, gt_t (k6 hP), gt_t (by decide), lt_e, kh_si]
          exact fin1 false ev
        | true =>
          rw [if_neg (show ¬ bb9_ true = 0 by decide), nn_s, gt_t (k6 hP), gt_t (by decide), lt_e, kh_si]
          exact fin1 true ev
    · rw [if_neg (fun y => j1 ((iq9_ (b := 1) (B := 1) rfl (by omega) (by decide)).mp y)), lt_e]
      by_cases j2 : qjo_ q = 2
      · have ev : qtj_ (qjo_ q) (qte_ q) one = (qte_ q || one) := (if_neg j1).trans (if_pos j2)
        rw [if_pos ((iq9_ (b := 2) (B := 2) rfl (by omega) (by decide)).mpr j2), lt_e, kh_fi, e13]
        cases et : qte_ q with
        | true =>
          rw [if_neg (show ¬ bb9_ true = 0 by decide), nn_s, gt_t (k6 hP), gt_t (by decide), lt_e, kh_si]
          rw [et] at ev fin1
          exact fin1 true ev
        | false =>
          rw [if_pos (show bb9_ false = 0 from rfl)]
          rw [et] at ev fin1
          cases one with
          | false =>
            rw [if_pos (show bb9_ false = 0 from rfl), nn_s, gt_t (k6 hP), gt_t (by decide), lt_e, kh_si]
            exact fin1 false ev
          | true =>
            rw [if_neg (show ¬ bb9_ true = 0 by decide), nn_s, gt_t (k6 hP), gt_t (by decide), lt_e, kh_si]
            exact fin1 true ev
      · have ev : qtj_ (qjo_ q) (qte_ q) one = one := (if_neg j1).trans (if_neg j2)
        rw [if_neg (fun y => j2 ((iq9_ (b := 2) (B := 2) rfl (by omega) (by decide)).mp y)), gt_t (bb9_01 one), lt_e, kh_si]
        exact fin1 one ev
  unfold f_X4_decide
  rw [gt_t (k6 hP), lt_e, kh_fi, b1]
  unfold qdc_
  by_cases z : is = qde_ q
  · have e : (is != qde_ q) = false := by rw [z]; cases qde_ q <;> rfl
    rw [if_pos (by rw [z]), e]
    exact st false
  · have e : (is != qde_ q) = true := by
      revert z
      cases is <;> cases qde_ q <;> simp
    have ne : ¬ bb9_ is = bb9_ (qde_ q) := by
      revert z
      cases is <;> cases qde_ q <;> decide
    rw [if_neg ne, e]
    exact st true
/-- A STEP -/
theorem k_perf (hP : hP_ σ R P B) (hK : KN_ E r F Y) (h : PQ_ E keep X0 c q F X) (hc : c < 40000) {k v : Nat} (hs : sk9_ r (k, v)) (h4 : k = 4 → eB_ E) (h8 : r = true → k ≠ 8 ∧ k ≠ 9 ∧ k ≠ 10) (h13 : k ≠ 14) : ∃ F' X', f_X4_perform (kh_ σ R B P F X Y) R (nI k) (nI v) = some ((), kh_ σ R B P F' X' Y) ∧ PQ_ E keep X0 (c + 1) (qs_ E q (k, v)) F' X' ∧ ∀ d, d < 505 → F' d = F d := by
  obtain ⟨s1, s2, s3, s4⟩ := hs
  have s1 : k ≤ 14 := s1
  have s2 : v ≤ 9999 := s2
  have h0 := h
  obtain ⟨h1, ⟨a1, a2, a3, a4, a5⟩, ⟨b1, ⟨b2, b2'⟩, b3⟩, l4, h5⟩ := h
  have hk : ∀ d, d < 20 → ∀ D : Int32, D = nI d → (nI k = D ↔ k = d) := fun d hd D e => iq9_ e (by omega) (by omega)
  unfold f_X4_perform f_X4_perform_b253
  by_cases z0 : k = 0
  · subst z0
    obtain ⟨F1, X1, q1, u1, o1⟩ := k_put (Y := Y) hP h1 (by omega) (v := nI v) rfl
    rw [if_pos (show nI 0 = (0 : Int32) from rfl), gt_t (k6 hP)]
    rw [q1, bd_s]
    refine ⟨F1, X1, rfl, ⟨u1, ?_, ?_, ?_, ?_⟩, fun d hd => o1 d (by omega)⟩
    · exact ⟨(o1 507 (by decide)).trans a1, (o1 508 (by decide)).trans a2, (o1 509 (by decide)).trans a3, by rw [o1 510 (by decide)]; exact a4, by rw [o1 510 (by decide)]; exact a5⟩
    · exact ⟨(o1 511 (by decide)).trans b1, ⟨(o1 512 (by decide)).trans b2, b2'⟩, (o1 513 (by decide)).trans b3⟩
    · show (qou_ q ++ [v]).length ≤ 8 * (c + 1)
      simp; omega
    · exact (PQ_c h0 (Nat.le_succ c)).2.2.2.2
  rw [if_neg (fun y => z0 ((hk 0 (by decide) 0 rfl).mp y))]
  by_cases z1 : k = 1
  · subst z1
    rw [if_pos (show nI 1 = (1 : Int32) from rfl), gt_t (k6 hP)]
    obtain ⟨F1, q1, u1, o1⟩ := k_add (Y := Y) hP h0 hc (v := nI v) (fun _ => by rw [toi_nI (by omega)]; omega)
    rw [q1, bd_s]
    exact ⟨F1, X, rfl, u1, o1⟩
  rw [if_neg (fun y => z1 ((hk 1 (by decide) 1 rfl).mp y))]
  by_cases z2 : k = 2
  · subst z2
    have hn : nm9_ r v = true := s3 rfl
    have v20 : v ≤ 20 := by
      revert hn
      unfold nm9_
      cases r <;> simp <;> omega
    have g1 : fr_ (kh_ σ R B P F X Y) 500 R = some P := hP.2.1.1
    have g2 : kd_ (kh_ σ R B P F X Y) P = 20 := hP.2.2.1.1
    have g3 : ln_ (kh_ σ R B P F X Y) P = 21 := hP.2.2.1.2
    have g4 : ¬ nI v < 0 := nI_pos (by omega)
    rw [if_pos (show nI 2 = (2 : Int32) from rfl)]
    rw [if_neg (show ¬ (21 : Int32) ≤ nI v from nI_ge (b := 21) (by omega) (by decide)), gt_t (k6 hP), lt_e, g1, nn_s, gt_t g2, g3]
    rw [nI_clamp (by omega), gt_t (ix9_ (k := v) (M := 21) (by omega) (by omega)), lt_e, kh_K (hP_ne hP), hK.1 v hn]
    unfold f_X4_perform_b101 f_X4_perform_b253
    obtain ⟨F1, q1, u1, o1⟩ := k_add (Y := Y) hP h0 hc (v := E.1 v) (fun e => e v)
    rw [nn_s, gt_t (k6 hP), q1, bd_s]
    exact ⟨F1, X, rfl, u1, o1⟩
  rw [if_neg (fun y => z2 ((hk 2 (by decide) 2 rfl).mp y))]
  by_cases z3 : k = 3
  · subst z3
    rw [if_pos (show nI 3 = (3 : Int32) from rfl), gt_t (k6 hP), lt_e, kh_si]
    refine ⟨_, _, rfl, ⟨h1, ⟨a1, rfl, a3, a4, a5⟩, ⟨b1, ⟨b2, b2'⟩, b3⟩, ?_, (PQ_c h0 (Nat.le_succ c)).2.2.2.2⟩, fun d hd => if_neg (by omega)⟩
    show (qou_ q).length ≤ 8 * (c + 1)
    omega
  rw [if_neg (fun y => z3 ((hk 3 (by decide) 3 rfl).mp y))]
  have z00 : eB_ E → -(20000 * (c + 1 : Nat) : Int) ≤ (0 : Int32).toInt ∧ (0 : Int32).toInt ≤ 20000 * (c + 1 : Nat) := fun _ => by
    simp
    omega
  by_cases z4 : k = 4
  · subst z4
    have hb := h5 (h4 rfl)
    unfold f_X4_takeSum
    rw [if_pos (show nI 4 = (4 : Int32) from rfl), gt_t (k6 hP), gt_t (k6 hP), lt_e, kh_fi, a1, lt_e, kh_si, bd_s]
    have h1' : PU_ keep X0 (qou_ q) (upd F 507 0) X := h1
    obtain ⟨F1, X1, q1, u1, o1⟩ := k_number (Y := Y) hP h1' (by omega) (v := qsu_ q) (by omega)
    rw [q1, bd_s]
    refine ⟨F1, X1, rfl, ⟨u1, ?_, ?_, ?_, ?_⟩, fun d hd => (o1 d (by omega)).trans (if_neg (by omega))⟩
    · exact ⟨(o1 507 (by decide)), (o1 508 (by decide)).trans a2, (o1 509 (by decide)).trans a3, by rw [o1 510 (by decide)]; exact a4, by rw [o1 510 (by decide)]; exact a5⟩
    · exact ⟨(o1 511 (by decide)).trans b1, ⟨(o1 512 (by decide)).trans b2, b2'⟩, (o1 513 (by decide)).trans b3⟩
    · show (qou_ q ++ dg9_ (qsu_ q)).length ≤ 8 * (c + 1)
      have := dg_len (qsu_ q)
      simp; omega
    · exact z00
  rw [if_neg (fun y => z4 ((hk 4 (by decide) 4 rfl).mp y))]
  by_cases z5 : k = 5
  · subst z5
    unfold f_X4_takeSum
    rw [if_pos (show nI 5 = (5 : Int32) from rfl), gt_t (k6 hP), gt_t (k6 hP), lt_e, kh_fi, a1, lt_e, kh_si, bd_s, lt_e, kh_si, lt_e, kh_si]
    refine ⟨_, _, rfl, ⟨h1, ⟨rfl, a2, rfl, ?_, ?_⟩, ⟨b1, ⟨b2, b2'⟩, b3⟩, ?_, z00⟩, fun d hd => (if_neg (by omega)).trans ((if_neg (by omega)).trans (if_neg (by omega)))⟩
    · exact iq9_ (a := v) (b := 60) (B := 60) rfl (by omega) (by decide)
    · exact iq9_ (a := v) (b := 62) (B := 62) rfl (by omega) (by decide)
    · show (qou_ q).length ≤ 8 * (c + 1)
      omega
  rw [if_neg (fun y => z5 ((hk 5 (by decide) 5 rfl).mp y))]
  by_cases z6 : k = 6
  · subst z6
    have hm : PQ_ E keep X0 (c + 1) ((0, q.1.2), q.2) (upd F 507 0) X := ⟨h1, ⟨rfl, a2, a3, a4, a5⟩, ⟨b1, ⟨b2, b2'⟩, b3⟩, (by show (qou_ q).length ≤ 8 * (c + 1); omega), z00⟩
    have cmp : f_X4_compares (kh_ σ R B P (upd F 507 0) X Y) R (qle_ q) (qsu_ q) = some (bb9_ (cm9_ (qre_ q) (qle_ q) (qsu_ q)), kh_ σ R B P (upd F 507 0) X Y) := by
      have e10 : upd F 507 0 510 = F 510 := rfl
      unfold f_X4_compares f_X4_compares_b54 cm9_
      rw [gt_t (k6 hP), lt_e, kh_fi, e10]
      by_cases y1 : qre_ q = 60
      · rw [if_pos (a4.mpr y1), if_pos y1]
        by_cases y2 : qsu_ q ≤ qle_ q
        · rw [if_pos y2, gt_t (by decide), decide_eq_false (Int32.not_lt.mpr y2)]; rfl
        · rw [if_neg y2, gt_t (by decide), decide_eq_true (Int32.not_le.mp y2)]; rfl
      · rw [if_neg (fun y => y1 (a4.mp y)), if_neg y1, lt_e]
        by_cases y3 : qre_ q = 62
        · rw [if_pos (a5.mpr y3), if_pos y3]
          by_cases y2 : qle_ q ≤ qsu_ q
          · rw [if_pos y2, gt_t (by decide), decide_eq_false (Int32.not_lt.mpr y2)]; rfl
          · rw [if_neg y2, gt_t (by decide), decide_eq_true (Int32.not_le.mp y2)]; rfl
        · rw [if_neg (fun y => y3 (a5.mp y)), if_neg y3]
          by_cases y2 : qle_ q = qsu_ q
          · rw [if_pos y2, gt_t (by decide), decide_eq_true y2]; rfl
          · rw [if_neg y2, gt_t (by decide), decide_eq_false y2]; rfl
    obtain ⟨F1, q1, u1, o1⟩ := k_decide (Y := Y) hP hm (cm9_ (qre_ q) (qle_ q) (qsu_ q))
    unfold f_X4_takeSum
    rw [if_pos (show nI 6 = (6 : Int32) from rfl), gt_t (k6 hP), lt_e, kh_fi 509, a3, gt_t (k6 hP), lt_e, kh_fi 507, a1, lt_e, kh_si, bd_s, cmp, bd_s, q1, bd_s]
    exact ⟨F1, X, rfl, u1, fun d hd => (o1 d hd).trans (if_neg (by omega))⟩
  rw [if_neg (fun y => z6 ((hk 6 (by decide) 6 rfl).mp y))]
  have len1 : (qou_ q).length ≤ 8 * (c + 1) := by omega
  have sm1 := (PQ_c h0 (Nat.le_succ c)).2.2.2.2
  by_cases z7 : k = 7
  · subst z7
    unfold f_X4_perform_b174 f_X4_perform_b253
    rw [if_pos (show nI 7 = (7 : Int32) from rfl), gt_t (k6 hP), lt_e, kh_fi, b1]
    have fin : ∀ u : Bool, (!qde_ q) = u → PQ_ E keep X0 (c + 1) (q.1, (!qde_ q, q.2.1.2), q.2.2) (upd F 511 (bb9_ u)) X ∧ ∀ d, d < 505 → upd F 511 (bb9_ u) d = F d := fun u hu => by
      rw [hu]
      exact ⟨⟨h1, ⟨a1, a2, a3, a4, a5⟩, ⟨rfl, ⟨b2, b2'⟩, b3⟩, len1, sm1⟩, fun d hd => if_neg (by omega)⟩
    cases ed : qde_ q with
    | false =>
      rw [if_pos (show bb9_ false = 0 from rfl), nn_s, gt_t (k6 hP), gt_t (by decide), lt_e, kh_si]
      exact ⟨_, _, rfl, fin true (by rw [ed]; rfl)⟩
    | true =>
      rw [if_neg (show ¬ bb9_ true = 0 by decide), nn_s, gt_t (k6 hP), gt_t (by decide), lt_e, kh_si]
      exact ⟨_, _, rfl, fin false (by rw [ed]; rfl)⟩
  rw [if_neg (fun y => z7 ((hk 7 (by decide) 7 rfl).mp y))]
  have h0c := PQ_c h0 (Nat.le_succ c)
  have rf : k = 8 ∨ k = 9 ∨ k = 10 → r = false := fun y => by
    cases e : r with
    | false => rfl
    | true =>
      have := h8 e
      exact absurd y (fun y => y.elim this.1 (fun y => y.elim this.2.1 this.2.2))
  by_cases z8 : k = 8
  · subst z8
    have v10 : v < 10 := s4 (Or.inl rfl)
    have kn := (hK.2 (rf (Or.inl rfl))).1 v v10
    obtain ⟨F1, q1, u1, o1⟩ := k_decide (Y := Y) hP h0c (E.2.1 v)
    unfold f_X4_perform_b197 f_X4_perform_b253
    rw [if_pos (show nI 8 = (8 : Int32) from rfl), gt_t (k6 hP), lt_e, kh_fi]
    have key : ∃ F' X', bd_ (f_X4_decide (kh_ σ R B P F X Y) R (bb9_ (E.2.1 v))) (fun x32 s33 => some ((), s33)) = some ((), kh_ σ R B P F' X' Y) ∧ PQ_ E keep X0 (c + 1) (qs_ E q (8, v)) F' X' ∧ ∀ d, d < 505 → F' d = F d := by
      rw [q1, bd_s]
      exact ⟨F1, X, rfl, u1, o1⟩
    by_cases y : F 502 &&& ((1 : Int32) <<< (nI v &&& 31)) = 0
    · rw [if_pos y, nn_s, gt_t (k6 hP)]
      rw [kn.mp y] at key
      exact key
    · rw [if_neg y, nn_s, gt_t (k6 hP)]
      have ev : E.2.1 v = true := by
        cases e : E.2.1 v with
        | true => rfl
        | false => exact absurd (kn.mpr e) y
      rw [ev] at key
      exact key
  rw [if_neg (fun y => z8 ((hk 8 (by decide) 8 rfl).mp y))]
  by_cases z9 : k = 9
  · subst z9
    have v10 : v < 10 := s4 (Or.inr rfl)
    have kn := (hK.2 (rf (Or.inr (Or.inl rfl)))).2.1 v v10
    obtain ⟨F1, q1, u1, o1⟩ := k_decide (Y := Y) hP h0c (E.2.2.1 v)
    unfold f_X4_perform_b220 f_X4_perform_b253
    rw [if_pos (show nI 9 = (9 : Int32) from rfl), gt_t (k6 hP), lt_e, kh_fi]
    have key : ∃ F' X', bd_ (f_X4_decide (kh_ σ R B P F X Y) R (bb9_ (E.2.2.1 v))) (fun x32 s33 => some ((), s33)) = some ((), kh_ σ R B P F' X' Y) ∧ PQ_ E keep X0 (c + 1) (qs_ E q (9, v)) F' X' ∧ ∀ d, d < 505 → F' d = F d := by
      rw [q1, bd_s]
      exact ⟨F1, X, rfl, u1, o1⟩
    by_cases y : F 503 &&& ((1 : Int32) <<< (nI v &&& 31)) = 0
    · rw [if_pos y, nn_s, gt_t (k6 hP)]
      rw [kn.mp y] at key
      exact key
    · rw [if_neg y, nn_s, gt_t (k6 hP)]
      have ev : E.2.2.1 v = true := by
        cases e : E.2.2.1 v with
        | true => rfl
        | false => exact absurd (kn.mpr e) y
      rw [ev] at key
      exact key
  rw [if_neg (fun y => z9 ((hk 9 (by decide) 9 rfl).mp y))]
  by_cases z10 : k = 10
  · subst z10
    have kn := (hK.2 (rf (Or.inr (Or.inr rfl)))).2.2
    obtain ⟨F1, q1, u1, o1⟩ := k_decide (Y := Y) hP h0c E.2.2.2
    rw [if_pos (show nI 10 = (10 : Int32) from rfl), gt_t (k6 hP), lt_e, kh_fi, kn, q1, bd_s]
    exact ⟨F1, X, rfl, u1, o1⟩
  rw [if_neg (fun y => z10 ((hk 10 (by decide) 10 rfl).mp y))]
  by_cases z11 : k = 11
  · subst z11
    rw [if_pos (show nI 11 = (11 : Int32) from rfl), gt_t (k6 hP), lt_e, kh_si]
    exact ⟨_, _, rfl, ⟨h1, ⟨a1, a2, a3, a4, a5⟩, ⟨b1, ⟨rfl, Nat.zero_le _⟩, b3⟩, len1, sm1⟩, fun d hd => if_neg (by omega)⟩
  rw [if_neg (fun y => z11 ((hk 11 (by decide) 11 rfl).mp y))]
  by_cases z12 : k = 12
  · subst z12
    rw [if_pos (show nI 12 = (12 : Int32) from rfl), gt_t (k6 hP), lt_e, kh_si]
    exact ⟨_, _, rfl, ⟨h1, ⟨a1, a2, a3, a4, a5⟩, ⟨b1, ⟨rfl, s2⟩, b3⟩, len1, sm1⟩, fun d hd => if_neg (by omega)⟩
  rw [if_neg (fun y => z12 ((hk 12 (by decide) 12 rfl).mp y))]
  have k13 : k = 13 := by omega
  subst k13
  exact ⟨F, X, rfl, h0c, fun _ _ => rfl⟩
end PF
