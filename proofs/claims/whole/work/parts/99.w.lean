/-! THE CLASS'S READER ON THE HEAP: signs and plain bytes. Written by wip/b/mk99w.py. -/
theorem eb5_t {l : Nat} (hl : l < 5) (e : Nat → Bool) : (nI (eb5_ e) &&& ((1 : Int32) <<< (nI l &&& 31))) = 0 ↔ e l = false := by
  have key : ∀ b0 b1 b2 b3 b4 : Bool, ∀ l, l < 5 → ((nI ((if b0 = true then 1 else 0) + (if b1 = true then 2 else 0) + (if b2 = true then 4 else 0) + (if b3 = true then 8 else 0) + (if b4 = true then 16 else 0)) &&& ((1 : Int32) <<< (nI l &&& 31))) = 0 ↔ (([b0, b1, b2, b3, b4] : List Bool).getD l false) = false) := by decide +kernel
  have k := key (e 0) (e 1) (e 2) (e 3) (e 4) l hl
  unfold eb5_
  rw [k]
  rcases (by omega : l = 0 ∨ l = 1 ∨ l = 2 ∨ l = 3 ∨ l = 4) with rfl | rfl | rfl | rfl | rfl <;> exact Iff.rfl
theorem eb5_1 {l : Nat} (hl : l < 5) (e : Nat → Bool) : nI (eb5_ e) ||| ((1 : Int32) <<< (nI l &&& 31)) = nI (eb5_ (fun q => if q = l then true else e q)) := by
  have key : ∀ b0 b1 b2 b3 b4 : Bool, ∀ l, l < 5 → nI ((if b0 = true then 1 else 0) + (if b1 = true then 2 else 0) + (if b2 = true then 4 else 0) + (if b3 = true then 8 else 0) + (if b4 = true then 16 else 0)) ||| ((1 : Int32) <<< (nI l &&& 31)) = nI ((if (if 0 = l then true else b0) = true then 1 else 0) + (if (if 1 = l then true else b1) = true then 2 else 0) + (if (if 2 = l then true else b2) = true then 4 else 0) + (if (if 3 = l then true else b3) = true then 8 else 0) + (if (if 4 = l then true else b4) = true then 16 else 0)) := by decide +kernel
  exact key (e 0) (e 1) (e 2) (e 3) (e 4) l hl
theorem eb5_0 {l : Nat} (hl : l < 5) (e : Nat → Bool) : nI (eb5_ e) &&& (((1 : Int32) <<< (nI l &&& 31)) ^^^ (-1 : Int32)) = nI (eb5_ (fun q => if q = l then false else e q)) := by
  have key : ∀ b0 b1 b2 b3 b4 : Bool, ∀ l, l < 5 → nI ((if b0 = true then 1 else 0) + (if b1 = true then 2 else 0) + (if b2 = true then 4 else 0) + (if b3 = true then 8 else 0) + (if b4 = true then 16 else 0)) &&& (((1 : Int32) <<< (nI l &&& 31)) ^^^ (-1 : Int32)) = nI ((if (if 0 = l then false else b0) = true then 1 else 0) + (if (if 1 = l then false else b1) = true then 2 else 0) + (if (if 2 = l then false else b2) = true then 4 else 0) + (if (if 3 = l then false else b3) = true then 8 else 0) + (if (if 4 = l then false else b4) = true then 16 else 0)) := by decide +kernel
  exact key (e 0) (e 1) (e 2) (e 3) (e 4) l hl
theorem aim_len (S : List SP) (i : Nat) : (aim_ S i).length = S.length := by
  unfold aim_
  rw [List.length_set]
theorem aim_gd {S : List SP} {i : Nat} (h : i < S.length) (j : Nat) : (aim_ S i).getD j (0, 0) = if j = i then ((S.getD i (0, 0)).1, S.length) else S.getD j (0, 0) := by
  unfold aim_
  by_cases z : j = i
  · subst z
    rw [if_pos rfl]
    simp [List.getD, List.getElem?_set, h]
  · rw [if_neg z]
    simp [List.getD, List.getElem?_set, Ne.symm z]
theorem se9_or (s k : Nat) : se9_ (s, 0) ||| nI k = se9_ (s, k) := by
  unfold se9_
  have e : nI 0 = 0 := rfl
  rw [e]
  simp
section SG9
variable {σ : TH} {R T S K : Nat} {r : Bool} {n : Nat} {m : MM} {a L : Nat} {F X Y : Nat → Int32}
theorem PR_en (h : PR_ r n m a L F X Y) (hd : md9_ m < 5) {v : Int32} (hv : v = nI (mS_ m).length) : PR_ r n ((0, mj_ m, 0, mb_ m, md9_ m + 1), m.2.1, (fun q => if q = md9_ m then (mS_ m).length else m.2.2.1 q), mc_ m, mS_ m ++ [(13, 0)]) a (L + 1) (upd (upd (upd (upd F 706 (nI ((mS_ m).length + 1))) 714 (nI (md9_ m + 1))) 712 0) 710 0) (upd X (mS_ m).length (se9_ (13, 0))) (upd Y (md9_ m) v) := by
  have h2 := PR_em h (s := 13) (d := 0) (sk9_o (by decide) (by decide) (by decide))
  obtain ⟨⟨a1, a2, a3, a4, a5⟩, ⟨b1, b2, b3, b4, b5, b6⟩, ⟨c1, c2, c3⟩, ⟨d1, d2⟩, ⟨e1, e2, e3, e4, e5, e6⟩, f, g1, g2⟩ := h2
  have g0 := h.2.2.2.2.2.2.1
  subst hv
  refine ⟨⟨a1, a2, a3, a4, a5⟩, ⟨rfl, b2, rfl, fun q => (by cases q), rfl, b6⟩, ⟨c1, c2, c3⟩, ⟨d1, fun q hq => ?_⟩, ⟨(by decide : (0 : Nat) ≤ 11), e2, (by decide : (0 : Nat) ≤ 2), ?_, e5, e6⟩, f, fun q hq => ?_, fun q q' h1 h3 => ?_⟩
  · have hq : q < md9_ m + 1 := hq
    show upd Y (md9_ m) (nI (mS_ m).length) q = nI (if q = md9_ m then (mS_ m).length else m.2.2.1 q)
    by_cases z : q = md9_ m
    · rw [if_pos z]; exact if_pos z
    · rw [if_neg z]; exact (if_neg z).trans (d2 q (show q < md9_ m by omega))
  · show md9_ m + 1 ≤ 5
    omega
  · have hq : q < md9_ m + 1 := hq
    show (if q = md9_ m then (mS_ m).length else m.2.2.1 q) < (mS_ m ++ [(13, 0)]).length ∧ ((mS_ m ++ [(13, 0)]).getD (if q = md9_ m then (mS_ m).length else m.2.2.1 q) (0, 0) = (13, 0) ∨ (mS_ m ++ [(13, 0)]).getD (if q = md9_ m then (mS_ m).length else m.2.2.1 q) (0, 0) = (14, 0))
    by_cases z : q = md9_ m
    · rw [if_pos z, gd_last, ln_app]; exact ⟨by omega, Or.inl rfl⟩
    · rw [if_neg z]; exact g1 q (show q < md9_ m by omega)
  · have h3 : q' < md9_ m + 1 := h3
    show (if q = md9_ m then (mS_ m).length else m.2.2.1 q) < (if q' = md9_ m then (mS_ m).length else m.2.2.1 q')
    rw [if_neg (show ¬ q = md9_ m by omega)]
    by_cases z : q' = md9_ m
    · rw [if_pos z]; exact (g0 q (by omega)).1
    · rw [if_neg z]; exact g2 q q' h1 (show q' < md9_ m by omega)
theorem k_enterIf (hS : hS_ σ R T S K) (h : PR_ r n m a L F X Y) (hL : L + 1 < 1024) : ∃ F' X' Y', f_X6_enterIf (kh_ σ R S K F X Y) R = some ((), kh_ σ R S K F' X' Y') ∧ ou9_ r n (if ms_ (mcl_ m) = 11 ∧ r = false ∧ md9_ m < 5 then .inr ((0, mj_ m, 0, mb_ m, md9_ m + 1), m.2.1, (fun q => if q = md9_ m then (mS_ (mcl_ m)).length else m.2.2.1 q), mc_ m, mS_ (mcl_ m) ++ [(13, 0)]) else .inl (1, a)) a (L + 2) F' X' Y' := by
  obtain ⟨F1, X1, q1, h1⟩ := k_closeC hS h (by omega)
  have t1 : F1 710 = nI (ms_ (mcl_ m)) := h1.2.1.1
  have u1 : ms_ (mcl_ m) ≤ 11 := h1.2.2.2.2.1.1
  have t7 : F1 707 = (if r = true then 1 else 0) := h1.1.2.2.1
  have t14 : F1 714 = nI (md9_ m) := by rw [h1.2.1.2.2.2.2.1, md_mcl]
  have u14 : md9_ m ≤ 5 := h.2.2.2.2.1.2.2.2.1
  have t9 : F1 709 = nI a := h1.1.2.2.2.2
  have t6 : F1 706 = nI (mS_ (mcl_ m)).length := h1.1.2.1
  have l6 : (mS_ (mcl_ m)).length ≤ L + 1 := h1.2.2.2.2.2.1.1
  have fl : ∀ x : FT ⊕ MM, x = .inl (1, a) → ∃ F' X' Y', f_X6_enterIf_b28 (kh_ σ R S K F1 X1 Y) R = some ((), kh_ σ R S K F' X' Y') ∧ ou9_ r n x a (L + 2) F' X' Y' := fun x hx => by
    subst hx
    unfold f_X6_enterIf_b28
    obtain ⟨F2, q1, q2⟩ := k_failP (F := F1) (X := X1) (Y := Y) hS (p1 := 1) (p2 := nI a) (f := 1) (p := a) rfl rfl (by decide)
    rw [gt_t (k8 hS), lt_e, kh_fi, t9, q1, bd_s]
    exact ⟨_, _, _, rfl, q2 _ _ _ _⟩
  unfold f_X6_enterIf
  rw [gt_t (k8 hS), q1, bd_s, lt_e, kh_fi, t1]
  by_cases z1 : ms_ (mcl_ m) = 11
  · rw [if_pos ((iq9_ (b := 11) (B := 11) rfl (by omega) (by decide)).mpr z1), lt_e, kh_fi, t7]
    cases r with
    | true =>
      rw [if_pos (show true = true from rfl), if_neg (show ¬ (1 : Int32) = 0 by decide)]
      exact fl _ (if_neg (fun q => by cases q.2.1))
    | false =>
      rw [if_neg (show ¬ (false = true) by decide), if_pos rfl, lt_e, kh_fi, t14]
      by_cases z2 : md9_ m < 5
      · have s1 : fr_ (kh_ σ R S K F1 X1 Y) 705 R = some K := hS.2.1.2.2
        have s2 : ∀ F X Y, kd_ (kh_ σ R S K F X Y) K = 20 := fun _ _ _ => hS.2.2.2.2.1.1
        have s3 : ∀ F X Y, ln_ (kh_ σ R S K F X Y) K = 5 := fun _ _ _ => hS.2.2.2.2.1.2
        have q2 : ¬ nI (md9_ m) < 0 := nI_pos (by omega)
        have e14 : upd F1 706 (nI ((mS_ (mcl_ m)).length + 1)) 714 = nI (md9_ m) := t14
        rw [if_pos (show nI (md9_ m) < 5 from nI_lt (b := 5) z2 (by decide)), if_pos (show ms_ (mcl_ m) = 11 ∧ false = false ∧ md9_ m < 5 from ⟨z1, rfl, z2⟩), lt_e, s1, lt_e, k_emit hS t6 (by omega), bd_s, nn_s, gt_t (s2 _ _ _), s3, nI_clamp (by omega), gt_t (ix9_ (k := md9_ m) (M := 5) (by omega) (by omega)), lt_e, kh_sK hS.2.2.2.2.2.1, lt_e, kh_fi, e14, nI_1, lt_e, kh_si, lt_e, kh_si, lt_e, kh_si]
        refine ⟨_, _, _, rfl, ?_⟩
        have h3 := PR_en h1 (by rw [md_mcl]; exact z2) (v := nI (mS_ (mcl_ m)).length) rfl
        have e : (((0, mj_ (mcl_ m), 0, mb_ (mcl_ m), md9_ (mcl_ m) + 1), (mcl_ m).2.1, (fun q => if q = md9_ (mcl_ m) then (mS_ (mcl_ m)).length else (mcl_ m).2.2.1 q), mc_ (mcl_ m), mS_ (mcl_ m) ++ [(13, 0)]) : MM) = ((0, mj_ m, 0, mb_ m, md9_ m + 1), m.2.1, (fun q => if q = md9_ m then (mS_ (mcl_ m)).length else m.2.2.1 q), mc_ m, mS_ (mcl_ m) ++ [(13, 0)]) := by
          unfold mcl_
          split <;> rfl
        rw [e, md_mcl] at h3
        exact h3
      · rw [if_neg (show ¬ nI (md9_ m) < 5 from nI_nlt (b := 5) (by omega) (by omega))]
        exact fl _ (if_neg (fun q => z2 q.2.2))
  · rw [if_neg (fun q => z1 ((iq9_ (b := 11) (B := 11) rfl (by omega) (by decide)).mp q))]
    exact fl _ (if_neg (fun q => z1 q.1))
theorem k_closeSum (hS : hS_ σ R T S K) (h : PR_ r n m a L F X Y) (hL : L < 1024) : ∃ F' X', f_X6_closeSum (kh_ σ R S K F X Y) R = some ((), kh_ σ R S K F' X' Y) ∧ ou9_ r n (if ms_ m = 8 then .inr (mst_ m 0 [(4, 0)]) else .inl (1, a)) a (L + 1) F' X' Y := by
  have hs11 : ms_ m ≤ 11 := h.2.2.2.2.1.1
  unfold f_X6_closeSum
  rw [gt_t (k8 hS), lt_e, kh_fi, h.2.1.1]
  by_cases z : ms_ m = 8
  · obtain ⟨F3, X3, q3, h3⟩ := k_emP hS h hL (p1 := 4) (p2 := 0) (s := 4) (d := 0) rfl rfl (sk9_o (by decide) (by decide) (by decide))
    rw [if_pos ((iq9_ (b := 8) (B := 8) rfl (by omega) (by decide)).mpr z), if_pos z, q3, bd_s, lt_e, kh_si]
    exact ⟨_, _, rfl, PR_st h3 (s := 0) (by decide) (by decide)⟩
  · obtain ⟨F2, q1, q2⟩ := k_failP (F := F) (X := X) (Y := Y) hS (p1 := 1) (p2 := nI a) (f := 1) (p := a) rfl rfl (by decide)
    rw [if_neg (fun q => z ((iq9_ (b := 8) (B := 8) rfl (by omega) (by decide)).mp q)), if_neg z, lt_e, kh_fi, h.1.2.2.2.2, q1, bd_s]
    exact ⟨_, _, rfl, q2 _ _ _ _⟩
theorem k_relate (hS : hS_ σ R T S K) (h : PR_ r n m a L F X Y) (hL : L < 1024) {p : Int32} {c : Nat} (hp : p = nI c) (hc : c < 128) : ∃ F' X', f_X6_relate (kh_ σ R S K F X Y) R p = some ((), kh_ σ R S K F' X' Y) ∧ ou9_ r n (if ms_ m = 9 then .inr (mst_ m 7 [(5, c)]) else .inl (1, a)) a (L + 1) F' X' Y := by
  have hs11 : ms_ m ≤ 11 := h.2.2.2.2.1.1
  unfold f_X6_relate
  rw [gt_t (k8 hS), lt_e, kh_fi, h.2.1.1]
  by_cases z : ms_ m = 9
  · obtain ⟨F3, X3, q3, h3⟩ := k_emP hS h hL (p1 := 5) (p2 := p) (s := 5) (d := c) rfl hp (sk9_o (by decide) (by omega) (by decide))
    rw [if_pos ((iq9_ (b := 9) (B := 9) rfl (by omega) (by decide)).mpr z), if_pos z, q3, bd_s, lt_e, kh_si]
    exact ⟨_, _, rfl, PR_st h3 (s := 7) (by decide) (by decide)⟩
  · obtain ⟨F2, q1, q2⟩ := k_failP (F := F) (X := X) (Y := Y) hS (p1 := 1) (p2 := nI a) (f := 1) (p := a) rfl rfl (by decide)
    rw [if_neg (fun q => z ((iq9_ (b := 9) (B := 9) rfl (by omega) (by decide)).mp q)), if_neg z, lt_e, kh_fi, h.1.2.2.2.2, q1, bd_s]
    exact ⟨_, _, rfl, q2 _ _ _ _⟩
theorem k_goOn (hS : hS_ σ R T S K) (h : PR_ r n m a L F X Y) (hL : L < 1024) {p : Int32} {c : Nat} (hp : p = nI c) (hc : c < 128) : ∃ F' X', f_X6_goOnAdding (kh_ σ R S K F X Y) R p = some ((), kh_ σ R S K F' X' Y) ∧ ou9_ r n (if 8 ≤ ms_ m ∧ ms_ m ≤ 10 then .inr (mst_ m (ms_ m - 3) (if c = 45 then [(3, 0)] else [])) else .inl (1, a)) a (L + 1) F' X' Y := by
  have hs11 : ms_ m ≤ 11 := h.2.2.2.2.1.1
  have k8' : ∀ s, s < 12 → (bi_ ((8 : Int32) ≤ nI s ∧ nI s ≤ 10) = bi_ (8 ≤ s ∧ s ≤ 10)) := by decide +kernel
  have k3 : ∀ s, s < 12 → 8 ≤ s → nI s - 8 + 5 = nI (s - 3) := by decide +kernel
  unfold f_X6_goOnAdding f_X6_goOnAdding_b37
  rw [gt_t (k8 hS), lt_e, kh_fi, h.2.1.1, k_within, bd_s, k8' _ (by omega : ms_ m < 12)]
  by_cases z : 8 ≤ ms_ m ∧ ms_ m ≤ 10
  · rw [if_pos z, bi_t z, if_neg (by decide)]
    by_cases z2 : c = 45
    · obtain ⟨F3, X3, q3, h3⟩ := k_emP hS h hL (p1 := 3) (p2 := 0) (s := 3) (d := 0) rfl rfl (sk9_o (by decide) (by decide) (by decide))
      have s3 : F3 710 = nI (ms_ m) := h3.2.1.1
      rw [hp, if_pos ((iq9_ (b := 45) (B := 45) rfl (by omega) (by decide)).mpr z2), if_pos z2, q3, bd_s, gt_t (k8 hS), lt_e, kh_fi, s3, lt_e, k3 _ (by omega) z.1, kh_si]
      exact ⟨_, _, rfl, PR_st h3 (s := ms_ m - 3) (by omega) (by omega)⟩
    · rw [hp, if_neg (fun q => z2 ((iq9_ (b := 45) (B := 45) rfl (by omega) (by decide)).mp q)), if_neg z2, gt_t (k8 hS), lt_e, kh_fi, h.2.1.1, lt_e, k3 _ (by omega) z.1, kh_si, mst_nil]
      exact ⟨_, _, rfl, PR_L (PR_st h (s := ms_ m - 3) (by omega) (by omega)) (by omega)⟩
  · obtain ⟨F2, q1, q2⟩ := k_failP (F := F) (X := X) (Y := Y) hS (p1 := 1) (p2 := nI a) (f := 1) (p := a) rfl rfl (by decide)
    rw [if_neg z, bi_f z, if_pos rfl, lt_e, kh_fi, h.1.2.2.2.2, q1, bd_s]
    exact ⟨_, _, rfl, q2 _ _ _ _⟩
theorem ou9_inc {x : FT ⊕ MM} (h : ou9_ r n x a L F X Y) : ou9_ r n x (a + 1) L (upd F 709 (F 709 + 1)) X Y := by
  cases x with
  | inl e => exact h
  | inr m =>
    have e : F 709 + 1 = nI (a + 1) := by rw [h.1.2.2.2.2, nI_1]
    rw [e]
    exact PR_at h (a + 1)
theorem k_118 (hS : hS_ σ R T S K) : f_X6_readSign_b118 (kh_ σ R S K F X Y) R = some ((), kh_ σ R S K (upd F 709 (F 709 + 1)) X Y) := by
  unfold f_X6_readSign_b118
  rw [gt_t (k8 hS), lt_e, kh_fi, lt_e, kh_si]
/-- A SIGN -/
theorem k_sign (hS : hS_ σ R T S K) (h : PR_ r n m a L F X Y) (hL : L + 1 < 1024) {c : Nat} (q : Nat) (hc : ok9_ c) (h32 : c ≠ 32) : ∃ F' X' Y', f_X6_readSign (kh_ σ R S K F X Y) R (sb9_ c) = some ((), kh_ σ R S K F' X' Y') ∧ ou9_ r n (tr9_ r m (3, c, a, q)) (a + 1) (L + 2) F' X' Y' := by
  have g : ∀ d, 0 < d ∧ d < 128 → ∀ D : Int32, D = nI d → (sb9_ c = D ↔ c = d) := fun d hd D e => sb9_eq hc hd e
  have sbn : c < 128 → sb9_ c = nI c := fun z => if_pos z
  have tr : tr9_ r m (3, c, a, q) = (if c = 43 ∨ c = 45 then (if 8 ≤ ms_ m ∧ ms_ m ≤ 10 then .inr (mst_ m (ms_ m - 3) (if c = 45 then [(3, 0)] else [])) else .inl (1, a))
    else if c = 60 ∨ c = 61 ∨ c = 62 then (if ms_ m = 9 then .inr (mst_ m 7 [(5, c)]) else .inl (1, a))
    else if c = 125 then (if ms_ m = 8 then .inr (mst_ m 0 [(4, 0)]) else .inl (1, a))
    else if c = 58 then
      (if ms_ (mcl_ m) = 11 ∧ r = false ∧ md9_ m < 5 then .inr ((0, mj_ m, 0, mb_ m, md9_ m + 1), m.2.1, (fun q => if q = md9_ m then (mS_ (mcl_ m)).length else m.2.2.1 q), mc_ m, mS_ (mcl_ m) ++ [(13, 0)]) else .inl (1, a))
    else .inl (1, a)) := rfl
  rw [tr]
  have add : c = 43 ∨ c = 45 → ∃ F' X' Y', f_X6_readSign_b79 (kh_ σ R S K F X Y) R (sb9_ c) = some ((), kh_ σ R S K F' X' Y') ∧ ou9_ r n (if 8 ≤ ms_ m ∧ ms_ m ≤ 10 then .inr (mst_ m (ms_ m - 3) (if c = 45 then [(3, 0)] else [])) else .inl (1, a)) (a + 1) (L + 2) F' X' Y' := fun z => by
    obtain ⟨F3, X3, q3, h3⟩ := k_goOn hS h (by omega) (sbn (by omega)) (by omega)
    unfold f_X6_readSign_b79
    rw [gt_t (k8 hS), q3, bd_s, k_118 hS]
    exact ⟨_, _, _, rfl, ou9_L (ou9_inc h3) (by omega)⟩
  have rel : c = 60 ∨ c = 61 ∨ c = 62 → ∃ F' X' Y', f_X6_readSign_b87 (kh_ σ R S K F X Y) R (sb9_ c) = some ((), kh_ σ R S K F' X' Y') ∧ ou9_ r n (if ms_ m = 9 then .inr (mst_ m 7 [(5, c)]) else .inl (1, a)) (a + 1) (L + 2) F' X' Y' := fun z => by
    obtain ⟨F3, X3, q3, h3⟩ := k_relate hS h (by omega) (sbn (by omega)) (by omega)
    unfold f_X6_readSign_b87
    rw [gt_t (k8 hS), q3, bd_s, k_118 hS]
    exact ⟨_, _, _, rfl, ou9_L (ou9_inc h3) (by omega)⟩
  unfold f_X6_readSign
  rw [if_neg (fun y => h32 ((g 32 (by decide) 32 rfl).mp y))]
  by_cases z43 : c = 43
  · rw [if_pos ((g 43 (by decide) 43 rfl).mpr z43), if_pos (show c = 43 ∨ c = 45 from Or.inl z43)]
    exact add (Or.inl z43)
  rw [if_neg (fun y => z43 ((g 43 (by decide) 43 rfl).mp y))]
  by_cases z45 : c = 45
  · rw [if_pos ((g 45 (by decide) 45 rfl).mpr z45), if_pos (show c = 43 ∨ c = 45 from Or.inr z45)]
    exact add (Or.inr z45)
  rw [if_neg (fun y => z45 ((g 45 (by decide) 45 rfl).mp y)), if_neg (show ¬ (c = 43 ∨ c = 45) from fun y => y.elim z43 z45)]
  by_cases z58 : c = 58
  · rw [if_pos ((g 58 (by decide) 58 rfl).mpr z58), if_neg (show ¬ (c = 60 ∨ c = 61 ∨ c = 62) by omega), if_neg (show ¬ c = 125 by omega), if_pos z58]
    obtain ⟨F3, X3, Y3, q3, h3⟩ := k_enterIf hS h hL
    rw [gt_t (k8 hS), q3, bd_s, k_118 hS]
    exact ⟨_, _, _, rfl, ou9_inc h3⟩
  rw [if_neg (fun y => z58 ((g 58 (by decide) 58 rfl).mp y))]
  by_cases z60 : c = 60
  · rw [if_pos ((g 60 (by decide) 60 rfl).mpr z60), if_pos (show c = 60 ∨ c = 61 ∨ c = 62 from Or.inl z60)]
    exact rel (Or.inl z60)
  rw [if_neg (fun y => z60 ((g 60 (by decide) 60 rfl).mp y))]
  by_cases z61 : c = 61
  · rw [if_pos ((g 61 (by decide) 61 rfl).mpr z61), if_pos (show c = 60 ∨ c = 61 ∨ c = 62 from Or.inr (Or.inl z61))]
    exact rel (Or.inr (Or.inl z61))
  rw [if_neg (fun y => z61 ((g 61 (by decide) 61 rfl).mp y))]
  by_cases z62 : c = 62
  · rw [if_pos ((g 62 (by decide) 62 rfl).mpr z62), if_pos (show c = 60 ∨ c = 61 ∨ c = 62 from Or.inr (Or.inr z62))]
    exact rel (Or.inr (Or.inr z62))
  rw [if_neg (fun y => z62 ((g 62 (by decide) 62 rfl).mp y)), if_neg (show ¬ (c = 60 ∨ c = 61 ∨ c = 62) by omega)]
  by_cases z125 : c = 125
  · rw [if_pos ((g 125 (by decide) 125 rfl).mpr z125), if_pos z125]
    obtain ⟨F3, X3, q3, h3⟩ := k_closeSum hS h (by omega)
    rw [gt_t (k8 hS), q3, bd_s, k_118 hS]
    exact ⟨_, _, _, rfl, ou9_L (ou9_inc h3) (by omega)⟩
  rw [if_neg (fun y => z125 ((g 125 (by decide) 125 rfl).mp y)), if_neg z125, if_neg z58]
  obtain ⟨F2, q1, q2⟩ := k_failP (F := F) (X := X) (Y := Y) hS (p1 := 1) (p2 := nI a) (f := 1) (p := a) rfl rfl (by decide)
  rw [gt_t (k8 hS), lt_e, kh_fi, h.1.2.2.2.2, q1, bd_s, k_118 hS]
  exact ⟨_, _, _, rfl, ou9_inc (q2 r n a (L + 2))⟩
/-- A PLAIN BYTE -/
theorem PR_pc (h : PR_ r n m a L F X Y) {k : Nat} (hk : k ≤ 2) (hp : (mc_ m).1 < 60) : PR_ r n ((m.1.1, m.1.2.1, k, m.1.2.2.2), m.2.1, m.2.2.1, ((mc_ m).1 + 1, (mc_ m).2), mS_ m) a L (upd (upd F 712 (nI k)) 716 (nI ((mc_ m).1 + 1))) X Y := by
  obtain ⟨⟨a1, a2, a3, a4, a5⟩, ⟨b1, b2, b3, b4, b5, b6⟩, ⟨c1, c2, c3⟩, d, ⟨e1, e2, e3, e4, e5, e6⟩, f, g⟩ := h
  exact ⟨⟨a1, a2, a3, a4, a5⟩, ⟨b1, b2, rfl, b4, b5, b6⟩, ⟨rfl, c2, c3⟩, d, ⟨e1, e2, hk, e4, (by omega : (mc_ m).1 + 1 ≤ 60), e6⟩, f, g⟩
theorem k_piece (hS : hS_ σ R T S K) (h : PR_ r n m a L F X Y) {p : Int32} {k : Nat} (hp : p = nI k) (hk : k ≤ 2) : ∃ F', f_X6_beginPiece (kh_ σ R S K F X Y) R p = some ((), kh_ σ R S K F' X Y) ∧ ou9_ r n (if (mc_ m).1 = 60 then .inl (3, a) else .inr ((m.1.1, m.1.2.1, k, m.1.2.2.2), m.2.1, m.2.2.1, ((mc_ m).1 + 1, (mc_ m).2), mS_ m)) a L F' X Y := by
  subst hp
  have h60 : (mc_ m).1 ≤ 60 := h.2.2.2.2.1.2.2.2.2.1
  have e16 : upd F 712 (nI k) 716 = nI (mc_ m).1 := h.2.2.1.1
  unfold f_X6_beginPiece f_X6_beginPiece_b33
  rw [gt_t (k8 hS), lt_e, kh_si, lt_e, kh_fi, e16, nI_1, lt_e, kh_si, lt_e, kh_fi, show upd (upd F 712 (nI k)) 716 (nI ((mc_ m).1 + 1)) 716 = nI ((mc_ m).1 + 1) from rfl]
  by_cases z : (mc_ m).1 = 60
  · have e9 : upd (upd F 712 (nI k)) 716 (nI ((mc_ m).1 + 1)) 709 = nI a := h.1.2.2.2.2
    obtain ⟨F2, q1, q2⟩ := k_failP (F := upd (upd F 712 (nI k)) 716 (nI ((mc_ m).1 + 1))) (X := X) (Y := Y) hS (p1 := 3) (p2 := nI a) (f := 3) (p := a) rfl rfl (by decide)
    rw [if_pos z, if_neg (show ¬ nI ((mc_ m).1 + 1) ≤ 60 from nI_ge (a := 60) (by omega) (by omega)), lt_e, kh_fi, e9, q1, bd_s]
    exact ⟨_, rfl, q2 _ _ _ _⟩
  · rw [if_neg z, if_pos (show nI ((mc_ m).1 + 1) ≤ 60 from nI_le (b := 60) (by omega) (by decide))]
    exact ⟨_, rfl, PR_pc h hk (by omega)⟩
theorem k_97 (hS : hS_ σ R T S K) : f_X6_readPlain_b97 (kh_ σ R S K F X Y) R = some ((), kh_ σ R S K (upd F 709 (F 709 + 1)) X Y) := by
  unfold f_X6_readPlain_b97
  rw [gt_t (k8 hS), lt_e, kh_fi, lt_e, kh_si]
/-- a skip is aimed -/
theorem k_aim (hS : hS_ σ R T S K) {l k z : Nat} (hl : l < 5) (e1 : Y l = nI k) (hk : k < 1024) (e2 : F 706 = nI z) : f_X6_aimSkip (kh_ σ R S K F X Y) R (nI l) = some ((), kh_ σ R S K F (upd X k (X k ||| nI z)) Y) := by
  have s1 : fr_ (kh_ σ R S K F X Y) 705 R = some K := hS.2.1.2.2
  have s2 : kd_ (kh_ σ R S K F X Y) K = 20 := hS.2.2.2.2.1.1
  have s3 : ln_ (kh_ σ R S K F X Y) K = 5 := hS.2.2.2.2.1.2
  have s4 : fr_ (kh_ σ R S K F X Y) 704 R = some S := hS.2.1.2.1
  have s5 : kd_ (kh_ σ R S K F X Y) S = 20 := hS.2.2.2.1.1
  have s6 : ln_ (kh_ σ R S K F X Y) S = 1024 := hS.2.2.2.1.2
  have q1 : ¬ nI l < 0 := nI_pos (by omega)
  have q2 : ¬ nI k < 0 := nI_pos (by omega)
  have q3 : (nI l).toNatClampNeg = l := nI_clamp (by omega)
  have q4 : (nI k).toNatClampNeg = k := nI_clamp (by omega)
  unfold f_X6_aimSkip f_X6_aimSkip_b40
  rw [if_neg q1, if_neg (show ¬ (5 : Int32) ≤ nI l from nI_ge (b := 5) hl (by decide)), gt_t (k8 hS), lt_e, s1, nn_s, gt_t s2, s3, q3, gt_t (ix9_ (k := l) (M := 5) (by omega) (by omega)), lt_e, kh_K hS.2.2.2.2.2.1, e1, if_neg q2, if_neg (show ¬ (1024 : Int32) ≤ nI k from nI_ge (b := 1024) hk (by decide)), lt_e, s4, nn_s, gt_t s5, s6, q4, gt_t (ix9_ (k := k) (M := 1024) (by omega) (by omega)), lt_e, kh_S, lt_e, kh_fi, e2, gt_t (ix9_ (k := k) (M := 1024) (by omega) (by omega)), lt_e, kh_sS]
theorem mem_aim {S : List SP} {i : Nat} {s : SP} (h : s ∈ aim_ S i) (hi : i < S.length) {r : Bool} (hS : ∀ s, s ∈ S → sk9_ r s) (h0 : S.getD i (0, 0) = (13, 0) ∨ S.getD i (0, 0) = (14, 0)) (hl : S.length ≤ 9999) : sk9_ r s := by
  unfold aim_ at h
  rcases List.mem_or_eq_of_mem_set h with q | q
  · exact hS s q
  · subst q
    rcases h0 with h0 | h0
    · rw [h0]; exact sk9_o (by decide) hl (by decide)
    · rw [h0]; exact sk9_o (by decide) hl (by decide)
theorem k_else (hS : hS_ σ R T S K) (h : PR_ r n m a L F X Y) (hL : L + 1 < 1024) : ∃ F' X' Y', f_X6_turnToElse (kh_ σ R S K F X Y) R = some ((), kh_ σ R S K F' X' Y') ∧ ou9_ r n (if 0 < md9_ m ∧ md9_ m ≤ 5 ∧ ml_ m ≠ 0 ∧ m.2.1 (md9_ m - 1) = false then .inr ((m.1.1, m.1.2.1, 0, m.1.2.2.2), (fun q => if q = md9_ m - 1 then true else m.2.1 q), (fun q => if q = md9_ m - 1 then (mS_ m).length else m.2.2.1 q), mc_ m, aim_ (mS_ m ++ [(14, 0)]) (m.2.2.1 (md9_ m - 1))) else .inl (1, a)) a (L + 1) F' X' Y' := by
  have fl : ∀ x : FT ⊕ MM, x = .inl (1, a) → ∃ F' X' Y', f_X6_turnToElse_b34 (kh_ σ R S K F X Y) R = some ((), kh_ σ R S K F' X' Y') ∧ ou9_ r n x a (L + 1) F' X' Y' := fun x hx => by
    subst hx
    unfold f_X6_turnToElse_b34
    obtain ⟨F2, q1, q2⟩ := k_failP (F := F) (X := X) (Y := Y) hS (p1 := 1) (p2 := nI a) (f := 1) (p := a) rfl rfl (by decide)
    rw [gt_t (k8 hS), lt_e, kh_fi, h.1.2.2.2.2, q1, bd_s]
    exact ⟨_, _, _, rfl, q2 _ _ _ _⟩
  have t14 : F 714 = nI (md9_ m) := h.2.1.2.2.2.2.1
  have t15 : F 715 = nI (eb5_ m.2.1) := h.2.1.2.2.2.2.2
  have t12 : F 712 = nI (ml_ m) := h.2.1.2.2.1
  have u14 : md9_ m ≤ 5 := h.2.2.2.2.1.2.2.2.1
  have u12 : ml_ m ≤ 2 := h.2.2.2.2.1.2.2.1
  have l6 : (mS_ m).length ≤ L := h.2.2.2.2.2.1.1
  unfold f_X6_turnToElse
  rw [gt_t (k8 hS), lt_e, kh_fi, t14, lt_e]
  by_cases z1 : md9_ m = 0
  · rw [if_pos (by rw [z1]; decide)]
    exact fl _ (if_neg (fun q => by omega))
  obtain ⟨d, hd⟩ : ∃ d, md9_ m = d + 1 := ⟨md9_ m - 1, by omega⟩
  have ed : md9_ m - 1 = d := by omega
  rw [ed, hd, nI_pred, if_neg (nI_pos (by omega)), if_neg (show ¬ (5 : Int32) ≤ nI d from nI_ge (b := 5) (by omega) (by decide)), lt_e, kh_fi, t12]
  by_cases z2 : ml_ m = 0
  · rw [if_pos ((iq9_ (b := 0) (B := 0) rfl (by omega) (by decide)).mpr z2)]
    exact fl _ (if_neg (fun q => q.2.2.1 z2))
  rw [if_neg (fun q => z2 ((iq9_ (b := 0) (B := 0) rfl (by omega) (by decide)).mp q)), lt_e, kh_fi, t15]
  by_cases z3 : m.2.1 d = false
  · have h2 := PR_em h (s := 14) (d := 0) (sk9_o (by decide) (by decide) (by decide))
    obtain ⟨⟨a1, a2, a3, a4, a5⟩, ⟨b1, b2, b3, b4, b5, b6⟩, ⟨c1, c2, c3⟩, ⟨d1, d2⟩, ⟨e1, e2, e3, e4, e5, e6⟩, ⟨f1, f2⟩, g1, g2⟩ := h2
    have g0 := h.2.2.2.2.2.2.1
    have hk := (g0 d (by omega)).1
    have e2' : upd F 706 (nI ((mS_ m).length + 1)) 706 = nI ((mS_ m).length + 1) := rfl
    have e15 : upd F 706 (nI ((mS_ m).length + 1)) 715 = nI (eb5_ m.2.1) := t15
    have s1 : ∀ F X Y, fr_ (kh_ σ R S K F X Y) 705 R = some K := fun _ _ _ => hS.2.1.2.2
    have s2 : ∀ F X Y, kd_ (kh_ σ R S K F X Y) K = 20 := fun _ _ _ => hS.2.2.2.2.1.1
    have s3 : ∀ F X Y, ln_ (kh_ σ R S K F X Y) K = 5 := fun _ _ _ => hS.2.2.2.2.1.2
    have q2 : ¬ nI d < 0 := nI_pos (by omega)
    rw [if_pos ((eb5_t (by omega) _).mpr z3), if_pos (show 0 < d + 1 ∧ d + 1 ≤ 5 ∧ ml_ m ≠ 0 ∧ m.2.1 d = false from ⟨by omega, by omega, z2, z3⟩), k_emit hS h.1.2.1 (by omega), bd_s, k_aim hS (by omega) (d2 d (show d < md9_ m by omega)) (show m.2.2.1 d < 1024 by omega) e2', bd_s, lt_e, s1, nn_s, gt_t (s2 _ _ _), s3, nI_clamp (by omega), gt_t (ix9_ (k := d) (M := 5) (by omega) (by omega)), lt_e, kh_sK hS.2.2.2.2.2.1, lt_e, kh_fi, e15, eb5_1 (by omega), lt_e, kh_si, lt_e, kh_si]
    refine ⟨_, _, _, rfl, ?_⟩
    have lq : (aim_ (mS_ m ++ [(14, 0)]) (m.2.2.1 d)).length = (mS_ m).length + 1 := by rw [aim_len, ln_app]
    have hk' : m.2.2.1 d < (mS_ m ++ [(14, 0)]).length := by rw [ln_app]; omega
    have z0 : (mS_ m ++ [(14, 0)]).getD (m.2.2.1 d) (0, 0) = (13, 0) ∨ (mS_ m ++ [(14, 0)]).getD (m.2.2.1 d) (0, 0) = (14, 0) := (g1 d (show d < md9_ m by omega)).2
    refine ⟨⟨a1, ?_, a3, a4, a5⟩, ⟨b1, b2, rfl, b4, b5, rfl⟩, ⟨c1, c2, c3⟩, ⟨fun i hi => ?_, fun q hq => ?_⟩, ⟨e1, e2, (by decide : (0 : Nat) ≤ 2), e4, e5, e6⟩, ⟨?_, fun s hs => ?_⟩, fun q hq => ?_, fun q q' h1 h3 => ?_⟩
    · show nI ((mS_ m).length + 1) = nI (aim_ (mS_ m ++ [(14, 0)]) (m.2.2.1 d)).length
      rw [lq]
    · have hi : i < (aim_ (mS_ m ++ [(14, 0)]) (m.2.2.1 d)).length := hi
      rw [lq] at hi
      show upd (upd X (mS_ m).length (se9_ (14, 0))) (m.2.2.1 d) (upd X (mS_ m).length (se9_ (14, 0)) (m.2.2.1 d) ||| nI ((mS_ m).length + 1)) i = se9_ ((aim_ (mS_ m ++ [(14, 0)]) (m.2.2.1 d)).getD i (0, 0))
      rw [aim_gd hk']
      by_cases y : i = m.2.2.1 d
      · subst y
        rw [if_pos rfl, ln_app]
        refine (if_pos rfl).trans ?_
        have q := d1 (m.2.2.1 d) hk'
        have q : upd X (mS_ m).length (se9_ (14, 0)) (m.2.2.1 d) = se9_ ((mS_ m ++ [(14, 0)]).getD (m.2.2.1 d) (0, 0)) := q
        rw [q]
        rcases z0 with z0 | z0
        · rw [z0]; exact se9_or _ _
        · rw [z0]; exact se9_or _ _
      · rw [if_neg y]
        exact (if_neg y).trans (d1 i (show i < (mS_ m ++ [(14, 0)]).length by rw [ln_app]; exact hi))
    · have hq : q < md9_ m := hq
      show upd Y d (nI (mS_ m).length) q = nI (if q = d then (mS_ m).length else m.2.2.1 q)
      by_cases y : q = d
      · rw [if_pos y]; exact if_pos y
      · rw [if_neg y]; exact (if_neg y).trans (d2 q hq)
    · show (aim_ (mS_ m ++ [(14, 0)]) (m.2.2.1 d)).length ≤ L + 1
      rw [lq]; omega
    · exact mem_aim hs hk' f2 z0 (by rw [ln_app]; omega)
    · have hq : q < md9_ m := hq
      show (if q = d then (mS_ m).length else m.2.2.1 q) < (aim_ (mS_ m ++ [(14, 0)]) (m.2.2.1 d)).length ∧ ((aim_ (mS_ m ++ [(14, 0)]) (m.2.2.1 d)).getD (if q = d then (mS_ m).length else m.2.2.1 q) (0, 0) = (13, 0) ∨ (aim_ (mS_ m ++ [(14, 0)]) (m.2.2.1 d)).getD (if q = d then (mS_ m).length else m.2.2.1 q) (0, 0) = (14, 0))
      rw [lq, aim_gd hk']
      by_cases y : q = d
      · rw [if_pos y, if_neg (by omega), gd_last]
        exact ⟨by omega, Or.inr rfl⟩
      · have := h.2.2.2.2.2.2.2 q d (by omega) (by omega)
        obtain ⟨v1, v2⟩ := g1 q hq
        have v1 : m.2.2.1 q < (mS_ m ++ [(14, 0)]).length := v1
        rw [ln_app] at v1
        rw [if_neg y, if_neg (by omega)]
        exact ⟨v1, v2⟩
    · have h3 : q' < md9_ m := h3
      show (if q = d then (mS_ m).length else m.2.2.1 q) < (if q' = d then (mS_ m).length else m.2.2.1 q')
      rw [if_neg (show ¬ q = d by omega)]
      by_cases y : q' = d
      · rw [if_pos y]; exact (g0 q (by omega)).1
      · rw [if_neg y]; exact g2 q q' h1 h3
  · rw [if_neg (fun q => z3 ((eb5_t (by omega) _).mp q))]
    exact fl _ (if_neg (fun q => z3 q.2.2.2))
theorem k_closeIf (hS : hS_ σ R T S K) (h : PR_ r n m a L F X Y) (hL : L + 1 < 1024) : ∃ F' X' Y', f_X6_closeIf (kh_ σ R S K F X Y) R = some ((), kh_ σ R S K F' X' Y') ∧ ou9_ r n (if 0 < md9_ m ∧ ml_ m ≠ 0 then .inr ((m.1.1, m.1.2.1, 2, m.1.2.2.2.1, md9_ m - 1), (fun q => if q = md9_ m - 1 then false else m.2.1 q), m.2.2.1, mc_ m, aim_ (mS_ m) (m.2.2.1 (md9_ m - 1))) else .inl (1, a)) a L F' X' Y' := by
  have fl : ∀ x : FT ⊕ MM, x = .inl (1, a) → ∃ F' X' Y', f_X6_closeIf_b14 (kh_ σ R S K F X Y) R = some ((), kh_ σ R S K F' X' Y') ∧ ou9_ r n x a L F' X' Y' := fun x hx => by
    subst hx
    unfold f_X6_closeIf_b14
    obtain ⟨F2, q1, q2⟩ := k_failP (F := F) (X := X) (Y := Y) hS (p1 := 1) (p2 := nI a) (f := 1) (p := a) rfl rfl (by decide)
    rw [gt_t (k8 hS), lt_e, kh_fi, h.1.2.2.2.2, q1, bd_s]
    exact ⟨_, _, _, rfl, q2 _ _ _ _⟩
  have t14 : F 714 = nI (md9_ m) := h.2.1.2.2.2.2.1
  have t15 : F 715 = nI (eb5_ m.2.1) := h.2.1.2.2.2.2.2
  have t12 : F 712 = nI (ml_ m) := h.2.1.2.2.1
  have u14 : md9_ m ≤ 5 := h.2.2.2.2.1.2.2.2.1
  have u12 : ml_ m ≤ 2 := h.2.2.2.2.1.2.2.1
  have l6 : (mS_ m).length ≤ L := h.2.2.2.2.2.1.1
  unfold f_X6_closeIf
  rw [gt_t (k8 hS), lt_e, kh_fi, t14]
  by_cases z1 : md9_ m = 0
  · rw [if_pos (by rw [z1]; rfl)]
    exact fl _ (if_neg (fun q => by omega))
  rw [if_neg (nI_ne0 (by omega) (by omega)), lt_e, kh_fi, t12]
  by_cases z2 : ml_ m = 0
  · rw [if_pos ((iq9_ (b := 0) (B := 0) rfl (by omega) (by decide)).mpr z2)]
    exact fl _ (if_neg (fun q => q.2 z2))
  obtain ⟨d, hd⟩ : ∃ d, md9_ m = d + 1 := ⟨md9_ m - 1, by omega⟩
  have ed : md9_ m - 1 = d := by omega
  obtain ⟨⟨a1, a2, a3, a4, a5⟩, ⟨b1, b2, b3, b4, b5, b6⟩, ⟨c1, c2, c3⟩, ⟨d1, d2⟩, ⟨e1, e2, e3, e4, e5, e6⟩, ⟨f1, f2⟩, g1, g2⟩ := h
  have hk := (g1 d (by omega)).1
  have z0 := (g1 d (by omega)).2
  have e6' : upd F 714 (nI d) 706 = nI (mS_ m).length := a2
  have e15 : upd F 714 (nI d) 715 = nI (eb5_ m.2.1) := t15
  have e14 : upd F 714 (nI d) 714 = nI d := rfl
  rw [if_neg (fun q => z2 ((iq9_ (b := 0) (B := 0) rfl (by omega) (by decide)).mp q)), lt_e, ed, hd, nI_pred, lt_e, kh_si, lt_e, kh_fi, e14, k_aim hS (by omega) (d2 d (by omega)) (by omega) e6', bd_s, lt_e, lt_e, kh_fi 714, e14, kh_fi 715, e15, eb5_0 (by omega), lt_e, kh_si, lt_e, kh_si, if_pos (show 0 < d + 1 ∧ ml_ m ≠ 0 from ⟨by omega, z2⟩)]
  refine ⟨_, _, _, rfl, ?_⟩
  refine ⟨⟨a1, ?_, a3, a4, a5⟩, ⟨b1, b2, rfl, b4, rfl, rfl⟩, ⟨c1, c2, c3⟩, ⟨fun i hi => ?_, fun q hq => ?_⟩, ⟨e1, e2, (by decide : (2 : Nat) ≤ 2), ?_, e5, e6⟩, ⟨?_, fun s hs => ?_⟩, fun q hq => ?_, fun q q' h1 h3 => ?_⟩
  · show upd F 714 (nI d) 706 = nI (aim_ (mS_ m) (m.2.2.1 d)).length
    rw [aim_len]; exact a2
  · have hi : i < (aim_ (mS_ m) (m.2.2.1 d)).length := hi
    rw [aim_len] at hi
    show upd X (m.2.2.1 d) (X (m.2.2.1 d) ||| nI (mS_ m).length) i = se9_ ((aim_ (mS_ m) (m.2.2.1 d)).getD i (0, 0))
    rw [aim_gd hk]
    by_cases y : i = m.2.2.1 d
    · subst y
      rw [if_pos rfl]
      refine (if_pos rfl).trans ?_
      rw [d1 _ hk]
      rcases z0 with z0 | z0
      · rw [z0]; exact se9_or _ _
      · rw [z0]; exact se9_or _ _
    · rw [if_neg y]
      exact (if_neg y).trans (d1 i hi)
  · have hq : q < d := hq
    exact d2 q (by omega)
  · show d ≤ 5
    omega
  · show (aim_ (mS_ m) (m.2.2.1 d)).length ≤ L
    rw [aim_len]; exact f1
  · exact mem_aim hs hk f2 z0 (by omega)
  · have hq : q < d := hq
    show m.2.2.1 q < (aim_ (mS_ m) (m.2.2.1 d)).length ∧ ((aim_ (mS_ m) (m.2.2.1 d)).getD (m.2.2.1 q) (0, 0) = (13, 0) ∨ (aim_ (mS_ m) (m.2.2.1 d)).getD (m.2.2.1 q) (0, 0) = (14, 0))
    have := g2 q d hq (by omega)
    rw [aim_len, aim_gd hk, if_neg (by omega)]
    exact g1 q (by omega)
  · have h3 : q' < d := h3
    exact g2 q q' h1 (by omega)
theorem k_plain (hS : hS_ σ R T S K) (h : PR_ r n m a L F X Y) (hL : L + 1 < 1024) (hm : ms_ m = 0) {c : Nat} (hc : c < 256) : ∃ F' X' Y', f_X6_readPlain (kh_ σ R S K F X Y) R (sb9_ c) = some ((), kh_ σ R S K F' X' Y') ∧ ou9_ r n (tp8_ m a c) (a + 1) (L + 1) F' X' Y' := by
  have g : ∀ d, 0 < d ∧ d < 128 → ∀ D : Int32, D = nI d → (sb9_ c = D ↔ c = d) := fun d hd D e => sb9_eq (Or.inl hc) hd e
  have kr : ∀ c, c < 256 → ((sb9_ c < 32 ∨ ¬ sb9_ c ≤ 126) ↔ (c < 32 ∨ 126 < c)) := by decide +kernel
  have kr := kr c hc
  unfold tp8_
  have fl : ∃ F' X' Y', f_X6_readPlain_b12 (kh_ σ R S K F X Y) R = some ((), kh_ σ R S K F' X' Y') ∧ ou9_ r n (.inl (1, a)) (a + 1) (L + 1) F' X' Y' := by
    unfold f_X6_readPlain_b12
    obtain ⟨F2, q1, q2⟩ := k_failP (F := F) (X := X) (Y := Y) hS (p1 := 1) (p2 := nI a) (f := 1) (p := a) rfl rfl (by decide)
    rw [gt_t (k8 hS), lt_e, kh_fi, h.1.2.2.2.2, q1, bd_s, k_97 hS]
    exact ⟨_, _, _, rfl, ou9_inc (q2 r n a (L + 1))⟩
  unfold f_X6_readPlain
  by_cases z1 : sb9_ c < 32
  · rw [if_pos z1, if_pos (kr.mp (Or.inl z1))]
    exact fl
  rw [if_neg z1]
  by_cases z2 : sb9_ c ≤ 126
  · have z3 : ¬ (c < 32 ∨ 126 < c) := fun q => (kr.mpr q).elim z1 (fun q => q z2)
    have sc : sb9_ c = nI c := if_pos (by omega)
    rw [if_pos z2, if_neg z3]
    by_cases w1 : c = 123
    · rw [if_pos ((g 123 (by decide) 123 rfl).mpr w1), if_pos w1]
      obtain ⟨F1, q1, h1⟩ := k_piece hS h (p := 2) (k := 2) rfl (by decide)
      rw [gt_t (k8 hS), q1, bd_s, lt_e, kh_fi, lt_e, kh_si, lt_e, kh_si, k_97 hS]
      unfold mpc_
      refine ⟨_, _, _, rfl, ?_⟩
      revert h1
      by_cases z : (mc_ m).1 = 60
      · rw [if_pos z, if_pos z]
        intro h1
        exact h1
      · rw [if_neg z, if_neg z]
        intro h1
        have e9 : F1 709 = nI a := h1.1.2.2.2.2
        rw [e9]
        have h2 : PR_ r n ((1, m.1.2.1, 2, a, m.1.2.2.2.2), m.2.1, m.2.2.1, ((mc_ m).1 + 1, (mc_ m).2), mS_ m) a L (upd (upd F1 713 (nI a)) 710 1) X Y := by
          obtain ⟨⟨a1, a2, a3, a4, a5⟩, ⟨b1, b2, b3, b4, b5, b6⟩, ⟨c1, c2, c3⟩, d, ⟨e1, e2⟩, f, g⟩ := h1
          exact ⟨⟨a1, a2, a3, a4, a5⟩, ⟨rfl, b2, b3, fun _ => rfl, b5, b6⟩, ⟨c1, c2, c3⟩, d, ⟨(by decide : (1 : Nat) ≤ 11), e2⟩, f, g⟩
        exact PR_L (ou9_inc (x := .inr _) h2) (by omega)
    rw [if_neg (fun y => w1 ((g 123 (by decide) 123 rfl).mp y)), if_neg w1]
    by_cases w2 : c = 124
    · rw [if_pos ((g 124 (by decide) 124 rfl).mpr w2), if_pos w2]
      obtain ⟨F1, X1, Y1, q1, h1⟩ := k_else hS h hL
      rw [gt_t (k8 hS), q1, bd_s, k_97 hS]
      exact ⟨_, _, _, rfl, ou9_inc h1⟩
    rw [if_neg (fun y => w2 ((g 124 (by decide) 124 rfl).mp y)), if_neg w2]
    by_cases w3 : c = 125
    · rw [if_pos ((g 125 (by decide) 125 rfl).mpr w3), if_pos w3]
      obtain ⟨F1, X1, Y1, q1, h1⟩ := k_closeIf hS h hL
      rw [gt_t (k8 hS), q1, bd_s, k_97 hS]
      exact ⟨_, _, _, rfl, ou9_L (ou9_inc h1) (by omega)⟩
    rw [if_neg (fun y => w3 ((g 125 (by decide) 125 rfl).mp y)), if_neg w3, gt_t (k8 hS), lt_e, kh_fi, h.2.1.2.2.1]
    have u12 : ml_ m ≤ 2 := h.2.2.2.2.1.2.2.1
    by_cases w4 : ml_ m = 1
    · rw [if_pos ((iq9_ (b := 1) (B := 1) rfl (by omega) (by decide)).mpr w4), if_pos w4]
      obtain ⟨F3, X3, q3, h3⟩ := k_emP hS h (by omega) (p1 := 0) (p2 := sb9_ c) (s := 0) (d := c) rfl sc (sk9_o (by decide) (by omega) (by decide))
      unfold f_X6_readPlain_b90
      rw [gt_t (k8 hS), q3, bd_s, k_97 hS]
      exact ⟨_, _, _, rfl, ou9_inc (x := .inr _) h3⟩
    · rw [if_neg (fun y => w4 ((iq9_ (b := 1) (B := 1) rfl (by omega) (by decide)).mp y)), if_neg w4]
      obtain ⟨F1, q1, h1⟩ := k_piece hS h (p := 1) (k := 1) rfl (by decide)
      rw [q1, bd_s]
      unfold mpc_ f_X6_readPlain_b90
      revert h1
      by_cases z : (mc_ m).1 = 60
      · rw [if_pos z, if_pos z]
        intro h1
        have e6 := q1
        rw [gt_t (k8 hS)]
        obtain ⟨F4, X4, q4, h4, h5⟩ : ∃ F4 X4, f_X6_emit (kh_ σ R S K F1 X Y) R 0 (sb9_ c) = some (nI (mS_ m).length, kh_ σ R S K F4 X4 Y) ∧ F4 702 = F1 702 ∧ F4 703 = F1 703 := by
          have hl : (mS_ m).length ≤ L := h.2.2.2.2.2.1.1
          have f6 : F1 706 = nI (mS_ m).length := by
            have q := q1
            unfold f_X6_beginPiece f_X6_beginPiece_b33 at q
            have e16 : upd F 712 1 716 = nI (mc_ m).1 := h.2.2.1.1
            rw [gt_t (k8 hS), lt_e, kh_si, lt_e, kh_fi, e16, nI_1, lt_e, kh_si, lt_e, kh_fi, show upd (upd F 712 1) 716 (nI ((mc_ m).1 + 1)) 716 = nI ((mc_ m).1 + 1) from rfl, if_neg (show ¬ nI ((mc_ m).1 + 1) ≤ 60 from nI_ge (a := 60) (by omega) (by omega)), lt_e, k_fail hS, bd_s] at q
            have q := congrArg (fun o : Option (Unit × TH) => match o with | some x => fi_ x.2 706 R | none => 0) q
            dsimp only at q
            rw [kh_fi, kh_fi] at q
            exact (kh_fi 706).symm.trans (q.symm.trans h.1.2.1)
          exact ⟨_, _, k_emit hS f6 (by omega) _ _, rfl, rfl⟩
        rw [q4, bd_s, k_97 hS]
        refine ⟨_, _, _, rfl, ?_⟩
        exact ⟨h4.trans h1.1, h5.trans h1.2.1, h1.2.2⟩
      · rw [if_neg z, if_neg z]
        intro h1
        obtain ⟨F3, X3, q3, h3⟩ := k_emP hS h1 (by omega) (p1 := 0) (p2 := sb9_ c) (s := 0) (d := c) rfl sc (sk9_o (by decide) (by omega) (by decide))
        rw [gt_t (k8 hS), q3, bd_s, k_97 hS]
        exact ⟨_, _, _, rfl, ou9_inc (x := .inr _) h3⟩
  · rw [if_neg z2, if_pos (kr.mp (Or.inr z2))]
    exact fl
end SG9
