/-! THE CLASS'S PRINTER IS FILLED for a story. Written by wip/b/mk99z6.py. -/
section FP9
variable {ka : Nat → Nat} {TX : Nat → Nat → (Nat → Int32) → Nat → (Nat → Int32) → Prop} {σ : TH} {x : Nat} {G : GH} {A : AS} {N : Nat → Nat} {F X Y : Nat → Int32}
/-- the printer's own cells are scratch -/
def kp_ (σ : TH) (G : GH) (F X Y : Nat → Int32) : TH := kh_ σ (ga_ G 14 0) (ga_ G 16 0) (ga_ G 15 0) F X Y
theorem rc_kp (h : rc_ ka TX σ x G A N) (hX : ∀ j, j < N 42 → X j = aV A 28 j) : rc_ ka TX (kp_ σ G F X Y) x G A N := by
  have hf : fq_ (fun q => q = ga_ G 14 0 ∨ q = ga_ G 16 0 ∨ q = ga_ G 15 0) σ (kp_ σ G F X Y) := kh_fq h.1.1
  refine rc_gen2 h hf (sh_fq h.1 hf) h.2.2.1 [14, 15, 16] (fun r _ => ⟨rfl, fun _ => rfl⟩) h.2.1.1 (fun q hq => ?_) (fun r i m _ h9 => h9) (fun r i hd hi => ?_)
  · rcases hq with hq | hq | hq
    · exact Or.inl ⟨14, 0, by decide, rc_1 h (by decide), hq⟩
    · exact Or.inl ⟨16, 0, by decide, rc_1 h (by decide), hq⟩
    · exact Or.inl ⟨15, 0, by decide, rc_1 h (by decide), hq⟩
  · simp only [List.mem_cons, List.not_mem_nil, or_false] at hd
    rcases hd with rfl | rfl | rfl
    · rw [g0_ h (by decide) hi]
      obtain ⟨q1, q2⟩ := h.2.2.2 14 0 (rc_1 h (by decide))
      exact ⟨q1, q2⟩
    · trivial
    · rw [g0_ h (by decide) hi]
      obtain ⟨q1, q2⟩ := h.2.2.2 16 0 (rc_1 h (by decide))
      exact ⟨q1, fun j hj => (kh_S (R := ga_ G 14 0) (F := F) j).trans (hX j hj)⟩
theorem k_hP (h : rc_ ka TX σ x G A N) : hP_ σ (ga_ G 14 0) (ga_ G 15 0) (ga_ G 16 0) := by
  obtain ⟨q1, q2⟩ := h.2.2.2 14 0 (rc_1 h (by decide))
  have a := h.1.2 14 0 (rc_1 h (by decide))
  have b := h.1.2 15 0 (rc_1 h (by decide))
  have c := h.1.2 16 0 (rc_1 h (by decide))
  exact ⟨a.1, ⟨q1, q2⟩, ⟨b.1, b.2.2.1 (by decide)⟩, ⟨c.1, c.2.2.1 (by decide)⟩⟩
theorem rc_o28 (h : rc_ ka TX σ x G A N) : ∀ j, j < N 42 → ai_ σ (ga_ G 16 0) j = aV A 28 j := (h.2.2.2 16 0 (rc_1 h (by decide))).2
/-- a fact that may be told today -/
theorem dR_eq (hH : pvH A N) {p : Nat} (hp : p < N 5) (hb : N 6 ≤ 5257439) (h15 : aV A 15 p = bi_ (0 ≤ aV A 12 p)) : dR_ A N p = decide (0 ≤ aV A 12 p) := by
  unfold dR_
  rw [h15]
  by_cases q : 0 ≤ aV A 12 p
  · have q2 : ¬ nI (td_ N) < aV A 12 p := by
      rcases (hH p hp).2.2.1 with z | ⟨d, hd, z⟩
      · rw [z] at q; exact absurd q (by decide)
      · rw [z]
        refine nI_nlt hd ?_
        have : td_ N ≤ N 6 := Nat.div_le_self _ _
        omega
    rw [bi_t q, decide_eq_true q, decide_eq_false q2]
    rfl
  · rw [bi_f q, decide_eq_false q]
    rfl
theorem aR_eq (hH : pvH A N) {p : Nat} (hp : p < N 5) (hb : N 6 ≤ 5257439) (h15 : aV A 15 p = bi_ (0 ≤ aV A 12 p)) : aR_ A N p = ag_ A N p := by
  unfold aR_ ag_
  rw [dR_eq hH hp hb h15]
  by_cases q : 0 ≤ aV A 12 p
  · rw [decide_eq_true q, if_pos rfl, if_pos q]
  · rw [decide_eq_false q, if_neg (by decide), if_neg q]
theorem oR_eq (hT : pvT A N) (hH : pvH A N) {p : Nat} (hp : p < N 5) (hb : N 6 ≤ 5257439) (h15 : aV A 15 p = bi_ (0 ≤ aV A 12 p)) (k : Nat) : oR_ A N p k = match lt9_ A N p k with
    | none => none
    | some t => if aV A 24 t = 0 ∨ 0 ≤ aV A 12 p then some t else none := by
  unfold oR_
  rw [tp_lt9 hT hb, dR_eq hH hp hb h15]
  cases lt9_ A N p k with
  | none => rfl
  | some t =>
    show (if aV A 24 t = 0 ∨ decide (0 ≤ aV A 12 p) = true then some t else none) = _
    simp only [decide_eq_true_eq]
/-- what the class must know of a person -/
def kf_ (σ : TH) (x : Nat) (G : GH) (A : AS) (N : Nat → Nat) (p : Nat) : Prop := p < N 5 ∧ N 5 ≤ 30 ∧ pvT A N ∧ pvH A N ∧ N 6 ≤ 5257439 ∧ aS A 6 = nI (N 6) ∧ aV A 15 p = bi_ (0 ≤ aV A 12 p)
theorem k_per (h : rc_ ka TX σ x G A N) {p : Nat} (hp : p < N 5) : kd_ σ (ga_ G 31 p) = 4 ∧ fi_ σ 302 (ga_ G 31 p) = aV A 9 p ∧ fi_ σ 303 (ga_ G 31 p) = aV A 10 p ∧ fi_ σ 305 (ga_ G 31 p) = aV A 12 p ∧ aV A 15 p = bi_ (0 ≤ aV A 12 p) := by
  have hc : p < gc_ G 31 := by rw [rc_31 h]; exact hp
  obtain ⟨q0, q1, q2, q3, q4, q5, q6, q7, q8, q9, q10, q11, q12, q13, q14⟩ := h.2.2.2 31 p hc
  exact ⟨(h.1.2 31 p hc).1, q2, q3, q5, q13⟩
theorem k_fill1 (h : rc_ ka TX σ x G A N) {p : Nat} (hk : kf_ σ x G A N p) (hX : ∀ j, j < N 42 → X j = aV A 28 j) {k : Nat} (h10 : k < 10) (f : Nat) : f_X11_fillPrinter_b37 (f + 1) (kp_ σ G F X Y) x (some (ga_ G 31 p)) (nI k) = f_X11_fillPrinter_b37 f (kp_ σ G (upd F 502 (if (oR_ A N p k).isSome = true then F 502 ||| ((1 : Int32) <<< (nI k &&& 31)) else F 502)) X (upd Y k (fR_ A N p k))) x (some (ga_ G 31 p)) (nI (k + 1)) := by
  obtain ⟨hp, hN, hT, hH, hb, hm, h15⟩ := hk
  have hP := k_hP h
  have hr : ∀ {F Y}, rc_ ka TX (kp_ σ G F X Y) x G A N := rc_kp h hX
  have hx : ∀ {F Y}, kd_ (kp_ σ G F X Y) x = 13 := rc_x hr
  have r9 : ∀ {F Y}, fr_ (kp_ σ G F X Y) 1209 x = some (ga_ G 14 0) := (rc_r1209 hr).1
  have r6 : ∀ {F Y}, kd_ (kp_ σ G F X Y) (ga_ G 14 0) = 6 := (rc_r1209 hr).2
  have r5 : ∀ {F Y}, fr_ (kp_ σ G F X Y) 500 (ga_ G 14 0) = some (ga_ G 15 0) := hP.2.1.1
  have r20 : ∀ {F Y}, kd_ (kp_ σ G F X Y) (ga_ G 15 0) = 20 := hP.2.2.1.1
  have r21 : ∀ {F Y}, ln_ (kp_ σ G F X Y) (ga_ G 15 0) = 21 := hP.2.2.1.2
  have nPB := hP_ne hP
  obtain ⟨f1, f2, f3, f4, f5⟩ := k_facts (hr (F := F) (Y := Y)) hp
  have f5 := (f5 k h10).1
  have oe := oR_eq hT hH hp hb h15 k
  have b96 : ∀ (l4 v : Int32) (told : Bool), l4 = bb9_ told → (oR_ A N p k).isSome = told → fR_ A N p k = v → f_X11_fillPrinter_b96 (f_X11_fillPrinter_b37 f) (kp_ σ G F X Y) x (some (ga_ G 31 p)) (nI k) l4 v (nI k) (some (ga_ G 15 0)) = f_X11_fillPrinter_b37 f (kp_ σ G (upd F 502 (if (oR_ A N p k).isSome = true then F 502 ||| ((1 : Int32) <<< (nI k &&& 31)) else F 502)) X (upd Y k (fR_ A N p k))) x (some (ga_ G 31 p)) (nI (k + 1)) := fun l4 v told e1 e2 e3 => by
    subst e1
    rw [e2, e3]
    unfold f_X11_fillPrinter_b96 f_X11_fillPrinter_b117
    have sk : sa_ (kp_ σ G F X Y) (ga_ G 15 0) k v = kp_ σ G F X (upd Y k v) := kh_sK nPB k v
    have s5 : fi_ (kp_ σ G F X (upd Y k v)) 502 (ga_ G 14 0) = F 502 := kh_fi 502
    have si : ∀ u, si_ (kp_ σ G F X (upd Y k v)) 502 (ga_ G 14 0) u = kp_ σ G (upd F 502 u) X (upd Y k v) := fun u => kh_si 502 u
    rw [nn_s, gt_t r20, nI_clamp (by omega), r21, gt_t (ix9_ (k := k) (M := 21) (by omega) (by omega)), lt_e, sk, gt_t hx, lt_e, r9, nn_s, gt_t r6, lt_e, s5]
    cases told with
    | false =>
      rw [if_pos (show bb9_ false = 0 from rfl), nn_s, gt_t r6, lt_e, si, lt_e, nI_1, if_neg (by decide), show F 502 ||| 0 = F 502 by simp]
    | true =>
      rw [if_neg (show ¬ bb9_ true = 0 by decide), nn_s, gt_t r6, lt_e, si, lt_e, nI_1, if_pos rfl]
  rw [f_X11_fillPrinter_b37, if_neg (show ¬ (10 : Int32) ≤ nI k from nI_ge (b := 10) h10 (by decide)), nn_s, gt_t f1, lt_e, f2, nn_s, gt_t f3, nI_clamp (by omega), f4, gt_t (ix9_ (k := k) (M := 10) (by omega) (by omega)), lt_e, f5]
  have no : ∀ l3, oR_ A N p k = none → f_X11_fillPrinter_b72 (f_X11_fillPrinter_b37 f) (kp_ σ G F X Y) x (some (ga_ G 31 p)) (nI k) l3 = f_X11_fillPrinter_b37 f (kp_ σ G (upd F 502 (if (oR_ A N p k).isSome = true then F 502 ||| ((1 : Int32) <<< (nI k &&& 31)) else F 502)) X (upd Y k (fR_ A N p k))) x (some (ga_ G 31 p)) (nI (k + 1)) := fun l3 e => by
    unfold f_X11_fillPrinter_b72 f_X11_fillPrinter_b73
    rw [gt_t hx, lt_e, r9, nn_s, gt_t r6, lt_e, r5, if_pos rfl]
    refine b96 0 0 false rfl (by rw [e]; rfl) ?_
    unfold fR_
    rw [e]
  cases ht : lt9_ A N p k with
  | none =>
    rw [ht] at oe
    rw [Option.map_none, oc_n]
    exact no _ oe
  | some t =>
    rw [ht] at oe
    obtain ⟨t1, t2, t3, t4, -⟩ := k_tell (hr (F := F) (Y := Y)) hp hN h10 ht
    rw [Option.map_some, oc_s, gt_t t2, lt_e, t4]
    have yes : oR_ A N p k = some t → f_X11_fillPrinter_b68 (f_X11_fillPrinter_b37 f) (kp_ σ G F X Y) x (some (ga_ G 31 p)) (nI k) (some (ga_ G 36 t)) = f_X11_fillPrinter_b37 f (kp_ σ G (upd F 502 (if (oR_ A N p k).isSome = true then F 502 ||| ((1 : Int32) <<< (nI k &&& 31)) else F 502)) X (upd Y k (fR_ A N p k))) x (some (ga_ G 31 p)) (nI (k + 1)) := fun e => by
      unfold f_X11_fillPrinter_b68 f_X11_fillPrinter_b73
      rw [gt_t hx, lt_e, r9, nn_s, gt_t r6, lt_e, r5, if_neg (by decide), nn_s, gt_t t2, lt_e, t3]
      refine b96 1 _ true rfl (by rw [e]; rfl) ?_
      unfold fR_
      rw [e]
    have oe : oR_ A N p k = if aV A 24 t = 0 ∨ 0 ≤ aV A 12 p then some t else none := oe
    by_cases z1 : aV A 24 t = 0
    · rw [if_pos z1]
      exact yes (oe.trans (if_pos (Or.inl z1)))
    · have dd := k_isDead (σ := kp_ σ G F X Y) f1
      rw [(k_per (hr (F := F) (Y := Y)) hp).2.2.2.1] at dd
      rw [if_neg z1, dd, bd_s]
      by_cases z2 : 0 ≤ aV A 12 p
      · rw [bi_t z2, if_neg (by decide)]
        exact yes (oe.trans (if_pos (Or.inr z2)))
      · rw [bi_f z2, if_pos rfl]
        exact no _ (oe.trans (if_neg (fun q => q.elim z1 z2)))
/-- the end of the filling -/
theorem k_fill2 (h : rc_ ka TX σ x G A N) {p : Nat} (hk : kf_ σ x G A N p) (hX : ∀ j, j < N 42 → X j = aV A 28 j) (f : Nat) : f_X11_fillPrinter_b37 (f + 1) (kp_ σ G F X Y) x (some (ga_ G 31 p)) (nI 10) = some ((), kp_ σ G F X (upd (upd (upd (upd Y 10 (ag_ A N p)) 11 (100 - (aV A 9 p + 365 - 1) / 365)) 12 (100 + nI (td_ N) / 365)) 13 (aV A 10 p))) := by
  obtain ⟨hp, hN, hT, hH, hb, hm, h15⟩ := hk
  have hP := k_hP h
  have hr : ∀ {Y}, rc_ ka TX (kp_ σ G F X Y) x G A N := rc_kp h hX
  have hx : ∀ {Y}, kd_ (kp_ σ G F X Y) x = 13 := rc_x hr
  have r9 : ∀ {Y}, fr_ (kp_ σ G F X Y) 1209 x = some (ga_ G 14 0) := (rc_r1209 hr).1
  have r6 : ∀ {Y}, kd_ (kp_ σ G F X Y) (ga_ G 14 0) = 6 := (rc_r1209 hr).2
  have r5 : ∀ {Y}, fr_ (kp_ σ G F X Y) 500 (ga_ G 14 0) = some (ga_ G 15 0) := hP.2.1.1
  have r20 : ∀ {Y}, kd_ (kp_ σ G F X Y) (ga_ G 15 0) = 20 := hP.2.2.1.1
  have r21 : ∀ {Y}, ln_ (kp_ σ G F X Y) (ga_ G 15 0) = 21 := hP.2.2.1.2
  have sk : ∀ {Y} (k : Nat) (v : Int32), sa_ (kp_ σ G F X Y) (ga_ G 15 0) k v = kp_ σ G F X (upd Y k v) := fun k v => kh_sK (hP_ne hP) k v
  have pk := fun Y => (k_per (hr (Y := Y)) hp).1
  have p2 := fun Y => (k_per (hr (Y := Y)) hp).2.1
  have p3 := fun Y => (k_per (hr (Y := Y)) hp).2.2.1
  have c10 : ((10 : Int32).toNatClampNeg) = 10 := by decide
  have c11 : ((11 : Int32).toNatClampNeg) = 11 := by decide
  have c12 : ((12 : Int32).toNatClampNeg) = 12 := by decide
  have c13 : ((13 : Int32).toNatClampNeg) = 13 := by decide
  rw [f_X11_fillPrinter_b37, if_pos (by decide), gt_t hx, lt_e, r9, nn_s, gt_t r6, lt_e, r5, k_ageOf hr hp hm hb, bd_s, nn_s, gt_t r20, c10, r21, gt_t (by decide), lt_e, sk, lt_e, r9, nn_s, gt_t r6, lt_e, r5, nn_s, gt_t (pk _), lt_e, p2, gt_t (by decide), nn_s, gt_t r20, c11, r21, gt_t (by decide), lt_e, sk, lt_e, r9, nn_s, gt_t r6, lt_e, r5, k_now hr hm hb, bd_s, gt_t (by decide), nn_s, gt_t r20, c12, r21, gt_t (by decide), lt_e, sk, lt_e, r9, nn_s, gt_t r6, lt_e, r5, lt_e, p3, nn_s, gt_t r20, c13, r21, gt_t (by decide), lt_e, sk]
theorem upd9_s {F : Nat → Int32} {c : Nat} {v : Int32} : upd F c v c = v := if_pos rfl
theorem upd9_n {F : Nat → Int32} {c d : Nat} {v : Int32} (h : d ≠ c) : upd F c v d = F d := if_neg h
theorem k_fill3 (h : rc_ ka TX σ x G A N) {p : Nat} (hk : kf_ σ x G A N p) {F0 Y0 : Nat → Int32} (z2 : F0 502 = 0) (z3 : F0 503 = bo_ (sl9_ A p (nI (td_ N))) 10) (z4 : F0 504 = bi_ (0 ≤ aV A 12 p)) : ∃ q, f_X11_fillPrinter_b37 fu_ (kp_ σ G F0 (ai_ σ (ga_ G 16 0)) Y0) x (some (ga_ G 31 p)) (nI 0) = some q ∧ ∃ F' Y', q = ((), kp_ σ G F' (ai_ σ (ga_ G 16 0)) Y') ∧ KN_ (EP_ A N p) false F' Y' := by
  obtain ⟨hp, hN, hT, hH, hb, hm, h15⟩ := id hk
  have hX := rc_o28 h
  refine lpe_ (F := fun f (s : (Nat → Int32) × (Nat → Int32)) k => f_X11_fillPrinter_b37 f (kp_ σ G s.1 (ai_ σ (ga_ G 16 0)) s.2) x (some (ga_ G 31 p)) k) 10 (fun k s => s.1 502 = bo_ (fun k => (oR_ A N p k).isSome) k ∧ s.1 503 = bo_ (sl9_ A p (nI (td_ N))) 10 ∧ s.1 504 = bi_ (0 ≤ aV A 12 p) ∧ ∀ j, j < k → s.2 j = fR_ A N p j) (fun q => ∃ F' Y', q = ((), kp_ σ G F' (ai_ σ (ga_ G 16 0)) Y') ∧ KN_ (EP_ A N p) false F' Y') (fun f k s h10 hI => ?_) (fun f s hI => ?_) (by decide) (F0, Y0) ⟨z2, z3, z4, fun j hj => absurd hj (Nat.not_lt_zero _)⟩
  · obtain ⟨i1, i2, i3, i4⟩ := hI
    refine ⟨(upd s.1 502 (if (oR_ A N p k).isSome = true then s.1 502 ||| ((1 : Int32) <<< (nI k &&& 31)) else s.1 502), upd s.2 k (fR_ A N p k)), k_fill1 h hk hX h10 f, ?_, i2, i3, fun j hj => ?_⟩
    · show (if (oR_ A N p k).isSome = true then s.1 502 ||| ((1 : Int32) <<< (nI k &&& 31)) else s.1 502) = _
      rw [i1]
      rfl
    · show upd s.2 k (fR_ A N p k) j = _
      by_cases e : j = k
      · rw [e]; exact if_pos rfl
      · exact (if_neg e).trans (i4 j (by omega))
  · obtain ⟨i1, i2, i3, i4⟩ := hI
    refine ⟨_, k_fill2 h hk hX f, _, _, rfl, fun c hc => ?_, fun _ => ⟨fun k hk => ?_, fun k hk => ?_, ?_⟩⟩
    · have c13 : c ≤ 13 := by simpa [nm9_] using hc
      show upd (upd (upd (upd s.2 10 (ag_ A N p)) 11 (100 - (aV A 9 p + 365 - 1) / 365)) 12 (100 + nI (td_ N) / 365)) 13 (aV A 10 p) c = if c ≤ 13 then (ER_ A N p).1 c else 0
      rw [if_pos c13]
      by_cases z : c < 10
      · rw [show (ER_ A N p).1 c = fR_ A N p c from if_pos z, ← i4 c z]
        unfold upd
        rw [if_neg (by omega), if_neg (by omega), if_neg (by omega), if_neg (by omega)]
      · rcases (by omega : c = 10 ∨ c = 11 ∨ c = 12 ∨ c = 13) with rfl | rfl | rfl | rfl
        · exact (aR_eq hH hp hb h15).symm
        · rfl
        · rfl
        · rfl
    · rw [i1, bit_and _ (by omega), bt_bo _ 10 (by omega) k (by omega), decide_eq_true hk]
      exact Iff.rfl
    · rw [i2, bit_and _ (by omega), bt_bo _ 10 (by omega) k (by omega), decide_eq_true hk]
      exact Iff.rfl
    · rw [i3]
      show bi_ (0 ≤ aV A 12 p) = bb9_ (dR_ A N p)
      rw [dR_eq hH hp hb h15]
      by_cases z : 0 ≤ aV A 12 p
      · rw [bi_t z, decide_eq_true z]; rfl
      · rw [bi_f z, decide_eq_false z]; rfl
/-- THE PRINTER IS FILLED -/
theorem k_fill (h : rc_ ka TX σ x G A N) {p : Nat} (hk : kf_ σ x G A N p) : ∃ F' Y', f_X11_fillPrinter σ x (some (ga_ G 31 p)) = some ((), kp_ σ G F' (ai_ σ (ga_ G 16 0)) Y') ∧ KN_ (EP_ A N p) false F' Y' := by
  obtain ⟨hp, hN, hT, hH, hb, hm, h15⟩ := id hk
  have hX := rc_o28 h
  have hP := k_hP h
  have hr : ∀ {F Y}, rc_ ka TX (kp_ σ G F (ai_ σ (ga_ G 16 0)) Y) x G A N := rc_kp h hX
  have hs : kp_ σ G (fun c => fi_ σ c (ga_ G 14 0)) (ai_ σ (ga_ G 16 0)) (ai_ σ (ga_ G 15 0)) = σ := kh_self
  have hx := rc_x h
  obtain ⟨r9, r6⟩ := rc_r1209 h
  obtain ⟨p1, p2, p3, p4, -⟩ := k_per h hp
  have dd := k_isDead (σ := σ) p1
  rw [p4] at dd
  have lp := k_fill3 h hk (F0 := upd (upd (upd (fun c => fi_ σ c (ga_ G 14 0)) 504 (bi_ (0 ≤ aV A 12 p))) 503 (bo_ (sl9_ A p (nI (td_ N))) 10)) 502 0) (Y0 := ai_ σ (ga_ G 15 0)) upd9_s ((upd9_n (by decide)).trans upd9_s) ((upd9_n (by decide)).trans ((upd9_n (by decide)).trans upd9_s))
  obtain ⟨q, q1, q2⟩ := lp
  obtain ⟨F', Y', e, hK⟩ := q2
  subst e
  refine ⟨F', Y', ?_, hK⟩
  refine Eq.trans ?_ q1
  conv => lhs; rw [← hs]
  have hx' : kd_ (kp_ σ G (fun c => fi_ σ c (ga_ G 14 0)) (ai_ σ (ga_ G 16 0)) (ai_ σ (ga_ G 15 0))) x = 13 := rc_x hr
  have r9' : ∀ {F}, fr_ (kp_ σ G F (ai_ σ (ga_ G 16 0)) (ai_ σ (ga_ G 15 0))) 1209 x = some (ga_ G 14 0) := (rc_r1209 hr).1
  have r6' : ∀ {F}, kd_ (kp_ σ G F (ai_ σ (ga_ G 16 0)) (ai_ σ (ga_ G 15 0))) (ga_ G 14 0) = 6 := (rc_r1209 hr).2
  have p1' : ∀ {F}, kd_ (kp_ σ G F (ai_ σ (ga_ G 16 0)) (ai_ σ (ga_ G 15 0))) (ga_ G 31 p) = 4 := (k_per hr hp).1
  have dd' : f_X2_isDead (kp_ σ G (fun c => fi_ σ c (ga_ G 14 0)) (ai_ σ (ga_ G 16 0)) (ai_ σ (ga_ G 15 0))) (ga_ G 31 p) = some (bi_ (0 ≤ aV A 12 p), kp_ σ G (fun c => fi_ σ c (ga_ G 14 0)) (ai_ σ (ga_ G 16 0)) (ai_ σ (ga_ G 15 0))) := by rw [hs]; exact dd
  have si : ∀ (F : Nat → Int32) c u, si_ (kp_ σ G F (ai_ σ (ga_ G 16 0)) (ai_ σ (ga_ G 15 0))) c (ga_ G 14 0) u = kp_ σ G (upd F c u) (ai_ σ (ga_ G 16 0)) (ai_ σ (ga_ G 15 0)) := fun F c u => kh_si c u
  unfold f_X11_fillPrinter
  rw [gt_t hx', lt_e, r9', nn_s, gt_t p1', dd', bd_s, nn_s, gt_t r6', gt_t bi_01, lt_e, si, lt_e, r9', k_now hr hm hb, bd_s, k_staleKinds hr hp hN, bd_s, nn_s, gt_t r6', lt_e, si, lt_e, r9', nn_s, gt_t r6', lt_e, si]
  rfl
end FP9
