/-! CALLS: the chooser's cells. Written by wip/b/mk99zp.py. -/
section CU9
variable {ka : Nat → Nat} {TX : Nat → Nat → (Nat → Int32) → Nat → (Nat → Int32) → Prop} {x : Nat} {σ : TH} {G : GH} {A : AS} {N : Nat → Nat} {F : Nat → Int32} {W : Nat → Nat → Int32}
/-- the chooser's fields and rows -/
def cu_ (σ : TH) (G : GH) (F : Nat → Int32) (W : Nat → Nat → Int32) : TH := (kd_ σ, ln_ σ, (fun c q => if q = ga_ G 17 0 then F c else fi_ σ c q), fr_ σ, fl_ σ, (fun q i => if q = ga_ G 18 0 then W 0 i else if q = ga_ G 19 0 then W 1 i else if q = ga_ G 20 0 then W 2 i else if q = ga_ G 21 0 then W 3 i else if q = ga_ G 22 0 then W 4 i else ai_ σ q i), ar_ σ, al_ σ, ow_ σ, nx_ σ, sl_ σ)
def cd5_ (G : GH) : Prop := ∀ j k, j < 5 → k < 5 → j ≠ k → ga_ G (18 + j) 0 ≠ ga_ G (18 + k) 0
theorem cd5_of (h : rc_ ka TX σ x G A N) : cd5_ G := fun j k hj hk hne => by
  have hc : ∀ j, j < 5 → 0 < gc_ G (18 + j) := fun j hj => rc_1 h (by
    have : ∀ j, j < 5 → 18 + j ∈ ([0, 1, 2, 3, 4, 5, 6, 7, 8, 9, 10, 11, 12, 13, 14, 15, 16, 17, 18, 19, 20, 21, 22] : List Nat) := by decide
    exact this j hj)
  exact sh_ne h.1 (hc j hj) (hc k hk) (Or.inl (by omega))
theorem cu_fi (c : Nat) : fi_ (cu_ σ G F W) c (ga_ G 17 0) = F c := if_pos rfl
theorem cu_a0 (hd : cd5_ G) (i : Nat) : ai_ (cu_ σ G F W) (ga_ G 18 0) i = W 0 i := if_pos rfl
theorem cu_a1 (hd : cd5_ G) (i : Nat) : ai_ (cu_ σ G F W) (ga_ G 19 0) i = W 1 i := (if_neg (hd 1 0 (by decide) (by decide) (by decide))).trans (if_pos rfl)
theorem cu_a2 (hd : cd5_ G) (i : Nat) : ai_ (cu_ σ G F W) (ga_ G 20 0) i = W 2 i := (if_neg (hd 2 0 (by decide) (by decide) (by decide))).trans ((if_neg (hd 2 1 (by decide) (by decide) (by decide))).trans (if_pos rfl))
theorem cu_a3 (hd : cd5_ G) (i : Nat) : ai_ (cu_ σ G F W) (ga_ G 21 0) i = W 3 i := (if_neg (hd 3 0 (by decide) (by decide) (by decide))).trans ((if_neg (hd 3 1 (by decide) (by decide) (by decide))).trans ((if_neg (hd 3 2 (by decide) (by decide) (by decide))).trans (if_pos rfl)))
theorem cu_a4 (hd : cd5_ G) (i : Nat) : ai_ (cu_ σ G F W) (ga_ G 22 0) i = W 4 i := (if_neg (hd 4 0 (by decide) (by decide) (by decide))).trans ((if_neg (hd 4 1 (by decide) (by decide) (by decide))).trans ((if_neg (hd 4 2 (by decide) (by decide) (by decide))).trans ((if_neg (hd 4 3 (by decide) (by decide) (by decide))).trans (if_pos rfl))))
theorem cu_o {q i : Nat} (z0 : ¬ q = ga_ G 18 0) (z1 : ¬ q = ga_ G 19 0) (z2 : ¬ q = ga_ G 20 0) (z3 : ¬ q = ga_ G 21 0) (z4 : ¬ q = ga_ G 22 0) : ai_ (cu_ σ G F W) q i = ai_ σ q i := (if_neg z0).trans ((if_neg z1).trans ((if_neg z2).trans ((if_neg z3).trans (if_neg z4))))
theorem cu_si (c : Nat) (v : Int32) : si_ (cu_ σ G F W) c (ga_ G 17 0) v = cu_ σ G (upd F c v) W := by
  have e : up2_ (fi_ (cu_ σ G F W)) c (ga_ G 17 0) v = fi_ (cu_ σ G (upd F c v) W) := by
    funext c' q
    by_cases z : q = ga_ G 17 0
    · subst z
      rw [cu_fi]
      by_cases z2 : c' = c
      · subst z2; rw [up2_s, upd9_s]
      · rw [up2_c z2, upd9_n z2, cu_fi]
    · rw [up2_ne (fun w => z w.2)]
      exact (if_neg z).trans (if_neg z).symm
  show (kd_ σ, ln_ σ, up2_ (fi_ (cu_ σ G F W)) c (ga_ G 17 0) v, fr_ σ, fl_ σ, ai_ (cu_ σ G F W), ar_ σ, al_ σ, ow_ σ, nx_ σ, sl_ σ) = _
  rw [e]
  rfl
theorem cu_s0 (hd : cd5_ G) (i : Nat) (v : Int32) : sa_ (cu_ σ G F W) (ga_ G 18 0) i v = cu_ σ G F (up2_ W 0 i v) := by
  have e : up2_ (ai_ (cu_ σ G F W)) (ga_ G 18 0) i v = ai_ (cu_ σ G F (up2_ W 0 i v)) := by
    funext q i2
    by_cases z : q = ga_ G 18 0
    · subst z
      rw [cu_a0 hd]
      by_cases z2 : i2 = i
      · subst z2; rw [up2_s, up2_s]
      · rw [up2_n z2, up2_n z2, cu_a0 hd]
    · rw [up2_ne (fun w => z w.1)]
      by_cases z1 : q = ga_ G 19 0
      · subst z1; rw [cu_a1 hd, cu_a1 hd, up2_c (by decide)]
      by_cases z2 : q = ga_ G 20 0
      · subst z2; rw [cu_a2 hd, cu_a2 hd, up2_c (by decide)]
      by_cases z3 : q = ga_ G 21 0
      · subst z3; rw [cu_a3 hd, cu_a3 hd, up2_c (by decide)]
      by_cases z4 : q = ga_ G 22 0
      · subst z4; rw [cu_a4 hd, cu_a4 hd, up2_c (by decide)]
      rw [cu_o z z1 z2 z3 z4, cu_o z z1 z2 z3 z4]
  show (kd_ σ, ln_ σ, fi_ (cu_ σ G F W), fr_ σ, fl_ σ, up2_ (ai_ (cu_ σ G F W)) (ga_ G 18 0) i v, ar_ σ, al_ σ, ow_ σ, nx_ σ, sl_ σ) = _
  rw [e]
  rfl
theorem cu_s1 (hd : cd5_ G) (i : Nat) (v : Int32) : sa_ (cu_ σ G F W) (ga_ G 19 0) i v = cu_ σ G F (up2_ W 1 i v) := by
  have e : up2_ (ai_ (cu_ σ G F W)) (ga_ G 19 0) i v = ai_ (cu_ σ G F (up2_ W 1 i v)) := by
    funext q i2
    by_cases z : q = ga_ G 19 0
    · subst z
      rw [cu_a1 hd]
      by_cases z2 : i2 = i
      · subst z2; rw [up2_s, up2_s]
      · rw [up2_n z2, up2_n z2, cu_a1 hd]
    · rw [up2_ne (fun w => z w.1)]
      by_cases z0 : q = ga_ G 18 0
      · subst z0; rw [cu_a0 hd, cu_a0 hd, up2_c (by decide)]
      by_cases z2 : q = ga_ G 20 0
      · subst z2; rw [cu_a2 hd, cu_a2 hd, up2_c (by decide)]
      by_cases z3 : q = ga_ G 21 0
      · subst z3; rw [cu_a3 hd, cu_a3 hd, up2_c (by decide)]
      by_cases z4 : q = ga_ G 22 0
      · subst z4; rw [cu_a4 hd, cu_a4 hd, up2_c (by decide)]
      rw [cu_o z0 z z2 z3 z4, cu_o z0 z z2 z3 z4]
  show (kd_ σ, ln_ σ, fi_ (cu_ σ G F W), fr_ σ, fl_ σ, up2_ (ai_ (cu_ σ G F W)) (ga_ G 19 0) i v, ar_ σ, al_ σ, ow_ σ, nx_ σ, sl_ σ) = _
  rw [e]
  rfl
theorem cu_s2 (hd : cd5_ G) (i : Nat) (v : Int32) : sa_ (cu_ σ G F W) (ga_ G 20 0) i v = cu_ σ G F (up2_ W 2 i v) := by
  have e : up2_ (ai_ (cu_ σ G F W)) (ga_ G 20 0) i v = ai_ (cu_ σ G F (up2_ W 2 i v)) := by
    funext q i2
    by_cases z : q = ga_ G 20 0
    · subst z
      rw [cu_a2 hd]
      by_cases z2 : i2 = i
      · subst z2; rw [up2_s, up2_s]
      · rw [up2_n z2, up2_n z2, cu_a2 hd]
    · rw [up2_ne (fun w => z w.1)]
      by_cases z0 : q = ga_ G 18 0
      · subst z0; rw [cu_a0 hd, cu_a0 hd, up2_c (by decide)]
      by_cases z1 : q = ga_ G 19 0
      · subst z1; rw [cu_a1 hd, cu_a1 hd, up2_c (by decide)]
      by_cases z3 : q = ga_ G 21 0
      · subst z3; rw [cu_a3 hd, cu_a3 hd, up2_c (by decide)]
      by_cases z4 : q = ga_ G 22 0
      · subst z4; rw [cu_a4 hd, cu_a4 hd, up2_c (by decide)]
      rw [cu_o z0 z1 z z3 z4, cu_o z0 z1 z z3 z4]
  show (kd_ σ, ln_ σ, fi_ (cu_ σ G F W), fr_ σ, fl_ σ, up2_ (ai_ (cu_ σ G F W)) (ga_ G 20 0) i v, ar_ σ, al_ σ, ow_ σ, nx_ σ, sl_ σ) = _
  rw [e]
  rfl
theorem cu_s3 (hd : cd5_ G) (i : Nat) (v : Int32) : sa_ (cu_ σ G F W) (ga_ G 21 0) i v = cu_ σ G F (up2_ W 3 i v) := by
  have e : up2_ (ai_ (cu_ σ G F W)) (ga_ G 21 0) i v = ai_ (cu_ σ G F (up2_ W 3 i v)) := by
    funext q i2
    by_cases z : q = ga_ G 21 0
    · subst z
      rw [cu_a3 hd]
      by_cases z2 : i2 = i
      · subst z2; rw [up2_s, up2_s]
      · rw [up2_n z2, up2_n z2, cu_a3 hd]
    · rw [up2_ne (fun w => z w.1)]
      by_cases z0 : q = ga_ G 18 0
      · subst z0; rw [cu_a0 hd, cu_a0 hd, up2_c (by decide)]
      by_cases z1 : q = ga_ G 19 0
      · subst z1; rw [cu_a1 hd, cu_a1 hd, up2_c (by decide)]
      by_cases z2 : q = ga_ G 20 0
      · subst z2; rw [cu_a2 hd, cu_a2 hd, up2_c (by decide)]
      by_cases z4 : q = ga_ G 22 0
      · subst z4; rw [cu_a4 hd, cu_a4 hd, up2_c (by decide)]
      rw [cu_o z0 z1 z2 z z4, cu_o z0 z1 z2 z z4]
  show (kd_ σ, ln_ σ, fi_ (cu_ σ G F W), fr_ σ, fl_ σ, up2_ (ai_ (cu_ σ G F W)) (ga_ G 21 0) i v, ar_ σ, al_ σ, ow_ σ, nx_ σ, sl_ σ) = _
  rw [e]
  rfl
theorem cu_s4 (hd : cd5_ G) (i : Nat) (v : Int32) : sa_ (cu_ σ G F W) (ga_ G 22 0) i v = cu_ σ G F (up2_ W 4 i v) := by
  have e : up2_ (ai_ (cu_ σ G F W)) (ga_ G 22 0) i v = ai_ (cu_ σ G F (up2_ W 4 i v)) := by
    funext q i2
    by_cases z : q = ga_ G 22 0
    · subst z
      rw [cu_a4 hd]
      by_cases z2 : i2 = i
      · subst z2; rw [up2_s, up2_s]
      · rw [up2_n z2, up2_n z2, cu_a4 hd]
    · rw [up2_ne (fun w => z w.1)]
      by_cases z0 : q = ga_ G 18 0
      · subst z0; rw [cu_a0 hd, cu_a0 hd, up2_c (by decide)]
      by_cases z1 : q = ga_ G 19 0
      · subst z1; rw [cu_a1 hd, cu_a1 hd, up2_c (by decide)]
      by_cases z2 : q = ga_ G 20 0
      · subst z2; rw [cu_a2 hd, cu_a2 hd, up2_c (by decide)]
      by_cases z3 : q = ga_ G 21 0
      · subst z3; rw [cu_a3 hd, cu_a3 hd, up2_c (by decide)]
      rw [cu_o z0 z1 z2 z3 z, cu_o z0 z1 z2 z3 z]
  show (kd_ σ, ln_ σ, fi_ (cu_ σ G F W), fr_ σ, fl_ σ, up2_ (ai_ (cu_ σ G F W)) (ga_ G 22 0) i v, ar_ σ, al_ σ, ow_ σ, nx_ σ, sl_ σ) = _
  rw [e]
  rfl
theorem cu_self : cu_ σ G (fun c => fi_ σ c (ga_ G 17 0)) (fun j => ai_ σ (ga_ G (18 + j) 0)) = σ := by
  have e1 : fi_ (cu_ σ G (fun c => fi_ σ c (ga_ G 17 0)) (fun j => ai_ σ (ga_ G (18 + j) 0))) = fi_ σ := by
    funext c q
    show (if q = ga_ G 17 0 then fi_ σ c (ga_ G 17 0) else fi_ σ c q) = fi_ σ c q
    split
    · rename_i z; rw [z]
    · rfl
  have e2 : ai_ (cu_ σ G (fun c => fi_ σ c (ga_ G 17 0)) (fun j => ai_ σ (ga_ G (18 + j) 0))) = ai_ σ := by
    funext q i
    show (if q = ga_ G 18 0 then ai_ σ (ga_ G 18 0) i else if q = ga_ G 19 0 then ai_ σ (ga_ G 19 0) i else if q = ga_ G 20 0 then ai_ σ (ga_ G 20 0) i else if q = ga_ G 21 0 then ai_ σ (ga_ G 21 0) i else if q = ga_ G 22 0 then ai_ σ (ga_ G 22 0) i else ai_ σ q i) = ai_ σ q i
    by_cases z0 : q = ga_ G 18 0
    · rw [if_pos z0, z0]
    by_cases z1 : q = ga_ G 19 0
    · rw [if_neg z0, if_pos z1, z1]
    by_cases z2 : q = ga_ G 20 0
    · rw [if_neg z0, if_neg z1, if_pos z2, z2]
    by_cases z3 : q = ga_ G 21 0
    · rw [if_neg z0, if_neg z1, if_neg z2, if_pos z3, z3]
    by_cases z4 : q = ga_ G 22 0
    · rw [if_neg z0, if_neg z1, if_neg z2, if_neg z3, if_pos z4, z4]
    rw [if_neg z0, if_neg z1, if_neg z2, if_neg z3, if_neg z4]
  show (kd_ σ, ln_ σ, fi_ (cu_ σ G (fun c => fi_ σ c (ga_ G 17 0)) (fun j => ai_ σ (ga_ G (18 + j) 0))), fr_ σ, fl_ σ, ai_ (cu_ σ G (fun c => fi_ σ c (ga_ G 17 0)) (fun j => ai_ σ (ga_ G (18 + j) 0))), ar_ σ, al_ σ, ow_ σ, nx_ σ, sl_ σ) = σ
  rw [e1, e2]
  rfl
/-- the chooser's cells -/
def cq5_ (G : GH) (q : Nat) : Prop := q = ga_ G 17 0 ∨ q = ga_ G 18 0 ∨ q = ga_ G 19 0 ∨ q = ga_ G 20 0 ∨ q = ga_ G 21 0 ∨ q = ga_ G 22 0
theorem cu_fq (hw : wf_ σ) : fq_ (cq5_ G) σ (cu_ σ G F W) := by
  refine ⟨tl_rf σ, hw, fun a ha hT => ?_⟩
  have n0 : ¬ a = ga_ G 17 0 := fun q => hT (Or.inl q)
  have n1 : ¬ a = ga_ G 18 0 := fun q => hT (Or.inr (Or.inl q))
  have n2 : ¬ a = ga_ G 19 0 := fun q => hT (Or.inr (Or.inr (Or.inl q)))
  have n3 : ¬ a = ga_ G 20 0 := fun q => hT (Or.inr (Or.inr (Or.inr (Or.inl q))))
  have n4 : ¬ a = ga_ G 21 0 := fun q => hT (Or.inr (Or.inr (Or.inr (Or.inr (Or.inl q)))))
  have n5 : ¬ a = ga_ G 22 0 := fun q => hT (Or.inr (Or.inr (Or.inr (Or.inr (Or.inr q)))))
  have e1 : (fun c => fi_ (cu_ σ G F W) c a) = fun c => fi_ σ c a := funext fun c => if_neg n0
  have e2 : ai_ (cu_ σ G F W) a = ai_ σ a := funext fun i => cu_o n1 n2 n3 n4 n5
  show (ln_ σ a, (fun c => fi_ (cu_ σ G F W) c a), (fun c => fr_ σ c a), (fun c => fl_ σ c a), ai_ (cu_ σ G F W) a, ar_ σ a, al_ σ a) = ce_ σ a
  rw [e1, e2]
  rfl
theorem rc_cu (h : rc_ ka TX σ x G A N) : rc_ ka TX (cu_ σ G F W) x G A N := by
  have hf : fq_ (cq5_ G) σ (cu_ σ G F W) := cu_fq h.1.1
  refine rc_gen2 h hf (sh_fq h.1 hf) h.2.2.1 [17, 18, 19, 20, 21, 22] (fun r _ => ⟨rfl, fun _ => rfl⟩) h.2.1.1 (fun q hq => ?_) (fun r i m _ h9 => h9) (fun r i hd hi => ?_)
  · rcases hq with hq | hq | hq | hq | hq | hq
    · exact Or.inl ⟨17, 0, by decide, rc_1 h (by decide), hq⟩
    · exact Or.inl ⟨18, 0, by decide, rc_1 h (by decide), hq⟩
    · exact Or.inl ⟨19, 0, by decide, rc_1 h (by decide), hq⟩
    · exact Or.inl ⟨20, 0, by decide, rc_1 h (by decide), hq⟩
    · exact Or.inl ⟨21, 0, by decide, rc_1 h (by decide), hq⟩
    · exact Or.inl ⟨22, 0, by decide, rc_1 h (by decide), hq⟩
  · simp only [List.mem_cons, List.not_mem_nil, or_false] at hd
    rcases hd with rfl | rfl | rfl | rfl | rfl | rfl
    · rw [g0_ h (by decide) hi]
      obtain ⟨q1, q2, q3, q4, q5⟩ := h.2.2.2 17 0 (rc_1 h (by decide))
      exact ⟨q1, q2, q3, q4, q5⟩
    · trivial
    · trivial
    · trivial
    · trivial
    · trivial
/-- what stands still in the chooser -/
theorem cu_k (h : rc_ ka TX σ x G A N) : kd_ σ (ga_ G 17 0) = 2 ∧ (fr_ σ 100 (ga_ G 17 0) = some (ga_ G 18 0) ∧ fr_ σ 101 (ga_ G 17 0) = some (ga_ G 19 0) ∧ fr_ σ 102 (ga_ G 17 0) = some (ga_ G 20 0) ∧ fr_ σ 103 (ga_ G 17 0) = some (ga_ G 21 0) ∧ fr_ σ 104 (ga_ G 17 0) = some (ga_ G 22 0)) ∧ (kd_ σ (ga_ G 18 0) = 20 ∧ ln_ σ (ga_ G 18 0) = 14) ∧ (kd_ σ (ga_ G 19 0) = 20 ∧ ln_ σ (ga_ G 19 0) = 14) ∧ (kd_ σ (ga_ G 20 0) = 20 ∧ ln_ σ (ga_ G 20 0) = 14) ∧ (kd_ σ (ga_ G 21 0) = 22 ∧ ln_ σ (ga_ G 21 0) = 14) ∧ (kd_ σ (ga_ G 22 0) = 20 ∧ ln_ σ (ga_ G 22 0) = 15) := by
  have a0 := h.1.2 17 0 (rc_1 h (by decide))
  have a1 := h.1.2 18 0 (rc_1 h (by decide))
  have a2 := h.1.2 19 0 (rc_1 h (by decide))
  have a3 := h.1.2 20 0 (rc_1 h (by decide))
  have a4 := h.1.2 21 0 (rc_1 h (by decide))
  have a5 := h.1.2 22 0 (rc_1 h (by decide))
  exact ⟨a0.1, h.2.2.2 17 0 (rc_1 h (by decide)), ⟨a1.1, a1.2.2.1 (by decide)⟩, ⟨a2.1, a2.2.2.1 (by decide)⟩, ⟨a3.1, a3.2.2.1 (by decide)⟩, ⟨a4.1, a4.2.2.1 (by decide)⟩, ⟨a5.1, a5.2.2.1 (by decide)⟩⟩
theorem k_chBegin (h : rc_ ka TX σ x G A N) (lim gap : Int32) : f_X0_begin (cu_ σ G F W) (ga_ G 17 0) lim gap = some ((), cu_ σ G (upd (upd (upd F 106 lim) 107 gap) 105 0) W) := by
  unfold f_X0_begin
  rw [gt_t (show kd_ (cu_ σ G F W) (ga_ G 17 0) = 2 from (cu_k h).1), lt_e, lt_e, lt_e, cu_si, cu_si, cu_si]
theorem k_offer (h : rc_ ka TX σ x G A N) {k : Nat} (e : F 105 = nI k) (hk : k < 14) (v0 v1 v2 v3 : Int32) (hv : v3 = 0 ∨ v3 = 1) : f_X0_offer (cu_ σ G F W) (ga_ G 17 0) v0 v1 v2 v3 = some ((), cu_ σ G (upd F 105 (nI (k + 1))) (up2_ (up2_ (up2_ (up2_ W 0 k v0) 1 k v1) 2 k v2) 3 k v3)) := by
  obtain ⟨c0, ⟨r0, r1, r2, r3, r4⟩, k0, k1, k2, k3, k4⟩ := cu_k h
  have hd := cd5_of h
  have f5 : ∀ {W}, fi_ (cu_ σ G F W) 105 (ga_ G 17 0) = nI k := fun {W} => (cu_fi 105).trans e
  have ix := ix9_ (k := k) (M := 14) (by omega) (by omega)
  have vb : vp_nar .boolean v3 = v3 := by rcases hv with hv | hv <;> rw [hv] <;> decide
  have g14 : ¬ (14 : Int32) ≤ nI k := nI_ge (b := 14) hk (by decide)
  unfold f_X0_offer f_X0_offer_b60
  rw [gt_t (show kd_ (cu_ σ G F W) (ga_ G 17 0) = 2 from c0), lt_e, f5, if_neg g14, lt_e, lt_e, show fr_ (cu_ σ G F W) 100 (ga_ G 17 0) = some (ga_ G 18 0) from r0, nn_s, gt_t (show kd_ (cu_ σ G F W) (ga_ G 18 0) = 20 from k0.1), nI_clamp (by omega), show ln_ (cu_ σ G F W) (ga_ G 18 0) = 14 from k0.2, gt_t ix, lt_e, cu_s0 hd]
  rw [lt_e, lt_e, f5, show fr_ (cu_ σ G F (up2_ W 0 k v0)) 101 (ga_ G 17 0) = some (ga_ G 19 0) from r1, nn_s, gt_t (show kd_ (cu_ σ G F (up2_ W 0 k v0)) (ga_ G 19 0) = 20 from k1.1), nI_clamp (by omega), show ln_ (cu_ σ G F (up2_ W 0 k v0)) (ga_ G 19 0) = 14 from k1.2, gt_t ix, lt_e, cu_s1 hd]
  generalize up2_ (up2_ W 0 k v0) 1 k v1 = W1
  rw [lt_e, lt_e, f5, show fr_ (cu_ σ G F W1) 102 (ga_ G 17 0) = some (ga_ G 20 0) from r2, nn_s, gt_t (show kd_ (cu_ σ G F W1) (ga_ G 20 0) = 20 from k2.1), nI_clamp (by omega), show ln_ (cu_ σ G F W1) (ga_ G 20 0) = 14 from k2.2, gt_t ix, lt_e, cu_s2 hd]
  generalize up2_ W1 2 k v2 = W2
  rw [lt_e, lt_e, f5, show fr_ (cu_ σ G F W2) 103 (ga_ G 17 0) = some (ga_ G 21 0) from r3, nn_s, gt_t (show kd_ (cu_ σ G F W2) (ga_ G 21 0) = 22 from k3.1), nI_clamp (by omega), show ln_ (cu_ σ G F W2) (ga_ G 21 0) = 14 from k3.2, gt_t ix, lt_e, vb, cu_s3 hd]
  rw [lt_e, f5, lt_e, cu_si, nI_1]
end CU9
