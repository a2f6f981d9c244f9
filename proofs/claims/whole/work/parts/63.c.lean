/-! CALLS: answer, correct. Written by wip/b/mk63.py. -/
def sE9 (A : AS) (f : Nat → Nat → Int32) : AS := (A.1, A.2.1, A.2.2.1, A.2.2.2.1, A.2.2.2.2.1, A.2.2.2.2.2.1, A.2.2.2.2.2.2.1, f, A.2.2.2.2.2.2.2.2.1, A.2.2.2.2.2.2.2.2.2)
def sF9 (A : AS) (f : Nat → Nat → Int32) : AS := (A.1, A.2.1, A.2.2.1, A.2.2.2.1, A.2.2.2.2.1, A.2.2.2.2.2.1, A.2.2.2.2.2.2.1, A.2.2.2.2.2.2.2.1, A.2.2.2.2.2.2.2.2.1, f)
section ME63
variable {σ : TH} {y : Nat} {G : GH} {A : AS} {N : Nat → Nat}
theorem mo_siE (h : mo_ σ y G N) {c a : Nat} (hc : c < 1600) (v : Int32) : mo_ (si_ σ c a v) y G N := ⟨h.1, h.2.1, h.2.2.1, fun j hj => by
  rw [fi_si, up2_c (show 1600 + j ≠ c by omega)]
  exact h.2.2.2 j hj⟩
theorem as_siE (h : mo_ σ y G N) {e : Nat} (he : e < N 71) {c : Nat} (hc : c < 1400) (v : Int32) : as_ (si_ σ c (ga_ G 104 e) v) y G = sE9 (as_ σ y G) (up2_ (aE (as_ σ y G)) c e v) := by
  obtain ⟨⟨c100, -, -, -, c1, -, -⟩, -⟩ := h.2.1.2.2
  have g1 : e < gc_ G 104 := by rw [c1]; exact he
  have e1 : (fun q => fi_ (si_ σ c (ga_ G 104 e) v) (1600 + q) y) = fun q => fi_ σ (1600 + q) y := funext fun q => by
    rw [fi_si, up2_c (by omega)]
  have e2 : (fun c' k => if c' < 1500 ∧ k < gc_ G 100 then fi_ (si_ σ c (ga_ G 104 e) v) c' (ga_ G 100 k) else 0) = fun c' k => if c' < 1500 ∧ k < gc_ G 100 then fi_ σ c' (ga_ G 100 k) else 0 := funext fun c' => funext fun k => by
    by_cases z : c' < 1500 ∧ k < gc_ G 100
    · rw [if_pos z, if_pos z, fi_si]
      exact up2_ne (fun w => sh_ne h.1 z.2 g1 (Or.inl (by decide)) w.2)
    · rw [if_neg z, if_neg z]
  have e3 : (fun c' k => if c' < 1400 ∧ k < gc_ G 104 then fi_ (si_ σ c (ga_ G 104 e) v) c' (ga_ G 104 k) else 0) = up2_ (fun c' k => if c' < 1400 ∧ k < gc_ G 104 then fi_ σ c' (ga_ G 104 k) else 0) c e v := funext fun c' => funext fun k => by
    by_cases w : c' = c ∧ k = e
    · obtain ⟨rfl, rfl⟩ := w
      rw [if_pos ⟨hc, g1⟩, fi_si, up2_s, up2_s]
    · rw [up2_ne w]
      by_cases z : c' < 1400 ∧ k < gc_ G 104
      · rw [if_pos z, if_pos z, fi_si]
        refine up2_ne (fun q => w ⟨q.1, ?_⟩)
        by_cases hk : k = e
        · exact hk
        · exact absurd q.2 (sh_ne h.1 z.2 g1 (Or.inr hk))
      · rw [if_neg z, if_neg z]
  show (_, _, _, _, _, _, _, _, _, _) = _
  unfold sE9 as_
  rw [e1, e2, e3]
  rfl
theorem mr_siE (h : mr_ σ y G A N) {e : Nat} (he : e < N 71) {c : Nat} (hc : c < 1400) (v : Int32) : mr_ (si_ σ c (ga_ G 104 e) v) y G (sE9 A (up2_ (aE A) c e v)) N := by
  have e1 := as_siE h.1 he hc v
  have p1 : aE (as_ σ y G) = aE A := congrArg (fun z => z.2.2.2.2.2.1) h.2.2
  refine ⟨mo_siE h.1 (by omega) v, fun j hj => ?_, ?_⟩
  · rw [e1]; exact h.2.1 j hj
  · rw [e1, p1]
    unfold sE9
    rw [h.2.2]
theorem as_saF (h : mo_ σ y G N) {e : Nat} (he : e < N 71) (k : Nat) (v : Int32) : as_ (sa_ σ (ga_ G 106 e) k v) y G = sF9 (as_ σ y G) (up2_ (aF (as_ σ y G)) e k v) := by
  obtain ⟨⟨c100, c101, c102, c103, c104, c105, c106⟩, -⟩ := h.2.1.2.2
  have g1 : e < gc_ G 106 := by rw [c106]; exact he
  have hlt : ∀ r, r ∈ MA → r < 100 := by decide
  have e1 : (fun q => if q ∈ MA then ai_ (sa_ σ (ga_ G 106 e) k v) (ga_ G q 0) else fun _ => (0 : Int32)) = fun q => if q ∈ MA then ai_ σ (ga_ G q 0) else fun _ => 0 := funext fun q => by
    by_cases z : q ∈ MA
    · rw [if_pos z, if_pos z, ai_sa, up2_row (sh_ne h.1 (by rw [(h.2.2.1 q z).1]; decide) g1 (Or.inl (by have := hlt q z; omega)))]
    · rw [if_neg z, if_neg z]
  have e2 : ∀ r, r ≠ 106 → (fun q => if q < gc_ G r then ai_ (sa_ σ (ga_ G 106 e) k v) (ga_ G r q) else fun _ => (0 : Int32)) = fun q => if q < gc_ G r then ai_ σ (ga_ G r q) else fun _ => 0 := fun r hr => funext fun q => by
    by_cases z : q < gc_ G r
    · rw [if_pos z, if_pos z, ai_sa, up2_row (sh_ne h.1 z g1 (Or.inl hr))]
    · rw [if_neg z, if_neg z]
  have e3 : (fun q => if q < gc_ G 106 then ai_ (sa_ σ (ga_ G 106 e) k v) (ga_ G 106 q) else fun _ => (0 : Int32)) = up2_ (fun q => if q < gc_ G 106 then ai_ σ (ga_ G 106 q) else fun _ => 0) e k v := funext fun q => by
    by_cases w : q = e
    · subst w
      rw [if_pos g1, ai_sa]
      funext z
      by_cases hz : z = k
      · subst hz; rw [up2_s, up2_s]
      · rw [up2_n hz, up2_n hz, if_pos g1]
    · rw [up2_c w]
      by_cases z : q < gc_ G 106
      · rw [if_pos z, if_pos z, ai_sa, up2_row (sh_ne h.1 z g1 (Or.inr w))]
      · rw [if_neg z, if_neg z]
  show (_, _, _, _, _, _, _, _, _, _) = _
  unfold sF9 as_
  rw [e1, e2 101 (by decide), e2 103 (by decide), e2 105 (by decide), e3]
  rfl
theorem mr_saF (h : mr_ σ y G A N) {e : Nat} (he : e < N 71) (k : Nat) (v : Int32) : mr_ (sa_ σ (ga_ G 106 e) k v) y G (sF9 A (up2_ (aF A) e k v)) N := by
  have e1 := as_saF h.1 he k v
  have p1 : aF (as_ σ y G) = aF A := congrArg (fun z => z.2.2.2.2.2.2.2) h.2.2
  refine ⟨mo_sa h.1, fun j hj => ?_, ?_⟩
  · rw [e1]; exact h.2.1 j hj
  · rw [e1, p1]
    unfold sF9
    rw [h.2.2]
end ME63
section C63
variable {ka : Nat → Nat} {TX : Nat → Nat → (Nat → Int32) → Nat → (Nat → Int32) → Prop} {x y o N0 : Nat}
theorem ob_ans {A : AS} {G : GH} {N : Nat → Nat} {r i : Nat} {m : CE} (S : Nat → Int32) (j : Nat) (v w : Int32) (hd : ¬ r ∈ ([0, 10, 45] : List Nat)) (h : ob_ ka TX A G N r i m) : ob_ ka TX (S, up2_ (up2_ (aV A) 80 j v) 81 j w, A.2.2) G N r i m := by
  match r, hd, h with
  | 0, hd, h => exact absurd (by decide) hd
  | 1, hd, h => exact h
  | 2, hd, h => exact h
  | 3, hd, h => exact h
  | 4, hd, h => exact h
  | 5, hd, h => exact h
  | 6, hd, h => exact h
  | 7, hd, h => exact h
  | 8, hd, h => exact h
  | 9, hd, h => exact h
  | 10, hd, h => exact absurd (by decide) hd
  | 11, hd, h => exact h
  | 12, hd, h => exact h
  | 13, hd, h => exact h
  | 14, hd, h => exact h
  | 15, hd, h => exact h
  | 16, hd, h => exact h
  | 17, hd, h => exact h
  | 18, hd, h => exact h
  | 19, hd, h => exact h
  | 20, hd, h => exact h
  | 21, hd, h => exact h
  | 22, hd, h => exact h
  | 23, hd, h => exact h
  | 24, hd, h => exact h
  | 25, hd, h => exact h
  | 26, hd, h => exact h
  | 27, hd, h => exact h
  | 28, hd, h => exact h
  | 29, hd, h => exact h
  | 30, hd, h => exact h
  | 31, hd, h => exact h
  | 32, hd, h => exact h
  | 33, hd, h => exact h
  | 34, hd, h => exact h
  | 35, hd, h => exact h
  | 36, hd, h => exact h
  | 37, hd, h => exact h
  | 38, hd, h => exact h
  | 39, hd, h => exact h
  | 40, hd, h => exact h
  | 41, hd, h => exact h
  | 42, hd, h => exact h
  | 43, hd, h => exact h
  | 44, hd, h => exact h
  | 45, hd, h => exact absurd (by decide) hd
  | 46, hd, h => exact h
  | 47, hd, h => exact h
  | 48, hd, h => exact h
  | 49, hd, h => exact h
  | 50, hd, h => exact h
  | 51, hd, h => exact h
  | 52, hd, h => exact h
  | 53, hd, h => exact h
  | 54, hd, h => exact h
  | 55, hd, h => exact h
  | 56, hd, h => exact h
  | 57, hd, h => exact h
  | 58, hd, h => exact h
  | r + 59, hd, h => exact h
theorem ob_cor {A : AS} {G : GH} {N : Nat → Nat} {r i : Nat} {m : CE} (S : Nat → Int32) (e k : Nat) (v w u : Int32) (hd : ¬ r ∈ ([0, 10, 46, 48] : List Nat)) (h : ob_ ka TX A G N r i m) : ob_ ka TX (S, (sF9 (sE9 A (up2_ (up2_ (aE A) 1307 e v) 1308 e w)) (up2_ (aF A) e k u)).2) G N r i m := by
  match r, hd, h with
  | 0, hd, h => exact absurd (by decide) hd
  | 1, hd, h => exact h
  | 2, hd, h => exact h
  | 3, hd, h => exact h
  | 4, hd, h => exact h
  | 5, hd, h => exact h
  | 6, hd, h => exact h
  | 7, hd, h => exact h
  | 8, hd, h => exact h
  | 9, hd, h => exact h
  | 10, hd, h => exact absurd (by decide) hd
  | 11, hd, h => exact h
  | 12, hd, h => exact h
  | 13, hd, h => exact h
  | 14, hd, h => exact h
  | 15, hd, h => exact h
  | 16, hd, h => exact h
  | 17, hd, h => exact h
  | 18, hd, h => exact h
  | 19, hd, h => exact h
  | 20, hd, h => exact h
  | 21, hd, h => exact h
  | 22, hd, h => exact h
  | 23, hd, h => exact h
  | 24, hd, h => exact h
  | 25, hd, h => exact h
  | 26, hd, h => exact h
  | 27, hd, h => exact h
  | 28, hd, h => exact h
  | 29, hd, h => exact h
  | 30, hd, h => exact h
  | 31, hd, h => exact h
  | 32, hd, h => exact h
  | 33, hd, h => exact h
  | 34, hd, h => exact h
  | 35, hd, h => exact h
  | 36, hd, h => exact h
  | 37, hd, h => exact h
  | 38, hd, h => exact h
  | 39, hd, h => exact h
  | 40, hd, h => exact h
  | 41, hd, h => exact h
  | 42, hd, h => exact h
  | 43, hd, h => exact h
  | 44, hd, h => exact h
  | 45, hd, h => exact h
  | 46, hd, h => exact absurd (by decide) hd
  | 47, hd, h => exact h
  | 48, hd, h => exact absurd (by decide) hd
  | 49, hd, h => exact h
  | 50, hd, h => exact h
  | 51, hd, h => exact h
  | 52, hd, h => exact h
  | 53, hd, h => exact h
  | 54, hd, h => exact h
  | 55, hd, h => exact h
  | 56, hd, h => exact h
  | 57, hd, h => exact h
  | 58, hd, h => exact h
  | r + 59, hd, h => exact h
theorem rc_45 {σ : TH} {G : GH} {A : AS} {N : Nat → Nat} (h : rc_ ka TX σ x G A N) : gc_ G 45 = N 70 := by
  have := h.2.2.1
  unfold cg_ at this
  simp only [this]
theorem rc_ans {σ τ : TH} {G : GH} {A : AS} {N : Nat → Nat} (h : rc_ ka TX σ x G A N) {q : Nat} (hq : q < N 70) (v w : Int32) (hv : ¬ v = -1) (hw : w = 0 ∨ w = 1) (e0 : τ = si_ (si_ (si_ σ 602 (ga_ G 45 q) v) 603 (ga_ G 45 q) w) 1214 x 0) : rc_ ka TX τ x G (s3_ (aS A) 0, up2_ (up2_ (aV A) 80 q v) 81 q w, A.2.2) N ∧ fq_ (fun a => a = x ∨ a = ga_ G 45 q) σ τ := by
  have hc : q < gc_ G 45 := by rw [rc_45 h]; exact hq
  have hf : fq_ (fun a => a = x ∨ a = ga_ G 45 q) σ τ := by
    rw [e0]
    exact fqi (fqi (fqi (fq_rf h.1.1) (Or.inr rfl)) (Or.inr rfl)) (Or.inl rfl)
  have hxq := rc_nx h hc (by decide)
  refine ⟨rc_gen h hf (fun r i => r ∈ ([0, 10, 45] : List Nat)) (tne_ (T := fun a => a = x ∨ a = ga_ G 45 q) h.1 (fun a ha => ?_)) (fun r i mm hi hd2 h9 => ob_ans _ _ _ _ hd2 h9) (fun r i hi hd2 => ?_), hf⟩
  · rcases ha with ha | ha
    · exact ⟨0, 0, by decide, rc_1 h (by decide), ha.trans h.2.1.1.symm⟩
    · exact ⟨45, q, by decide, hc, ha⟩
  · simp only [List.mem_cons, List.not_mem_nil, or_false] at hd2
    rcases hd2 with rfl | rfl | rfl
    · rw [g0_ h (by decide) hi, h.2.1.1]
      refine ob_0b h 0 _ (fun c => by rw [e0]; rfl) (fun c c1 => ?_) ?_ (fun _ _ => rfl)
      · rw [e0, fi_si, up2_c c1, fi_si, up2_ne (fun z => hxq z.2.symm), fi_si, up2_ne (fun z => hxq z.2.symm)]
      · rw [e0, fi_si, up2_s]
    · rw [g0_ h (by decide) hi]
      have n1 := sh_ne h.1 (r := 10) (i := 0) (rc_1 h (by decide)) hc (Or.inl (by decide))
      have : ce_ τ (ga_ G 10 0) = ce_ σ (ga_ G 10 0) := by
        rw [e0, ce_si (rc_nx h (rc_1 h (by decide)) (by decide)), ce_si n1, ce_si n1]
      rw [this]
      exact ob_10 h 0 (by decide) _
    · rw [e0, ce_si (rc_nx h hi (by decide))]
      by_cases e : i = q
      · subst e
        obtain ⟨q0, q1, q2, q3, q4⟩ := h.2.2.2 45 i hc
        refine ⟨q0, q1, ?_, ?_, ?_⟩
        · show up2_ (fi_ σ) 602 (ga_ G 45 i) v 602 (ga_ G 45 i) = if up2_ (aV A) 80 i v 80 i = -1 then 0 else up2_ (aV A) 80 i v 80 i
          rw [up2_s, up2_s, if_neg hv]
        · show up2_ (fi_ (si_ σ 602 (ga_ G 45 i) v)) 603 (ga_ G 45 i) w 603 (ga_ G 45 i) = up2_ (up2_ (aV A) 80 i v) 81 i w 81 i
          rw [up2_s, up2_s]
        · show up2_ (up2_ (aV A) 80 i v) 81 i w 81 i = 0 ∨ up2_ (up2_ (aV A) 80 i v) 81 i w 81 i = 1
          rw [up2_s]; exact hw
      · rw [ce_si (sh_ne h.1 hi hc (Or.inr e)), ce_si (sh_ne h.1 hi hc (Or.inr e))]
        obtain ⟨q0, q1, q2, q3, q4⟩ := h.2.2.2 45 i hi
        refine ⟨q0, q1, ?_, ?_, ?_⟩
        · show _ = if up2_ (aV A) 80 q v 80 i = -1 then 0 else up2_ (aV A) 80 q v 80 i
          rw [up2_n e]; exact q2
        · show _ = up2_ (up2_ (aV A) 80 q v) 81 q w 81 i
          rw [up2_n e]; exact q3
        · show up2_ (up2_ (aV A) 80 q v) 81 q w 81 i = 0 ∨ up2_ (up2_ (aV A) 80 q v) 81 q w 81 i = 1
          rw [up2_n e]; exact q4
theorem pv_ans {A : AS} {N : Nat → Nat} {S : Nat → Int32} (h : pv_ A N) {q : Nat} (hq : q < N 70) {v w : Int32} (hv : 1 ≤ v ∧ v ≤ 400) : pv_ (S, up2_ (up2_ (aV A) 80 q v) 81 q w, A.2.2) N := by
  obtain ⟨h1, h2, h3, h4, h5, h6, h7, d1, d2, d3, d4, d5, d6⟩ := h
  refine ⟨h1, h2, h3, h4, h5, fun i hi => ?_, h7, d1, d2, d3, d4, fun i hi hi2 => ?_, d6⟩
  · show (up2_ (aV A) 80 q v 80 i = -1 ∧ up2_ (up2_ (aV A) 80 q v) 81 q w 81 i = 0) ∨ (1 ≤ up2_ (aV A) 80 q v 80 i ∧ up2_ (aV A) 80 q v 80 i ≤ 400)
    by_cases z : i = q
    · subst z; rw [up2_s]; exact Or.inr hv
    · rw [up2_n z, up2_n z]; exact h6 i hi
  · show up2_ (up2_ (aV A) 80 q v) 81 q w 81 i = 0
    rw [up2_n (show i ≠ q by omega)]
    exact d5 i hi hi2
theorem ok_answer : St_answer ka x y (inv_ ka TX pv_ x y o N0) := fun n c m a0 a1 hn hI => by
  obtain ⟨GC, GM, N, k1, k2, k3, k4, k5, k6, k7, k8⟩ := id hI
  have hN := (mo_n k1 (j := 5) (cj := 1605) (m := 30) (by decide)).2
  obtain ⟨e6, hN6⟩ := mo_n k1 (j := 6) (cj := 1606) (m := 5257439) (by decide)
  have hb : mr_ (bm_ m c) y GM (as_ m y GM) N := mr_bm (mr_of k1) (Nat.le_of_eq k5.1)
  have hx := rc_x k2
  obtain ⟨e9, hN70⟩ := mo_n k1 (j := 70) (cj := 1670) (m := 60) (by decide)
  obtain ⟨r1, r2⟩ := rc_r1205 k2
  have hl := rc_l6 k2 (by omega)
  have l1 := l_size hl
  have q13 : fi_ c 1213 x = nI (N 6) := (rc_f0 k2).2.2.2.1.trans e6
  rcases rg_ a0 (n := N 70) (by omega) with ⟨q, hq, rfl⟩ | hout
  · have l2 := l_get hl hq
    have g := rg_in hq (show N 70 < 2 ^ 31 by omega)
    have hc : q < gc_ GC 45 := by rw [rc_45 k2]; exact hq
    have hk : kd_ c (ga_ GC 45 q) = 7 := (k2.1.2 45 q hc).1
    have gl : nI q < nI (N 70) := nI_lt hq (by omega)
    have g1 : ¬ nI q < 0 := nI_pos (by omega)
    have g3 : (nI q).toNatClampNeg = q := nI_clamp (by omega)
    have g4 : ¬ 60 ≤ q := by omega
    by_cases z1 : 1 ≤ a1 ∧ a1 ≤ 400
    · obtain ⟨q0, q1, q2, q3, q4⟩ := k2.2.2.2 45 q hc
      have q1 : fi_ c 601 (ga_ GC 45 q) = aV (as_ m y GM) 79 q := q1
      have q2 : fi_ c 602 (ga_ GC 45 q) = if aV (as_ m y GM) 80 q = -1 then 0 else aV (as_ m y GM) 80 q := q2
      have hv1 : ¬ a1 = -1 := fun z => by rw [z] at z1; exact absurd z1.1 (by decide)
      by_cases z2 : aV (as_ m y GM) 80 q = -1
      · rw [if_pos z2] at q2
        have hw : (if aV (as_ m y GM) 79 q < nI (N 6) then (0 : Int32) else 1) = 0 ∨ (if aV (as_ m y GM) 79 q < nI (N 6) then (0 : Int32) else 1) = 1 := by split <;> simp
        have ew : ∀ {α : Type} (u v : α) , (if aV (as_ m y GM) 79 q < nI (N 6) then u else v) = (if (if aV (as_ m y GM) 79 q < nI (N 6) then (0 : Int32) else 1) = 0 then u else v) := fun u v => by
          by_cases z : aV (as_ m y GM) 79 q < nI (N 6) <;> simp [z]
        generalize (if aV (as_ m y GM) 79 q < nI (N 6) then (0 : Int32) else 1) = w at hw ew
        obtain ⟨w1, w2⟩ := rc_ans k2 hq a1 w hv1 hw rfl
        have hxc : x ≠ ga_ GC 45 q := (rc_nx k2 hc (by decide)).symm
        have f13 : fi_ (si_ c 602 (ga_ GC 45 q) a1) 1213 x = nI (N 6) := by rw [fi_si, up2_ne (fun z => hxc z.2)]; exact q13
        have f601 : fi_ (si_ c 602 (ga_ GC 45 q) a1) 601 (ga_ GC 45 q) = aV (as_ m y GM) 79 q := by rw [fi_si, up2_c (by decide)]; exact q1
        have h0 := mr_bm (z := si_ (si_ (si_ c 602 (ga_ GC 45 q) a1) 603 (ga_ GC 45 q) w) 1214 x 0) (mr_of k1) (Nat.le_of_eq k5.1)
        have h1 := mr_si h0 (j := 0) (c := 1600) (by decide) 0
        have hwf := h0.1.1.1
        have as1 := k_asN (si_ (si_ c 602 (ga_ GC 45 q) a1) 603 (ga_ GC 45 q) w) hw
        have g1c : f_X11_answer c x (nI q) a1 = some (w, si_ (si_ (si_ c 602 (ga_ GC 45 q) a1) 603 (ga_ GC 45 q) w) 1214 x 0) := by
          have hb87 : ∀ w, w = 0 ∨ w = 1 → f_X11_answer_b87 (si_ c 602 (ga_ GC 45 q) a1) x (some (ga_ GC 45 q)) w (some (ga_ GC 45 q)) = some (w, si_ (si_ (si_ c 602 (ga_ GC 45 q) a1) 603 (ga_ GC 45 q) w) 1214 x 0) := fun w hw => by
            have as1 := k_asN (si_ (si_ c 602 (ga_ GC 45 q) a1) 603 (ga_ GC 45 q) w) hw
            unfold f_X11_answer_b87
            rw [nn_s, gt_t (show kd_ (si_ c 602 (ga_ GC 45 q) a1) (ga_ GC 45 q) = 7 from hk), gt_t hw, lt_e, nn_s, gt_t (show kd_ (si_ (si_ c 602 (ga_ GC 45 q) a1) 603 (ga_ GC 45 q) w) (ga_ GC 45 q) = 7 from hk), lt_e, fi_si, up2_s, as1, bd_s, gt_t (show kd_ (si_ (si_ c 602 (ga_ GC 45 q) a1) 603 (ga_ GC 45 q) w) x = 13 from hx), k_granted (show kd_ (si_ (si_ c 602 (ga_ GC 45 q) a1) 603 (ga_ GC 45 q) w) x = 13 from hx), bd_s]
          unfold f_X11_answer
          rw [gt_t hx, lt_e, r1, nn_s, gt_t r2, l1, bd_s, k_within, bd_s, bi_t g, if_neg (by decide), k_within, bd_s, bi_t z1, if_neg (by decide), lt_e, r1, nn_s, gt_t r2, l2, bd_s, gt_t (show Option.elim (some (ga_ GC 45 q)) 7 (kd_ c) = 7 from hk), nn_s, gt_t hk, lt_e, q2, if_pos (by decide), lt_e, lt_e, f13, lt_e, f601, ew]
          rcases hw with hw | hw
          · rw [if_pos hw, hb87 0 (Or.inl rfl), hw]
          · rw [if_neg (by rw [hw]; decide), hb87 1 (Or.inr rfl), hw]
        obtain ⟨m1, hm1⟩ : ∃ m1, m1 = tr_ (sa_ (sa_ (si_ (bm_ m (si_ (si_ (si_ c 602 (ga_ GC 45 q) a1) 603 (ga_ GC 45 q) w) 1214 x 0)) 1600 y 0) (ga_ GM 80 0) q a1) (ga_ GM 81 0) q w) y 0 := ⟨_, rfl⟩
        have g1r : f_X15_answer (bm_ m (si_ (si_ (si_ c 602 (ga_ GC 45 q) a1) 603 (ga_ GC 45 q) w) 1214 x 0)) y (nI q) a1 = some (w, m1) := by
          rw [hm1]
          unfold f_X15_answer
          rw [gt_t (mo_yb k1), lt_e]
          generalize si_ (bm_ m (si_ (si_ (si_ c 602 (ga_ GC 45 q) a1) 603 (ga_ GC 45 q) w) 1214 x 0)) 1600 y 0 = σ at h1 ⊢
          have hy := mo_y h1.1
          have ec := (mo_n h1.1 (j := 70) (cj := 1670) (m := 60) (by decide)).1
          have ek := (mo_n h1.1 (j := 6) (cj := 1606) (m := 5257439) (by decide)).1
          obtain ⟨a79, b79, c79⟩ := mo_a h1.1 (j := 79) (cj := 1679) (K := 20) (n := 60) (by decide)
          obtain ⟨a80, b80, c80⟩ := mo_a h1.1 (j := 80) (cj := 1680) (K := 20) (n := 60) (by decide)
          obtain ⟨a81, b81, c81⟩ := mo_a h1.1 (j := 81) (cj := 1681) (K := 22) (n := 60) (by decide)
          have v79 := mr_V h1 (j := 79) (by decide) q
          have v80 := mr_V h1 (j := 80) (by decide) q
          have ne8 : ga_ GM 79 0 ≠ ga_ GM 80 0 := mo_ne h1.1 (by decide) (by decide) (by decide)
          have nar : vp_nar .boolean (0 : Int32) = 0 ∧ vp_nar .boolean (1 : Int32) = 1 := ⟨rfl, rfl⟩
          rw [if_neg g1, lt_e, ec, if_pos gl, m_in, bd_s, bi_t z1, if_neg (by decide)]
          rcases hw with hw | hw
          · have ew2 : aV (as_ m y GM) 79 q < nI (N 6) := Classical.byContradiction (fun z => by
              have e3 := ew (0 : Int32) 1
              rw [if_neg z, if_pos hw] at e3
              exact absurd e3 (by decide))
            simp [f_X15_answer_b86, f_X15_answer_b102, gt_, lt_, nn_, oc_, bd_, kd_si, ln_si, fi_si, fr_si, fl_si, ai_si, ar_si, al_si, ow_si, nx_si, sl_si, kd_sr, ln_sr, fi_sr, fr_sr, fl_sr, ai_sr, ar_sr, al_sr, ow_sr, nx_sr, sl_sr, kd_so, ln_so, fi_so, fr_so, fl_so, ai_so, ar_so, al_so, ow_so, nx_so, sl_so, kd_sa, ln_sa, fi_sa, fr_sa, fl_sa, ai_sa, ar_sa, al_sa, ow_sa, nx_sa, sl_sa, kd_sq, ln_sq, fi_sq, fr_sq, fl_sq, ai_sq, ar_sq, al_sq, ow_sq, nx_sq, sl_sq, kd_sj, ln_sj, fi_sj, fr_sj, fl_sj, ai_sj, ar_sj, al_sj, ow_sj, nx_sj, sl_sj, up2_e, hy, ek, a79, b79, c79, a80, b80, c80, a81, b81, c81, g1, g3, g4, v79, v80, z2, ne8, ew2, hw, nar, m_done]
          · have ew2 : ¬ aV (as_ m y GM) 79 q < nI (N 6) := fun z => by
              have e3 := ew (0 : Int32) 1
              rw [if_pos z, if_neg (by rw [hw]; decide)] at e3
              exact absurd e3 (by decide)
            simp [f_X15_answer_b86, f_X15_answer_b102, gt_, lt_, nn_, oc_, bd_, kd_si, ln_si, fi_si, fr_si, fl_si, ai_si, ar_si, al_si, ow_si, nx_si, sl_si, kd_sr, ln_sr, fi_sr, fr_sr, fl_sr, ai_sr, ar_sr, al_sr, ow_sr, nx_sr, sl_sr, kd_so, ln_so, fi_so, fr_so, fl_so, ai_so, ar_so, al_so, ow_so, nx_so, sl_so, kd_sa, ln_sa, fi_sa, fr_sa, fl_sa, ai_sa, ar_sa, al_sa, ow_sa, nx_sa, sl_sa, kd_sq, ln_sq, fi_sq, fr_sq, fl_sq, ai_sq, ar_sq, al_sq, ow_sq, nx_sq, sl_sq, kd_sj, ln_sj, fi_sj, fr_sj, fl_sj, ai_sj, ar_sj, al_sj, ow_sj, nx_sj, sl_sj, up2_e, hy, ek, a79, b79, c79, a80, b80, c80, a81, b81, c81, g1, g3, g4, v79, v80, z2, ne8, ew2, hw, nar, m_done]
        have g2 : fq_ (fun q => q = y ∨ q = ga_ GM 80 0 ∨ q = ga_ GM 81 0) (bm_ m (si_ (si_ (si_ c 602 (ga_ GC 45 q) a1) 603 (ga_ GC 45 q) w) 1214 x 0)) m1 := by
          rw [hm1]
          exact fqt (fqa (fqa (fqi (fq_rf hwf) (Or.inl rfl)) (Or.inr (Or.inl rfl))) (Or.inr (Or.inr rfl))) (Or.inl rfl)
        have g3r : mr_ m1 y GM (s3_ (aS (as_ m y GM)) 0, up2_ (up2_ (aV (as_ m y GM)) 80 q a1) 81 q w, (as_ m y GM).2.2) N := by
          rw [hm1]
          exact mr_S (mr_tr (mr_sa (mr_sa h1 (j := 80) (by decide) q a1) (j := 81) (by decide) q w) 0) _
        have g4r : ∀ j, j ∈ DS → fi_ m1 (1600 + j) y = s3_ (aS (as_ m y GM)) 0 j := fun j hj => by
          rw [hm1]
          exact s3_fi (bm_ m (si_ (si_ (si_ c 602 (ga_ GC 45 q) a1) 603 (ga_ GC 45 q) w) 1214 x 0)) y 0 j
        have g5 : nx_ m1 = nx_ c ∧ sl_ m1 = sl_ c := by rw [hm1]; exact ⟨rfl, rfl⟩
        exact ⟨w, _, m1, g1c, g1r, inv_fin hI w2 ⟨Nat.le_add_right _ _, Nat.le_add_right _ _⟩ g2 ⟨by rw [g5.1]; exact Nat.le_add_right _ _, by rw [g5.2]; exact Nat.le_add_right _ _⟩ g3r g4r w1 (pv_ans k3 hq z1)⟩
      · rw [if_neg z2] at q2
        have z3 : ¬ aV (as_ m y GM) 80 q ≤ 0 := by
          rcases k3.2.2.2.2.2.1 q hq with ⟨h1, -⟩ | ⟨h1, -⟩
          · exact absurd h1 z2
          · exact fun z => absurd (Int32.le_trans h1 z) (by decide)
        refine ⟨-1, si_ c 1214 x 5, tr_ (si_ (bm_ m (si_ c 1214 x 5)) 1600 y 0) y 5, ?_, ?_, no_ pv_S hI 5 (by decide)⟩
        · simp [f_X11_answer, gt_, lt_, nn_, oc_, bd_, hx, r1, r2, l1, l2, k_within, bi_, g, z1, hk, q2, z3, k_refused hx]
        · have h1 := mr_si (mr_bm (z := si_ c 1214 x 5) (mr_of k1) (Nat.le_of_eq k5.1)) (j := 0) (c := 1600) (by decide) 0
          unfold f_X15_answer
          rw [gt_t (show kd_ (bm_ m (si_ c 1214 x 5)) y = 17 from mo_yb k1), lt_e]
          generalize si_ (bm_ m (si_ c 1214 x 5)) 1600 y 0 = σ at h1 ⊢
          have ec := (mo_n h1.1 (j := 70) (cj := 1670) (m := 60) (by decide)).1
          obtain ⟨a80, b80, c80⟩ := mo_a h1.1 (j := 80) (cj := 1680) (K := 20) (n := 60) (by decide)
          have v80 := mr_V h1 (j := 80) (by decide) q
          simp [gt_, lt_, nn_, oc_, bd_, ec, gl, m_in, bi_, z1, a80, b80, c80, g1, g3, g4, v80, z2, m_refused (mo_y h1.1)]
    · skip
      refine ⟨-1, si_ c 1214 x 2, tr_ (si_ (bm_ m (si_ c 1214 x 2)) 1600 y 0) y 2, ?_, ?_, no_ pv_S hI 2 (by decide)⟩
      · simp [f_X11_answer, gt_, lt_, nn_, oc_, bd_, hx, r1, r2, l1, k_within, bi_, g, z1, k_refused hx]
      · have h1 := mr_si (mr_bm (z := si_ c 1214 x 2) (mr_of k1) (Nat.le_of_eq k5.1)) (j := 0) (c := 1600) (by decide) 0
        unfold f_X15_answer
        rw [gt_t (show kd_ (bm_ m (si_ c 1214 x 2)) y = 17 from mo_yb k1), lt_e]
        generalize si_ (bm_ m (si_ c 1214 x 2)) 1600 y 0 = σ at h1 ⊢
        have ec := (mo_n h1.1 (j := 70) (cj := 1670) (m := 60) (by decide)).1
        simp [gt_, lt_, nn_, oc_, bd_, ec, gl, g1, m_in, bi_, z1, m_refused (mo_y h1.1)]
  · have g := rg_out (show N 70 < 2 ^ 31 by omega) hout
    refine ⟨-1, si_ c 1214 x 1, tr_ (si_ (bm_ m (si_ c 1214 x 1)) 1600 y 0) y 1, ?_, ?_, no_ pv_S hI 1 (by decide)⟩
    · simp [f_X11_answer, gt_, lt_, nn_, oc_, bd_, hx, r1, r2, l1, k_within, bi_, g, k_refused hx]
    · have h1 := mr_si (mr_bm (z := si_ c 1214 x 1) (mr_of k1) (Nat.le_of_eq k5.1)) (j := 0) (c := 1600) (by decide) 0
      unfold f_X15_answer
      rw [gt_t (show kd_ (bm_ m (si_ c 1214 x 1)) y = 17 from mo_yb k1), lt_e]
      generalize si_ (bm_ m (si_ c 1214 x 1)) 1600 y 0 = σ at h1 ⊢
      have ec := (mo_n h1.1 (j := 70) (cj := 1670) (m := 60) (by decide)).1
      by_cases g1 : a0 < 0
      · simp [f_X15_answer_b17, gt_, lt_, nn_, oc_, bd_, mo_y h1.1, g1, m_refused (mo_y h1.1)]
      · have g2 : ¬ a0 < nI (N 70) := fun z => absurd z (Int32.not_lt.mpr (hout.resolve_left g1))
        simp [f_X15_answer_b17, gt_, lt_, nn_, oc_, bd_, mo_y h1.1, ec, g1, g2, m_refused (mo_y h1.1)]
end C63
