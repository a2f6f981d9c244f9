/-! A WEEK: gains, and the list of stories. Written by wip/b/mk99zzg.py. -/
def bcN_ (v : Int32) : Nat := (bcf v).toNatClampNeg
theorem bcN_all : ∀ v, v < 1024 → bcf (nI v) = nI (bcN_ (nI v)) ∧ bcN_ (nI v) ≤ 10 ∧ (bcN_ (nI v) = 0 ↔ v = 0) := by decide +kernel
/-- how many kinds are stale -/
def wkS_ (A : AS) (N : Nat → Nat) (p : Nat) : Nat := bcN_ (bo_ (sl9_ A p (nI (td_ N))) 10)
theorem wkS_e (A : AS) (N : Nat → Nat) (p : Nat) : bcf (bo_ (sl9_ A p (nI (td_ N))) 10) = nI (wkS_ A N p) ∧ wkS_ A N p ≤ 10 ∧ (wkS_ A N p = 0 ↔ bo_ (sl9_ A p (nI (td_ N))) 10 = 0) := by
  unfold wkS_
  rw [bo_v _ 10 (Nat.le_refl _)]
  obtain ⟨h1, h2, h3⟩ := bcN_all _ (bv_lt (sl9_ A p (nI (td_ N))) 10)
  refine ⟨h1, h2, h3.trans ⟨fun e => by rw [e]; rfl, fun e => ?_⟩⟩
  have hb := bv_lt (sl9_ A p (nI (td_ N))) 10
  exact (nI_eq (by omega) (by decide)).mp (show nI (bv_ (sl9_ A p (nI (td_ N))) 10) = nI 0 from e)
def chc_ (a : Int32) : Nat := if (40 : Int32) ≤ a then (if (60 : Int32) ≤ a then (if (75 : Int32) ≤ a then (if (85 : Int32) ≤ a then 80 else 30) else 10) else 3) else 1
theorem chc_le (a : Int32) : chc_ a ≤ 80 := by
  unfold chc_
  split
  · split
    · split
      · split <;> decide
      · decide
    · decide
  · decide
def wkP_ (A : AS) (p : Nat) : Nat := if aV A 16 p = 0 then 1 else 5
def wkW_ (A : AS) (p : Nat) : Nat := (aV A 10 p).toNatClampNeg
/-- the gain of a story -/
def wkG_ (A : AS) (N : Nat → Nat) (p : Nat) : Nat := ((chc_ (ag_ A N p) * wkP_ A p) * wkW_ A p) * wkS_ A N p
def wkH_ (A : AS) (N : Nat → Nat) (p : Nat) : Nat := 1 + (wkS_ A N p + 2) / 3
theorem wkW_e {A : AS} {N : Nat → Nat} (hH : pvH A N) {p : Nat} (hp : p < N 5) : aV A 10 p = nI (wkW_ A p) ∧ wkW_ A p ≤ 100 := by
  obtain ⟨-, ⟨q1, q2⟩, -⟩ := hH p hp
  unfold wkW_
  rcases rg_ (aV A 10 p) (n := 101) (by decide) with ⟨l, hl, e⟩ | q | q
  · rw [e, nI_clamp (by omega)]
    exact ⟨rfl, by omega⟩
  · exact absurd (Int32.le_trans (show (0 : Int32) ≤ 1 by decide) q1) (Int32.not_le.mpr q)
  · exact absurd (Int32.le_trans q q2) (by decide)
theorem wkG_le {A : AS} {N : Nat → Nat} (hH : pvH A N) {p : Nat} (hp : p < N 5) : wkG_ A N p ≤ 400000 := by
  have h1 := chc_le (ag_ A N p)
  have h2 : wkP_ A p ≤ 5 := by unfold wkP_; split <;> decide
  have h3 := (wkW_e hH hp).2
  have h4 := (wkS_e A N p).2.1
  have e1 : chc_ (ag_ A N p) * wkP_ A p ≤ 80 * 5 := Nat.mul_le_mul h1 h2
  have e2 : chc_ (ag_ A N p) * wkP_ A p * wkW_ A p ≤ 400 * 100 := Nat.mul_le_mul e1 h3
  exact Nat.mul_le_mul e2 h4
def wkQ_ (A : AS) (N : Nat → Nat) (w : Int32) (p : Nat) : Bool := decide (aV A 11 p = w) && (decide (aV A 15 p = 0) && !decide (wkS_ A N p = 0))
section KGA
variable {ka : Nat → Nat} {TX : Nat → Nat → (Nat → Int32) → Nat → (Nat → Int32) → Prop} {x : Nat} {σ : TH} {G : GH} {A : AS} {N : Nat → Nat}
theorem k_chance (h : rc_ ka TX σ x G A N) {p : Nat} (hp : p < N 5) (hm : aS A 6 = nI (N 6)) (hb : N 6 ≤ 5257439) : f_X11_chanceOf σ x (some (ga_ G 31 p)) = some (nI (chc_ (ag_ A N p) * wkP_ A p), σ) := by
  have h31 : p < gc_ G 31 := by rw [rc_31 h]; exact hp
  have e6 : fi_ σ 306 (ga_ G 31 p) = aV A 16 p := (h.2.2.2 31 p h31).2.2.2.2.2.2.1
  have ca : f_X11_chanceAt σ (ag_ A N p) = some (nI (chc_ (ag_ A N p)), σ) := by
    unfold f_X11_chanceAt f_X11_chanceAt_b38 chc_
    by_cases z1 : (40 : Int32) ≤ ag_ A N p
    · rw [if_pos z1, if_pos z1]
      by_cases z2 : (60 : Int32) ≤ ag_ A N p
      · rw [if_pos z2, if_pos z2]
        by_cases z3 : (75 : Int32) ≤ ag_ A N p
        · rw [if_pos z3, if_pos z3]
          by_cases z4 : (85 : Int32) ≤ ag_ A N p
          · rw [if_pos z4, if_pos z4]; rfl
          · rw [if_neg z4, if_neg z4]; rfl
        · rw [if_neg z3, if_neg z3]; rfl
      · rw [if_neg z2, if_neg z2]; rfl
    · rw [if_neg z1, if_neg z1]; rfl
  unfold f_X11_chanceOf f_X11_chanceOf_b23 wkP_
  rw [gt_t (rc_x h), k_ageOf h hp hm hb, bd_s, ca, bd_s, nn_s, gt_t (k_per h hp).1, lt_e, e6]
  by_cases z : aV A 16 p = 0
  · rw [if_pos z, if_pos z, Nat.mul_one]
  · rw [if_neg z, if_neg z, ← pk_mul]
    rfl
theorem k_hoursFor (h : rc_ ka TX σ x G A N) {p : Nat} (hp : p < N 5) (hN : N 5 ≤ 30) (hm : aS A 6 = nI (N 6)) (hb : N 6 ≤ 5257439) : f_X11_hoursFor σ x (some (ga_ G 31 p)) = some (nI (wkH_ A N p), σ) := by
  have f1213 : fi_ σ 1213 x = nI (N 6) := (rc_f0 h).2.2.2.1.trans hm
  obtain ⟨e1, e2, -⟩ := wkS_e A N p
  unfold f_X11_hoursFor wkH_
  rw [gt_t (rc_x h), k_today (rc_x h) f1213 (by omega), bd_s, k_staleKinds h hp hN, bd_s, k_bits, bd_s, show bcf (bo_ (sl9_ A p (nI (N 6 / 1440))) 10) = nI (wkS_ A N p) from e1, gt_t (by decide), show nI (wkS_ A N p) + 2 = nI (wkS_ A N p + 2) from nI_add _ 2, show (3 : Int32) = nI 3 from rfl, pk_div (by omega) (by decide) (by decide)]
  exact congrArg (fun v => some (v, σ)) (nI_add 1 ((wkS_ A N p + 2) / 3))
theorem rc_308 (h : rc_ ka TX σ x G A N) {k : Nat} (hk : k < gc_ G 31) (v : Int32) : rc_ ka TX (si_ σ 308 (ga_ G 31 k) v) x G A N := by
  refine rc_gen h (fq_si (T := fun q => q = ga_ G 31 k) h.1.1 rfl) (fun r i => r = 31) (fun r i hi hd hT => sh_ne h.1 hi hk (Or.inl hd) hT) (fun r i mm hi hd h9 => h9) (fun r i hi hd => ?_)
  subst hd
  by_cases z : i = k
  · subst z
    obtain ⟨q0, q1, q2, q3, q4, q5, q6, q7, q8, q9⟩ := h.2.2.2 31 i hi
    exact ⟨q0, q1, q2, q3, q4, q5, q6, q7, q8, q9⟩
  · rw [ce_si (sh_ne h.1 hi hk (Or.inr z))]
    exact h.2.2.2 31 i hi
/-- the list of stories as it stands -/
def wB_ (A : AS) (W : Nat → Int32) : AS := (A.1, (fun j => if j = 84 then W else aV A j), A.2.2)
def wM_ (N : Nat → Nat) (n : Nat) : Nat → Nat := fun q => if q = 86 then n else N q
def ln8_ (l : List Nat) (t : Nat) : Int32 := nI (l.getD t 0)
theorem wB_self (A : AS) : wB_ A (aV A 84) = A := by
  have e : (fun j => if j = 84 then aV A 84 else aV A j) = aV A := funext fun j => by
    by_cases z : j = 84
    · rw [if_pos z, z]
    · rw [if_neg z]
  show (A.1, (fun j => if j = 84 then aV A 84 else aV A j), A.2.2) = A
  rw [e]
  rfl
theorem wM_self (N : Nat → Nat) : wM_ N (N 86) = N := funext fun q => by
  show (if q = 86 then N 86 else N q) = N q
  by_cases z : q = 86
  · rw [if_pos z, z]
  · rw [if_neg z]
def sg8_ (G G1 : GH) : Prop := ∀ r, r ≠ 58 → gc_ G1 r = gc_ G r ∧ ∀ i, ga_ G1 r i = ga_ G r i
theorem ls_cong {a e n : Nat} {f f2 : Nat → Nat} (h : ls_ ka σ a e n f) (he : ∀ i, i < n → f i = f2 i) : ls_ ka σ a e n f2 := by
  obtain ⟨h1, h2, h3, h4, h5, h6⟩ := h
  exact ⟨h1, h2, h3, h4, h5, fun i hi => by rw [← he i hi]; exact h6 i hi⟩
theorem ob_w8a {A : AS} {G : GH} {N : Nat → Nat} {r i : Nat} {m : CE} (W W2 : Nat → Int32) (n n2 : Nat) (e1 : Nat) (hd : ¬ r ∈ ([8, 58] : List Nat)) (h : ob_ ka TX (wB_ A W) G (wM_ N n) r i m) : ob_ ka TX (wB_ A W2) (gy_ G 58 e1) (wM_ N n2) r i m := by
  match r, hd, h with
  | 0, hd, h => exact h
  | 1, hd, h => exact h
  | 2, hd, h => exact h
  | 3, hd, h => exact h
  | 4, hd, h => exact h
  | 5, hd, h => exact h
  | 6, hd, h => exact h
  | 7, hd, h => exact h
  | 8, hd, h => exact absurd (by decide) hd
  | 9, hd, h => exact h
  | 10, hd, h => exact h
  | 11, hd, h => exact h
  | 12, hd, h => exact h
  | 13, hd, h => exact h
  | 14, hd, h => exact h
  | 15, hd, h => exact h
  | 16, hd, h => exact h
  | 17, hd, h => exact h
  | 18, hd, h => exact h
  | 19, hd, h => exact h
  | 20, hd, h => exact h
  | 21, hd, h => exact h
  | 22, hd, h => exact h
  | 23, hd, h => exact h
  | 24, hd, h => exact h
  | 25, hd, h => exact h
  | 26, hd, h => exact h
  | 27, hd, h => exact h
  | 28, hd, h => exact h
  | 29, hd, h => exact h
  | 30, hd, h => exact h
  | 31, hd, h => exact h
  | 32, hd, h => exact h
  | 33, hd, h => exact h
  | 34, hd, h => exact h
  | 35, hd, h => exact h
  | 36, hd, h => exact h
  | 37, hd, h => exact h
  | 38, hd, h => exact h
  | 39, hd, h => exact h
  | 40, hd, h => exact h
  | 41, hd, h => exact h
  | 42, hd, h => exact h
  | 43, hd, h => exact h
  | 44, hd, h => exact h
  | 45, hd, h => exact h
  | 46, hd, h => exact h
  | 47, hd, h => exact h
  | 48, hd, h => exact h
  | 49, hd, h => exact h
  | 50, hd, h => exact h
  | 51, hd, h => exact h
  | 52, hd, h => exact h
  | 53, hd, h => exact h
  | 54, hd, h => exact h
  | 55, hd, h => exact h
  | 56, hd, h => exact h
  | 57, hd, h => exact h
  | 58, hd, h => exact absurd (by decide) hd
  | r + 59, hd, h => exact h
theorem ob_w8b {A : AS} {G : GH} {N : Nat → Nat} {r i : Nat} {m : CE} (W W2 : Nat → Int32) (n n2 : Nat) (hd : ¬ r ∈ ([8, 58] : List Nat)) (h : ob_ ka TX (wB_ A W) G (wM_ N n) r i m) : ob_ ka TX (wB_ A W2) G (wM_ N n2) r i m := by
  match r, hd, h with
  | 0, hd, h => exact h
  | 1, hd, h => exact h
  | 2, hd, h => exact h
  | 3, hd, h => exact h
  | 4, hd, h => exact h
  | 5, hd, h => exact h
  | 6, hd, h => exact h
  | 7, hd, h => exact h
  | 8, hd, h => exact absurd (by decide) hd
  | 9, hd, h => exact h
  | 10, hd, h => exact h
  | 11, hd, h => exact h
  | 12, hd, h => exact h
  | 13, hd, h => exact h
  | 14, hd, h => exact h
  | 15, hd, h => exact h
  | 16, hd, h => exact h
  | 17, hd, h => exact h
  | 18, hd, h => exact h
  | 19, hd, h => exact h
  | 20, hd, h => exact h
  | 21, hd, h => exact h
  | 22, hd, h => exact h
  | 23, hd, h => exact h
  | 24, hd, h => exact h
  | 25, hd, h => exact h
  | 26, hd, h => exact h
  | 27, hd, h => exact h
  | 28, hd, h => exact h
  | 29, hd, h => exact h
  | 30, hd, h => exact h
  | 31, hd, h => exact h
  | 32, hd, h => exact h
  | 33, hd, h => exact h
  | 34, hd, h => exact h
  | 35, hd, h => exact h
  | 36, hd, h => exact h
  | 37, hd, h => exact h
  | 38, hd, h => exact h
  | 39, hd, h => exact h
  | 40, hd, h => exact h
  | 41, hd, h => exact h
  | 42, hd, h => exact h
  | 43, hd, h => exact h
  | 44, hd, h => exact h
  | 45, hd, h => exact h
  | 46, hd, h => exact h
  | 47, hd, h => exact h
  | 48, hd, h => exact h
  | 49, hd, h => exact h
  | 50, hd, h => exact h
  | 51, hd, h => exact h
  | 52, hd, h => exact h
  | 53, hd, h => exact h
  | 54, hd, h => exact h
  | 55, hd, h => exact h
  | 56, hd, h => exact h
  | 57, hd, h => exact h
  | 58, hd, h => exact absurd (by decide) hd
  | r + 59, hd, h => exact h

theorem cg_w8 {n n2 e1 : Nat} (h : cg_ G (wM_ N n)) : cg_ (gy_ G 58 e1) (wM_ N n2) := by
  obtain ⟨h0, h30, h31, h32, h33, h34, h35, h36, h37, h38, h39, h40, h41, h42, h43, h44, h45, h46, h47, h48⟩ := h
  refine ⟨fun r hr => ?_, h30, h31, h32, h33, h34, h35, h36, h37, h38, h39, h40, h41, h42, h43, h44, h45, h46, h47, h48⟩
  have h9 : ∀ r, r ∈ ([0, 1, 2, 3, 4, 5, 6, 7, 8, 9, 10, 11, 12, 13, 14, 15, 16, 17, 18, 19, 20, 21, 22] : List Nat) → r ≠ 58 := by decide
  have := h9 r hr
  show (if r = 58 then 1 else gc_ G r) = 1
  rw [if_neg this]
  exact h0 r hr
theorem cg_w8b {n n2 : Nat} (h : cg_ G (wM_ N n)) : cg_ G (wM_ N n2) := h
theorem rc_l8x {l : List Nat} (h : rc_ ka TX σ x G (wB_ A (ln8_ l)) (wM_ N l.length)) (hl : l.length ≤ 30) (hm : ∀ p, p ∈ l → p < N 5) (hN : N 5 ≤ 30) : ls_ ka σ (ga_ G 8 0) (if gc_ G 58 = 0 then ka 200 else ga_ G 58 0) l.length (fun j => ga_ G 31 (l.getD j 0)) := by
  obtain ⟨q1, q2, q3⟩ := h.2.2.2 8 0 (rc_1 h (by decide))
  refine ⟨(h.1.2 8 0 (rc_1 h (by decide))).1, q1, q2, by omega, ?_, fun j hj => ?_⟩
  · by_cases z : gc_ G 58 = 0
    · rw [if_pos z]
      exact Or.inr ⟨rfl, h.2.1.2.1, q3 z⟩
    · rw [if_neg z]
      obtain ⟨p1, p2, p3, -⟩ := h.2.2.2 58 0 (Nat.pos_of_ne_zero z)
      exact Or.inl ⟨(h.1.2 58 0 (Nat.pos_of_ne_zero z)).1, p1, p2, p3⟩
  · have hmem : l.getD j 0 ∈ l := by
      rw [List.getD_eq_getElem?_getD, List.getElem?_eq_getElem hj]
      exact List.getElem_mem hj
    have hp := hm _ hmem
    by_cases z : gc_ G 58 = 0
    · have q3 : l.length = 0 := q3 z
      omega
    · rw [if_neg z]
      obtain ⟨-, -, -, p4⟩ := h.2.2.2 58 0 (Nat.pos_of_ne_zero z)
      have hb5 : l.getD j 0 < gc_ G 31 := by rw [rc_31 h]; exact hp
      have hk : kd_ σ (ga_ G 31 (l.getD j 0)) = 4 := (h.1.2 31 _ hb5).1
      dsimp only
      rw [hk]
      refine ⟨?_, by decide, by decide⟩
      have := p4 j hj
      have e : (aV (wB_ A (ln8_ l)) 84 j).toNatClampNeg = l.getD j 0 := nI_clamp (show l.getD j 0 < 2 ^ 31 by omega)
      rw [e] at this
      exact this
/-- the list is another one -/
theorem rc_w8 {τ : TH} {W : Nat → Int32} {n e1 : Nat} {l2 : List Nat} (h : rc_ ka TX σ x G (wB_ A W) (wM_ N n)) (hm : ∀ p, p ∈ l2 → p < N 5) (hN : N 5 ≤ 30) (hf : fq_ (fun q => q = ga_ G 8 0 ∨ q = (if gc_ G 58 = 0 then ka 200 else ga_ G 58 0)) σ τ) (hk : ls_ ka τ (ga_ G 8 0) e1 l2.length (fun j => ga_ G 31 (l2.getD j 0))) (he : e1 = (if gc_ G 58 = 0 then ka 200 else ga_ G 58 0) ∨ nx_ σ ≤ e1) : ∃ G1, rc_ ka TX τ x G1 (wB_ A (ln8_ l2)) (wM_ N l2.length) ∧ sg8_ G G1 := by
  obtain ⟨h1, h2, h3, h4, h5, h6⟩ := hk
  have hx0 : ∀ r i, i < gc_ G r → r ≠ 0 → ga_ G r i ≠ x := fun r i hi hr => rc_nx h hi hr
  have hT : ∀ q, (q = ga_ G 8 0 ∨ q = (if gc_ G 58 = 0 then ka 200 else ga_ G 58 0)) → (∃ r i, r ∈ ([8, 58] : List Nat) ∧ i < gc_ G r ∧ q = ga_ G r i) ∨ q = ka 200 := fun q hq => by
    rcases hq with hq | hq
    · exact Or.inl ⟨8, 0, by decide, rc_1 h (by decide), hq⟩
    · by_cases z : gc_ G 58 = 0
      · rw [if_pos z] at hq; exact Or.inr hq
      · rw [if_neg z] at hq
        exact Or.inl ⟨58, 0, by decide, Nat.pos_of_ne_zero z, hq⟩
  have k0 : kd_ τ (ka 200) = 0 := fq_k0 hf h.1.1 h.2.1.2.2 h.2.1.2.1
  have cl : ∀ j, j < l2.length → (aV (wB_ A (ln8_ l2)) 84 j).toNatClampNeg = l2.getD j 0 := fun j hj => by
    have hmem : l2.getD j 0 ∈ l2 := by
      rw [List.getD_eq_getElem?_getD, List.getElem?_eq_getElem hj]
      exact List.getElem_mem hj
    have hp := hm _ hmem
    exact nI_clamp (show l2.getD j 0 < 2 ^ 31 by omega)
  rcases h5 with ⟨k1, k2, k3, k4⟩ | ⟨k1, k2, k3⟩
  · refine ⟨gy_ G 58 e1, rc_gen2 h hf (sh_gy (sh_fq h.1 hf) ?_ k1 (by decide) rfl) (cg_w8 h.2.2.1) [8, 58] (fun r hr => ?_) h.2.1.1 hT (fun r i m hr h9 => ob_w8a W _ n _ e1 hr h9) (fun r i hr hi => ?_), fun r hr => ⟨if_neg hr, fun i => if_neg (fun z => hr z.1)⟩⟩
    · rcases he with he | he
      · by_cases z : gc_ G 58 = 0
        · rw [if_pos z] at he
          rw [he, k0] at k1
          cases k1
        · rw [if_neg z] at he
          exact Or.inr ⟨Nat.pos_of_ne_zero z, he⟩
      · exact Or.inl (fh_of h.1 he)
    · have q : r ≠ 58 := fun z => hr (by rw [z]; decide)
      exact ⟨if_neg q, fun i => if_neg (fun z => q z.1)⟩
    · simp only [List.mem_cons, List.not_mem_nil, or_false] at hr
      rcases hr with rfl | rfl
      · have : i = 0 := by
          have : i < gc_ G 8 := hi
          exact g0_ h (by decide) this
        subst this
        refine ⟨h2, ?_, fun z => ?_⟩
        · show fr_ τ 1 (ga_ G 8 0) = some (if (1 : Nat) = 0 then ka 200 else e1)
          rw [if_neg (by decide)]
          exact h3
        · have z : (1 : Nat) = 0 := z
          cases z
      · have : i = 0 := by
          have : i < 1 := hi
          omega
        subst this
        refine ⟨k2, k3, k4, fun j hj => ?_⟩
        rw [cl j hj]
        exact (h6 j hj).1
  · have g58 : gc_ G 58 = 0 := by
      refine Classical.byContradiction (fun z => ?_)
      rcases he with he | he
      · rw [if_neg z] at he
        have q := sh_fq h.1 hf
        have := q.2 58 0 (Nat.pos_of_ne_zero z)
        rw [← he, k2] at this
        exact this.2.1 this.1.symm
      · have := h.2.1.2.2
        omega
    refine ⟨G, rc_gen2 h hf (sh_fq h.1 hf) (cg_w8b h.2.2.1) [8, 58] (fun r hr => ⟨rfl, fun _ => rfl⟩) h.2.1.1 hT (fun r i m hr h9 => ob_w8b W _ n _ hr h9) (fun r i hr hi => ?_), fun r hr => ⟨rfl, fun _ => rfl⟩⟩
    simp only [List.mem_cons, List.not_mem_nil, or_false] at hr
    rcases hr with rfl | rfl
    · rw [g0_ h (by decide) hi]
      refine ⟨h2, ?_, fun _ => k3⟩
      show fr_ τ 1 (ga_ G 8 0) = some (if gc_ G 58 = 0 then ka 200 else ga_ G 58 0)
      rw [if_pos g58, ← k1]
      exact h3
    · rw [g58] at hi
      exact absurd hi (Nat.not_lt_zero i)
end KGA
section MGA
variable {σ : TH} {y : Nat} {G : GH} {A : AS} {N : Nat → Nat}
theorem m_bitsS (σ : TH) (A : AS) (N : Nat → Nat) (p : Nat) : f_X15_bits σ (bo_ (sl9_ A p (nI (td_ N))) 10) = some (nI (wkS_ A N p), σ) := by
  rw [m_bits, (wkS_e A N p).1]
theorem m_gainOf (h : mr_ σ y G A N) (hH : pvH A N) {p : Nat} (hp : p < N 5) (hN : N 5 ≤ 30) (h15 : aV A 15 p = bi_ (0 ≤ aV A 12 p)) : f_X15_gainOf σ y (nI p) = some (nI (wkG_ A N p), σ) := by
  have hy := mo_y h.1
  obtain ⟨a16, b16, c16⟩ := mo_a h.1 (j := 16) (cj := 1616) (K := 22) (n := 30) (by decide)
  obtain ⟨a10, b10, c10⟩ := mo_a h.1 (j := 10) (cj := 1610) (K := 20) (n := 30) (by decide)
  have v16 := mr_V h (j := 16) (by decide) p
  have v10 := mr_V h (j := 10) (by decide) p
  have ix := ix9_ (k := p) (M := 30) (by omega) (by omega)
  have cl : (nI p).toNatClampNeg = p := nI_clamp (by omega)
  have b70 : ∀ t0 t1 : Nat, t1 = chc_ (ag_ A N p) → t0 = wkP_ A p → f_X15_gainOf_b70 σ y (nI p) (nI t0) (nI t1) = some (nI (wkG_ A N p), σ) := fun t0 t1 e1 e0 => by
    unfold f_X15_gainOf_b70
    rw [gt_t hy, lt_e, a10, nn_s, gt_t b10, cl, c10, gt_t ix, lt_e, v10, m_today2 h, bd_s, m_staleOf h (by omega), bd_s, m_bitsS, bd_s, (wkW_e hH hp).1, pk_mul, pk_mul, pk_mul, e1, e0]
    rfl
  have b54 : ∀ t1 : Nat, t1 = chc_ (ag_ A N p) → f_X15_gainOf_b54 σ y (nI p) (nI t1) = some (nI (wkG_ A N p), σ) := fun t1 e1 => by
    unfold f_X15_gainOf_b54
    rw [gt_t hy, lt_e, a16, nn_s, gt_t b16, cl, c16, gt_t ix, lt_e, v16]
    by_cases z : aV A 16 p = 0
    · rw [if_pos z]
      exact b70 1 t1 e1 (by unfold wkP_; rw [if_pos z])
    · rw [if_neg z]
      exact b70 5 t1 e1 (by unfold wkP_; rw [if_neg z])
  unfold f_X15_gainOf
  rw [gt_t hy, m_today2 h, bd_s, m_ageOn h hH hp h15, bd_s]
  by_cases z1 : (40 : Int32) ≤ ag_ A N p
  · rw [if_pos z1]
    by_cases z2 : (60 : Int32) ≤ ag_ A N p
    · rw [if_pos z2]
      by_cases z3 : (75 : Int32) ≤ ag_ A N p
      · rw [if_pos z3]
        by_cases z4 : (85 : Int32) ≤ ag_ A N p
        · rw [if_pos z4]
          exact b54 80 (by unfold chc_; rw [if_pos z1, if_pos z2, if_pos z3, if_pos z4])
        · rw [if_neg z4]
          exact b54 30 (by unfold chc_; rw [if_pos z1, if_pos z2, if_pos z3, if_neg z4])
      · rw [if_neg z3]
        exact b54 10 (by unfold chc_; rw [if_pos z1, if_pos z2, if_neg z3])
    · rw [if_neg z2]
      exact b54 3 (by unfold chc_; rw [if_pos z1, if_neg z2])
  · rw [if_neg z1]
    exact b54 1 (by unfold chc_; rw [if_neg z1])
theorem m_hoursOf (h : mr_ σ y G A N) {p : Nat} (hp : p < 30) : f_X15_hoursOf σ y (nI p) = some (nI (wkH_ A N p), σ) := by
  obtain ⟨-, e2, -⟩ := wkS_e A N p
  unfold f_X15_hoursOf wkH_
  rw [gt_t (mo_y h.1), m_today2 h, bd_s, m_staleOf h hp, bd_s, m_bitsS, bd_s, gt_t (by decide), show nI (wkS_ A N p) + 2 = nI (wkS_ A N p + 2) from nI_add _ 2, show (3 : Int32) = nI 3 from rfl, pk_div (by omega) (by decide) (by decide)]
  exact congrArg (fun v => some (v, σ)) (nI_add 1 ((wkS_ A N p + 2) / 3))
end MGA
