/-! CALLS: an edition's picture and quotes. Written by wip/b/mk99zz.py. -/
def edf_ (A : AS) (N : Nat → Nat) (i : Nat) : Bool := !decide (nI (td_ N) < aV A 74 i) && (!decide (aV A 75 i < nI (td_ N)) && !decide (aV A 76 i ≤ aV A 77 i))
def edF_ (A : AS) (N : Nat → Nat) (p i : Nat) : Bool := decide (aV A 72 i = nI p) && edf_ A N i
/-- the best picture of the first i -/
def edB_ (A : AS) (N : Nat → Nat) (p : Nat) : Nat → Option Nat
  | 0 => none
  | i + 1 => match edB_ A N p i with
    | none => if edF_ A N p i = true then some i else none
    | some j => if edF_ A N p i = true ∧ ¬ aV A 73 i ≤ aV A 73 j then some i else some j
def edI_ : Option Nat → Int32
  | none => -2
  | some t => nI t
theorem edB_lt {A : AS} {N : Nat → Nat} {p : Nat} : ∀ {n j : Nat}, edB_ A N p n = some j → j < n
  | 0, _, h => nomatch h
  | n + 1, j, h => by
    unfold edB_ at h
    cases e : edB_ A N p n with
    | none =>
      rw [e] at h
      by_cases z : edF_ A N p n = true
      · simp only [z, if_true] at h
        cases h
        exact Nat.lt_succ_self n
      · simp only [z] at h
        cases h
    | some i =>
      rw [e] at h
      by_cases z : edF_ A N p n = true ∧ ¬ aV A 73 n ≤ aV A 73 i
      · simp only [if_pos z] at h
        cases h
        exact Nat.lt_succ_self n
      · simp only [if_neg z] at h
        cases h
        exact Nat.lt_succ_of_lt (edB_lt e)
def edP_ (A : AS) (N : Nat → Nat) (p L : Nat) : Option Nat := if L < 200 then none else edB_ A N p (N 69)
def edA_ (A : AS) : Option Nat → AS
  | none => A
  | some j => (A.1, up2_ (aV A) 77 j (aV A 77 j + 1), A.2.2)
def eb0_ : Option Nat → Nat
  | none => 0
  | some _ => 200
/-- the quotes: room left, how many -/
def edQ_ (A : AS) (p : Nat) : Nat → Nat → Nat → Nat × Nat
  | 0, _, r => (r, 0)
  | m + 1, i, r => if aV A 78 i = nI p ∧ ¬ aV A 81 i = 0 then (if (aV A 80 i).toNatClampNeg ≤ r then ((edQ_ A p m (i + 1) (r - (aV A 80 i).toNatClampNeg)).1, (edQ_ A p m (i + 1) (r - (aV A 80 i).toNatClampNeg)).2 + 1) else (r, 0)) else edQ_ A p m (i + 1) r
theorem edQ_le {A : AS} {p : Nat} : ∀ (m i r : Nat), (edQ_ A p m i r).1 ≤ r ∧ (edQ_ A p m i r).2 ≤ m
  | 0, _, r => ⟨Nat.le_refl _, Nat.le_refl _⟩
  | m + 1, i, r => by
    unfold edQ_
    have h1 := edQ_le (A := A) (p := p) m (i + 1) (r - (aV A 80 i).toNatClampNeg)
    have h2 := edQ_le (A := A) (p := p) m (i + 1) r
    by_cases z : aV A 78 i = nI p ∧ ¬ aV A 81 i = 0
    · rw [if_pos z]
      by_cases w : (aV A 80 i).toNatClampNeg ≤ r
      · rw [if_pos w]
        exact ⟨by show (edQ_ A p m (i + 1) (r - (aV A 80 i).toNatClampNeg)).1 ≤ r; omega, by show (edQ_ A p m (i + 1) (r - (aV A 80 i).toNatClampNeg)).2 + 1 ≤ m + 1; omega⟩
      · rw [if_neg w]
        exact ⟨Nat.le_refl _, Nat.zero_le _⟩
    · rw [if_neg z]
      exact ⟨h2.1, by omega⟩
/-- a quote given: its length -/
theorem edq_l {A : AS} {N : Nat → Nat} (h : pvQ A N) {i : Nat} (hi : i < N 70) (hz : ¬ aV A 81 i = 0) : ∃ l, 1 ≤ l ∧ l ≤ 400 ∧ aV A 80 i = nI l ∧ (aV A 80 i).toNatClampNeg = l := by
  rcases h i hi with ⟨-, q⟩ | ⟨q1, q2⟩
  · exact absurd q hz
  · rcases rg_ (aV A 80 i) (n := 401) (by decide) with ⟨l, hl, e⟩ | q | q
    · refine ⟨l, ?_, by omega, e, by rw [e]; exact nI_clamp (by omega)⟩
      rcases Nat.eq_zero_or_pos l with z | z
      · rw [e, z] at q1
        exact absurd q1 (by decide)
      · exact z
    · exact absurd (Int32.le_trans (show (0 : Int32) ≤ 1 by decide) q1) (Int32.not_le.mpr q)
    · exact absurd (Int32.le_trans q q2) (by decide)
section KPQ
variable {ka : Nat → Nat} {TX : Nat → Nat → (Nat → Int32) → Nat → (Nat → Int32) → Prop} {x : Nat} {σ : TH} {G : GH} {A : AS} {N : Nat → Nat}
theorem ob_p77 {A : AS} {G : GH} {N : Nat → Nat} {r i : Nat} {m : CE} (i0 : Nat) (v0 : Int32) (hd : ¬ r ∈ ([44] : List Nat)) (h : ob_ ka TX A G N r i m) : ob_ ka TX (A.1, up2_ (aV A) 77 i0 v0, A.2.2) G N r i m := by
  match r, hd, h with
  | 0, hd, h => exact h
  | 1, hd, h => exact h
  | 2, hd, h => exact h
  | 3, hd, h => exact h
  | 4, hd, h => exact h
  | 5, hd, h => exact h
  | 6, hd, h => exact h
  | 7, hd, h => exact h
  | 8, hd, h => exact h
  | 9, hd, h => exact h
  | 10, hd, h => exact h
  | 11, hd, h => exact h
  | 12, hd, h => exact h
  | 13, hd, h => exact h
  | 14, hd, h => exact h
  | 15, hd, h => exact h
  | 16, hd, h => exact h
  | 17, hd, h => exact h
  | 18, hd, h => exact h
  | 19, hd, h => exact h
  | 20, hd, h => exact h
  | 21, hd, h => exact h
  | 22, hd, h => exact h
  | 23, hd, h => exact h
  | 24, hd, h => exact h
  | 25, hd, h => exact h
  | 26, hd, h => exact h
  | 27, hd, h => exact h
  | 28, hd, h => exact h
  | 29, hd, h => exact h
  | 30, hd, h => exact h
  | 31, hd, h => exact h
  | 32, hd, h => exact h
  | 33, hd, h => exact h
  | 34, hd, h => exact h
  | 35, hd, h => exact h
  | 36, hd, h => exact h
  | 37, hd, h => exact h
  | 38, hd, h => exact h
  | 39, hd, h => exact h
  | 40, hd, h => exact h
  | 41, hd, h => exact h
  | 42, hd, h => exact h
  | 43, hd, h => exact h
  | 44, hd, h => exact absurd (by decide) hd
  | 45, hd, h => exact h
  | 46, hd, h => exact h
  | 47, hd, h => exact h
  | 48, hd, h => exact h
  | 49, hd, h => exact h
  | 50, hd, h => exact h
  | 51, hd, h => exact h
  | 52, hd, h => exact h
  | 53, hd, h => exact h
  | 54, hd, h => exact h
  | 55, hd, h => exact h
  | 56, hd, h => exact h
  | 57, hd, h => exact h
  | 58, hd, h => exact h
  | r + 59, hd, h => exact h

theorem rc_44 (h : rc_ ka TX σ x G A N) : gc_ G 44 = N 69 := by
  have := h.2.2.1
  unfold cg_ at this
  simp only [this]
theorem rc_p77 (h : rc_ ka TX σ x G A N) {k : Nat} (hk : k < gc_ G 44) (v : Int32) : rc_ ka TX (si_ σ 405 (ga_ G 44 k) v) x G (A.1, up2_ (aV A) 77 k v, A.2.2) N := by
  refine rc_gen h (fq_si (T := fun q => q = ga_ G 44 k) h.1.1 rfl) (fun r i => r = 44) (fun r i hi hd hT => sh_ne h.1 hi hk (Or.inl hd) hT) (fun r i mm hi hd h9 => ob_p77 k v (fun q => hd (by revert q; simp only [List.mem_cons, List.not_mem_nil, or_false]; exact fun q => q)) h9) (fun r i hi hd => ?_)
  subst hd
  by_cases z : i = k
  · subst z
    obtain ⟨q0, q1, q2, q3, q4, q5⟩ := h.2.2.2 44 i hi
    refine ⟨q0, q1, q2, q3, q4, ?_⟩
    show up2_ (fi_ σ) 405 (ga_ G 44 i) v 405 (ga_ G 44 i) = up2_ (aV A) 77 i v 77 i
    rw [up2_s, up2_s]
  · rw [ce_si (sh_ne h.1 hi hk (Or.inr z))]
    obtain ⟨q0, q1, q2, q3, q4, q5⟩ := h.2.2.2 44 i hi
    exact ⟨q0, q1, q2, q3, q4, q5.trans (up2_n z).symm⟩
theorem k_pict (h : rc_ ka TX σ x G A N) {i : Nat} (hi : i < N 69) : kd_ σ (ga_ G 44 i) = 5 ∧ fi_ σ 400 (ga_ G 44 i) = aV A 72 i ∧ fi_ σ 401 (ga_ G 44 i) = aV A 73 i ∧ fi_ σ 402 (ga_ G 44 i) = aV A 74 i ∧ fi_ σ 403 (ga_ G 44 i) = aV A 75 i ∧ fi_ σ 404 (ga_ G 44 i) = aV A 76 i ∧ fi_ σ 405 (ga_ G 44 i) = aV A 77 i := by
  have hg : i < gc_ G 44 := by rw [rc_44 h]; exact hi
  exact ⟨(h.1.2 44 i hg).1, h.2.2.2 44 i hg⟩
theorem k_isFreeP (h : rc_ ka TX σ x G A N) {i : Nat} (hi : i < N 69) : f_X3_isFree σ (ga_ G 44 i) (nI (td_ N)) = some (bi_ (edf_ A N i = true), σ) := by
  obtain ⟨q, -, -, q2, q3, q4, q5⟩ := k_pict h hi
  unfold f_X3_isFree f_X3_isFree_b31 f_X3_isFree_b32 edf_
  rw [gt_t q, lt_e, q2]
  by_cases z1 : nI (td_ N) < aV A 74 i
  · rw [if_pos z1, gt_t (Or.inl rfl), bi_f (by simp [z1])]
  · rw [if_neg z1, lt_e, q3]
    by_cases z2 : aV A 75 i < nI (td_ N)
    · rw [if_pos z2, gt_t (Or.inl rfl), bi_f (by simp [z2])]
    · rw [if_neg z2, lt_e, q5, lt_e, q4]
      by_cases z3 : aV A 76 i ≤ aV A 77 i
      · rw [if_pos z3, gt_t (Or.inl rfl), bi_f (by simp [z3])]
      · rw [if_neg z3, gt_t (Or.inr rfl), bi_t (by simp [z1, z2, z3])]
/-- an edition under way -/
def edc_ (σ : TH) (G : GH) (N : Nat → Nat) (p E : Nat) : Prop := kd_ σ E = 3 ∧ fh_ G E ∧ fi_ σ 200 E = nI p ∧ fi_ σ 201 E = nI (td_ N)
def edi_ (ka : Nat → Nat) (TX : Nat → Nat → (Nat → Int32) → Nat → (Nat → Int32) → Prop) (x : Nat) (G : GH) (A : AS) (N : Nat → Nat) (σ : TH) (E : Nat) (τ : TH) : Prop := rc_ ka TX τ x G A N ∧ fq_ (fun q => q = E) σ τ ∧ (nx_ τ = nx_ σ ∧ sl_ τ = sl_ σ) ∧ (∀ c, fr_ τ c E = fr_ σ c E)
theorem k_layPicture (h : rc_ ka TX σ x G A N) (hN : N 69 ≤ 40) {E p L : Nat} (hE : edc_ σ G N p E) (hL : L ≤ 4000) (h4 : fi_ σ 204 E = -2) (h2 : fi_ σ 202 E = 0) : ∃ τ, f_X11_layPicture σ x (some E) (nI L) = some ((), τ) ∧ rc_ ka TX τ x G (edA_ A (edP_ A N p L)) N ∧ fq_ (fun q => q = E ∨ ∃ j, j < N 69 ∧ q = ga_ G 44 j) σ τ ∧ (nx_ τ = nx_ σ ∧ sl_ τ = sl_ σ) ∧ (∀ c, fr_ τ c E = fr_ σ c E) ∧ ∀ c, fi_ τ c E = if c = 204 then edI_ (edP_ A N p L) else if c = 202 then nI (eb0_ (edP_ A N p L)) else fi_ σ c E := by
  obtain ⟨kE, fE, e0, e1⟩ := hE
  have hx := rc_x h
  have r4 := rc_r1204 h
  have b105 : ∀ (o : Option Nat) (τ : TH), (∀ j, o = some j → j < N 69) → rc_ ka TX τ x G A N ∧ fq_ (fun q => q = E) σ τ ∧ (nx_ τ = nx_ σ ∧ sl_ τ = sl_ σ) ∧ (∀ c, fr_ τ c E = fr_ σ c E) → (∀ c, fi_ τ c E = if c = 204 then edI_ o else fi_ σ c E) → ∃ τ2, f_X11_layPicture_b105 τ (some E) (o.map (ga_ G 44)) = some ((), τ2) ∧ rc_ ka TX τ2 x G (edA_ A o) N ∧ fq_ (fun q => q = E ∨ ∃ j, j < N 69 ∧ q = ga_ G 44 j) σ τ2 ∧ (nx_ τ2 = nx_ σ ∧ sl_ τ2 = sl_ σ) ∧ (∀ c, fr_ τ2 c E = fr_ σ c E) ∧ ∀ c, fi_ τ2 c E = if c = 204 then edI_ o else if c = 202 then nI (eb0_ o) else fi_ σ c E := fun o τ ho hi hc => by
    obtain ⟨hr, hf, hn, hfr⟩ := hi
    cases o with
    | none =>
      refine ⟨τ, rfl, hr, fq_w hf (fun _ q => Or.inl q), hn, hfr, fun c => ?_⟩
      rw [hc c]
      by_cases z : c = 204
      · rw [if_pos z, if_pos z]
      · rw [if_neg z, if_neg z]
        by_cases z2 : c = 202
        · rw [if_pos z2, z2, h2]
          rfl
        · rw [if_neg z2]
    | some j =>
      have hj := ho j rfl
      have hg : j < gc_ G 44 := by rw [rc_44 h]; exact hj
      obtain ⟨q, -, -, -, -, -, q5⟩ := k_pict hr hj
      have nE : E ≠ ga_ G 44 j := fun z => fE 44 j hg z.symm
      have kE1 : kd_ τ E = 3 := fq_kd hf kE (by decide)
      have r1 := rc_p77 hr hg (aV A 77 j + 1)
      have r2 := rc_fh r1 (fq_si (T := fun q => q = E) (c := 202) (v := 200) r1.1.1 rfl) (fun q z => by rw [z]; exact fE)
      refine ⟨si_ (si_ τ 405 (ga_ G 44 j) (aV A 77 j + 1)) 202 E 200, ?_, r2, fqi (fqi (fq_w hf (fun _ q => Or.inl q)) (Or.inr ⟨j, hj, rfl⟩)) (Or.inl rfl), hn, hfr, fun c => ?_⟩
      · unfold f_X11_layPicture_b105 f_X11_layPicture_b126
        rw [Option.map_some, oc_s, gt_t q, lt_e, q5, lt_e, nn_s, gt_t (show kd_ (si_ τ 405 (ga_ G 44 j) (aV A 77 j + 1)) E = 3 from kE1), lt_e]
      · rw [fi_si]
        by_cases z2 : c = 202
        · subst z2
          rw [up2_s, if_neg (by decide), if_pos rfl]
          rfl
        · rw [up2_c z2, fi_si, if_neg z2]
          have e : up2_ (fi_ τ) 405 (ga_ G 44 j) (aV A 77 j + 1) c E = fi_ τ c E := up2_ne (fun q => nE q.2)
          rw [e, hc c]
  unfold f_X11_layPicture
  by_cases zL : L < 200
  · have hb := b105 none σ (fun j e => nomatch e) ⟨h, fq_rf h.1.1, ⟨rfl, rfl⟩, fun _ => rfl⟩ (fun c => by
      by_cases z : c = 204
      · rw [if_pos z, z, h4]; rfl
      · rw [if_neg z])
    have eP : edP_ A N p L = none := if_pos zL
    rw [eP]
    obtain ⟨τ2, w1, w2⟩ := hb
    refine ⟨τ2, ?_, w2⟩
    have hl := rc_l5 h (by omega)
    rw [show fu_ = (fu_ - 1) + 1 from rfl, f_X11_layPicture_b5, gt_t hx, lt_e, r4.1, nn_s, gt_t r4.2, l_size hl, bd_s]
    by_cases z : nI (N 69) ≤ 0
    · rw [if_pos z]; exact w1
    · rw [if_neg z, if_pos (show nI L < 200 from nI_c (k := 200) rfl zL (by decide))]; exact w1
  · have eP : edP_ A N p L = edB_ A N p (N 69) := if_neg zL
    rw [eP]
    have g2 : ¬ nI L < 200 := nI_nlt (b := 200) (by omega) (by omega)
    have key : ∃ r, f_X11_layPicture_b5 fu_ σ x (some E) (nI L) none (nI 0) = some r ∧ ∃ τ2, r = ((), τ2) ∧ rc_ ka TX τ2 x G (edA_ A (edB_ A N p (N 69))) N ∧ fq_ (fun q => q = E ∨ ∃ j, j < N 69 ∧ q = ga_ G 44 j) σ τ2 ∧ (nx_ τ2 = nx_ σ ∧ sl_ τ2 = sl_ σ) ∧ (∀ c, fr_ τ2 c E = fr_ σ c E) ∧ ∀ c, fi_ τ2 c E = if c = 204 then edI_ (edB_ A N p (N 69)) else if c = 202 then nI (eb0_ (edB_ A N p (N 69))) else fi_ σ c E := by
      refine lpe_ (α := TH × Option Nat) (F := fun f a k => f_X11_layPicture_b5 f a.1 x (some E) (nI L) a.2 k) (N 69) (fun i a => (rc_ ka TX a.1 x G A N ∧ fq_ (fun q => q = E) σ a.1 ∧ (nx_ a.1 = nx_ σ ∧ sl_ a.1 = sl_ σ) ∧ (∀ c, fr_ a.1 c E = fr_ σ c E)) ∧ (∀ c, fi_ a.1 c E = if c = 204 then edI_ (edB_ A N p i) else fi_ σ c E) ∧ a.2 = (edB_ A N p i).map (ga_ G 44)) (fun r => ∃ τ2, r = ((), τ2) ∧ rc_ ka TX τ2 x G (edA_ A (edB_ A N p (N 69))) N ∧ fq_ (fun q => q = E ∨ ∃ j, j < N 69 ∧ q = ga_ G 44 j) σ τ2 ∧ (nx_ τ2 = nx_ σ ∧ sl_ τ2 = sl_ σ) ∧ (∀ c, fr_ τ2 c E = fr_ σ c E) ∧ ∀ c, fi_ τ2 c E = if c = 204 then edI_ (edB_ A N p (N 69)) else if c = 202 then nI (eb0_ (edB_ A N p (N 69))) else fi_ σ c E) (fun f i a hi hI => ?_) (fun f a hI => ?_) (by omega) (σ, none) ⟨⟨h, fq_rf h.1.1, ⟨rfl, rfl⟩, fun _ => rfl⟩, fun c => ?_, rfl⟩
      · obtain ⟨τ, o⟩ := a
        obtain ⟨⟨hr, hf, hn, hfr⟩, hc, ho⟩ := hI
        dsimp only at hr hf hn hfr hc ho ⊢
        subst ho
        have hxτ := rc_x hr
        have r4 := rc_r1204 hr
        have hl := rc_l5 hr (by omega)
        have kE1 : kd_ τ E = 3 := fq_kd hf kE (by decide)
        obtain ⟨q0, q1, q2, -⟩ := k_pict hr hi
        have c0 : fi_ τ 200 E = nI p := (hc 200).trans e0
        have c1 : fi_ τ 201 E = nI (td_ N) := (hc 201).trans e1
        have b99 : ∀ τ l3, f_X11_layPicture_b99 (f_X11_layPicture_b5 f) τ x (some E) (nI L) l3 (nI i) = f_X11_layPicture_b5 f τ x (some E) (nI L) l3 (nI (i + 1)) := fun τ l3 => by
          unfold f_X11_layPicture_b99
          rw [lt_e, nI_1]
        have b90 : f_X11_layPicture_b90 (f_X11_layPicture_b5 f) τ x (some E) (nI L) (nI i) (some (ga_ G 44 i)) = f_X11_layPicture_b5 f (si_ τ 204 E (nI i)) x (some E) (nI L) (some (ga_ G 44 i)) (nI (i + 1)) := by
          unfold f_X11_layPicture_b90
          rw [nn_s, gt_t kE1, lt_e, b99]
        have iT : rc_ ka TX (si_ τ 204 E (nI i)) x G A N ∧ fq_ (fun q => q = E) σ (si_ τ 204 E (nI i)) ∧ (nx_ (si_ τ 204 E (nI i)) = nx_ σ ∧ sl_ (si_ τ 204 E (nI i)) = sl_ σ) ∧ (∀ c, fr_ (si_ τ 204 E (nI i)) c E = fr_ σ c E) := ⟨rc_fh hr (fq_si (T := fun q => q = E) hr.1.1 rfl) (fun q z => by rw [z]; exact fE), fqi hf rfl, hn, hfr⟩
        have cT : ∀ c, fi_ (si_ τ 204 E (nI i)) c E = if c = 204 then edI_ (some i) else fi_ σ c E := fun c => by
          rw [fi_si]
          by_cases z : c = 204
          · subst z; rw [up2_s, if_pos rfl]; rfl
          · rw [up2_c z, hc c, if_neg z, if_neg z]
        have b66 : edF_ A N p i = false → ∃ a2 : TH × Option Nat, f_X11_layPicture_b66 (f_X11_layPicture_b5 f) τ x (some E) (nI L) ((edB_ A N p i).map (ga_ G 44)) (nI i) (some (ga_ G 44 i)) = f_X11_layPicture_b5 f a2.1 x (some E) (nI L) a2.2 (nI (i + 1)) ∧ (rc_ ka TX a2.1 x G A N ∧ fq_ (fun q => q = E) σ a2.1 ∧ (nx_ a2.1 = nx_ σ ∧ sl_ a2.1 = sl_ σ) ∧ (∀ c, fr_ a2.1 c E = fr_ σ c E)) ∧ (∀ c, fi_ a2.1 c E = if c = 204 then edI_ (edB_ A N p (i + 1)) else fi_ σ c E) ∧ a2.2 = (edB_ A N p (i + 1)).map (ga_ G 44) := fun z => by
          have eB : edB_ A N p (i + 1) = edB_ A N p i := by
            rw [edB_]
            cases e : edB_ A N p i with
            | none => simp [z]
            | some j => simp [z]
          rw [eB]
          refine ⟨(τ, (edB_ A N p i).map (ga_ G 44)), ?_, ⟨hr, hf, hn, hfr⟩, hc, rfl⟩
          unfold f_X11_layPicture_b66 f_X11_layPicture_b67
          rw [if_pos rfl, b99]
        rw [f_X11_layPicture_b5, gt_t hxτ, lt_e, r4.1, nn_s, gt_t r4.2, l_size hl, bd_s, if_neg (nI_ge hi (by omega)), if_neg g2, lt_e, r4.1, nn_s, gt_t r4.2, l_get hl hi, bd_s, gt_t (show Option.elim (some (ga_ G 44 i)) 5 (kd_ τ) = 5 from q0), nn_s, gt_t q0, lt_e, q1, nn_s, gt_t kE1, lt_e, c0]
        by_cases z : aV A 72 i = nI p
        · rw [if_pos z, lt_e, c1, k_isFreeP hr hi, bd_s]
          by_cases w : edf_ A N i = true
          · have wF : edF_ A N p i = true := by unfold edF_; rw [decide_eq_true z, w]; rfl
            rw [bi_t w, if_neg (by decide)]
            unfold f_X11_layPicture_b67
            rw [if_neg (by decide)]
            cases e : edB_ A N p i with
            | none =>
              have eB : edB_ A N p (i + 1) = some i := by rw [edB_, e]; simp [wF]
              rw [Option.map_none, oc_n, b90]
              exact ⟨(si_ τ 204 E (nI i), some (ga_ G 44 i)), rfl, iT, by rw [eB]; exact cT, by rw [eB]; rfl⟩
            | some j =>
              have hj := edB_lt e
              obtain ⟨j0, -, j2, -⟩ := k_pict hr (show j < N 69 by omega)
              rw [Option.map_some, oc_s, nn_s, gt_t q0, lt_e, q2, gt_t j0, lt_e, j2]
              by_cases u : aV A 73 i ≤ aV A 73 j
              · have eB : edB_ A N p (i + 1) = some j := by rw [edB_, e]; simp [u]
                rw [if_pos u, b99]
                rw [e] at hc
                exact ⟨(τ, some (ga_ G 44 j)), rfl, ⟨hr, hf, hn, hfr⟩, by rw [eB]; exact hc, by rw [eB]; rfl⟩
              · have eB : edB_ A N p (i + 1) = some i := by rw [edB_, e]; simp [wF, u]
                rw [if_neg u, b90]
                exact ⟨(si_ τ 204 E (nI i), some (ga_ G 44 i)), rfl, iT, by rw [eB]; exact cT, by rw [eB]; rfl⟩
          · rw [bi_f w, if_pos rfl]
            refine b66 ?_
            unfold edF_
            rw [eq_false_of_ne_true w, Bool.and_false]
        · rw [if_neg z]
          refine b66 ?_
          unfold edF_
          rw [decide_eq_false z, Bool.false_and]
      · obtain ⟨τ, o⟩ := a
        obtain ⟨hi, hc, ho⟩ := hI
        dsimp only at hi hc ho ⊢
        subst ho
        obtain ⟨τ2, w1, w2⟩ := b105 (edB_ A N p (N 69)) τ (fun j e => edB_lt e) hi hc
        refine ⟨((), τ2), ?_, τ2, rfl, w2⟩
        have r4 := rc_r1204 hi.1
        have hl := rc_l5 hi.1 (by omega)
        rw [f_X11_layPicture_b5, gt_t (rc_x hi.1), lt_e, r4.1, nn_s, gt_t r4.2, l_size hl, bd_s, if_pos (Int32.le_refl _)]
        exact w1
      · by_cases z : c = 204
        · rw [if_pos z, z, h4]; rfl
        · rw [if_neg z]
    obtain ⟨_, e, τ2, rfl, w⟩ := key
    exact ⟨τ2, e, w⟩
end KPQ
