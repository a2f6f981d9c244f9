/-! CALLS: an edition's kinds and facts. Written by wip/b/mk99zzb.py. -/
def edK_ (A : AS) (N : Nat → Nat) (p : Nat) (u : Int32) : Nat → Int32
  | 0 => 0
  | i + 1 => if bt u i = true then edK_ A N p u i ||| aP A 1404 (kx9_ A N p i) else edK_ A N p u i
def edV_ (A : AS) (N : Nat → Nat) (p k : Nat) : Int32 := match lt9_ A N p k with
  | none => 0
  | some t => aV A 22 t
def edO_ (A : AS) (N : Nat → Nat) (p : Nat) (K : Int32) (k : Nat) : Bool := bt K k && (lt9_ A N p k).isSome
theorem edO_and {A : AS} {N : Nat → Nat} {p : Nat} (K : Int32) (h : ∀ k, k < 10 → (aV A 19 (10 * p + k) = -1 ↔ lt9_ A N p k = none)) : K &&& bo_ (tk9_ A p) 10 = bo_ (edO_ A N p K) 10 := by
  refine b_ext (fun i hi => ?_)
  rw [b_and]
  by_cases h10 : i < 10
  · rw [bt_bo _ 10 (by decide) i (by omega), bt_bo _ 10 (by decide) i (by omega), decide_eq_true h10, Bool.true_and, Bool.true_and]
    unfold edO_ tk9_
    cases e : lt9_ A N p i with
    | none => rw [decide_eq_true ((h i h10).mpr e)]; rfl
    | some t => rw [decide_eq_false (fun q => by rw [(h i h10).mp q] at e; cases e)]; rfl
  · rw [bo_v _ 10 (Nat.le_refl _), bo_v _ 10 (Nat.le_refl _), bt_nI10 (bv_lt _ 10) (by omega), bt_nI10 (bv_lt _ 10) (by omega), Bool.and_false]
section KFA
variable {ka : Nat → Nat} {TX : Nat → Nat → (Nat → Int32) → Nat → (Nat → Int32) → Prop} {x : Nat} {σ : TH} {G : GH} {A : AS} {N : Nat → Nat}
theorem k_hasP {E k : Nat} {K : Int32} (kE : kd_ σ E = 3) (hK : fi_ σ 206 E = K) (hk : k < 10) : f_X1_hasPrinted σ E (nI k) = some (bi_ (bt K k = true), σ) := by
  have g5 := kd9_ hk
  have s := bit_and K (k := k) (by omega)
  by_cases z : bt K k = true
  · simp [f_X1_hasPrinted, f_X1_hasPrinted_b22, f_X1_hasPrinted_b23, gt_, lt_, nn_, oc_, bd_, k_isKind, bi_, g5, kE, hK, s, z]
  · simp [f_X1_hasPrinted, f_X1_hasPrinted_b22, f_X1_hasPrinted_b23, gt_, lt_, nn_, oc_, bd_, k_isKind, bi_, g5, kE, hK, s, z]
/-- the facts laid so far -/
def edf8_ (ka : Nat → Nat) (TX : Nat → Nat → (Nat → Int32) → Nat → (Nat → Int32) → Prop) (x : Nat) (G : GH) (A : AS) (N : Nat → Nat) (p E : Nat) (K : Int32) (σ : TH) (i : Nat) (τ : TH) : Prop := rc_ ka TX τ x G A N ∧ fq_ (fun q => q = E ∨ q = E + 1 ∨ q = E + 2) σ τ ∧ (nx_ τ = nx_ σ ∧ sl_ τ = sl_ σ) ∧ ((∀ c, fr_ τ c E = fr_ σ c E) ∧ ∀ c, fi_ τ c E = if c = 206 then K else fi_ σ c E) ∧ ∀ k, k < i → bt K k = true → ai_ τ (E + 1) k = edV_ A N p k ∧ ai_ τ (E + 2) k = edV_ A N p k
theorem k_layFacts (h : rc_ ka TX σ x G A N) {E p : Nat} {u : Int32} (hPl : ∀ k, k < N 47 → aP A 1401 k = nI (pl_ A k)) (hst : st_ A N p ≤ 14) (hp : p < N 5) (hN : N 5 ≤ 30) (kE : kd_ σ E = 3) (f0 : fh_ G E) (f1 : fh_ G (E + 1)) (f2 : fh_ G (E + 2)) (hu : fi_ σ 203 E = u) (h8 : fr_ σ 208 E = some (E + 1)) (h9 : fr_ σ 209 E = some (E + 2)) (k1 : kd_ σ (E + 1) = 20 ∧ ln_ σ (E + 1) = 10) (k2 : kd_ σ (E + 2) = 20 ∧ ln_ σ (E + 2) = 10) : ∃ τ, f_X11_layFacts σ (some E) (some (ga_ G 31 p)) = some ((), τ) ∧ edf8_ ka TX x G A N p E (bo_ (edO_ A N p (edK_ A N p u (st_ A N p))) 10) σ 10 τ := by
  obtain ⟨s1, ⟨s2, s3, s4⟩, -, -, s5⟩ := k_story h hp
  obtain ⟨pk, -⟩ := k_per h hp
  obtain ⟨-, r309, K32, L32, hfacts⟩ := k_facts h hp
  obtain ⟨K, hK⟩ : ∃ K, K = edK_ A N p u (st_ A N p) := ⟨_, rfl⟩
  rw [← hK]
  -- the kinds
  have kinds : f_X11_layFacts_b4 fu_ σ (some E) (some (ga_ G 31 p)) (edK_ A N p u 0) (nI 0) = f_X11_layFacts_b56 σ (some E) (some (ga_ G 31 p)) K := by
    refine lp_ (F := fun f (a : Int32) k => f_X11_layFacts_b4 f σ (some E) (some (ga_ G 31 p)) a k) (st_ A N p) (fun i => edK_ A N p u i) (fun f i hi => ?_) (fun f => ?_) (by omega)
    · obtain ⟨kf, j1, j2, j3⟩ := kx9_s hPl hst hi
      obtain ⟨w1, -, -⟩ := s5 _ j1 j2
      rw [j3] at w1
      obtain ⟨t1, -, -, t4, -⟩ := k_text h j1
      have ix := ix9_ (k := i) (M := 14) (by omega) (by omega)
      have cl : (nI i).toNatClampNeg = i := nI_clamp (by omega)
      have g14 : ¬ (14 : Int32) ≤ nI i := nI_ge (b := 14) (by omega) (by decide)
      have b50 : ∀ a, f_X11_layFacts_b50 (f_X11_layFacts_b4 f) σ (some E) (some (ga_ G 31 p)) a (nI i) = f_X11_layFacts_b4 f σ (some E) (some (ga_ G 31 p)) a (nI (i + 1)) := fun a => by
        unfold f_X11_layFacts_b50
        rw [lt_e, nI_1]
      rw [f_X11_layFacts_b4, nn_s, gt_t pk, lt_e, s1, if_neg (nI_ge hi (by omega)), if_neg g14, lt_e, s2, nn_s, gt_t s3, cl, s4, gt_t ix, lt_e, w1, oc_s, nn_s, gt_t kE, lt_e, hu]
      by_cases z : bt u i = true
      · rw [if_neg (fun q => by rw [(bit_and u (by omega)).mp q] at z; cases z), gt_t t1, lt_e, t4, lt_e, b50]
        rw [show edK_ A N p u (i + 1) = edK_ A N p u i ||| aP A 1404 (kx9_ A N p i) from by rw [edK_, if_pos z]]
      · rw [if_pos ((bit_and u (by omega)).mpr (eq_false_of_ne_true z)), b50]
        rw [show edK_ A N p u (i + 1) = edK_ A N p u i from by rw [edK_, if_neg z]]
    · rw [f_X11_layFacts_b4, nn_s, gt_t pk, lt_e, s1, if_pos (Int32.le_refl _), hK]
  have kt := k_kindsTold h hp
  have e56 : f_X11_layFacts σ (some E) (some (ga_ G 31 p)) = f_X11_layFacts_b68 fu_ (si_ σ 206 E (bo_ (edO_ A N p K) 10)) (some E) (some (ga_ G 31 p)) (nI 0) := by
    unfold f_X11_layFacts
    refine kinds.trans ?_
    unfold f_X11_layFacts_b56
    rw [nn_s, gt_t pk, kt, bd_s, nn_s, gt_t kE, lt_e, edO_and K (fun k hk => (hfacts k hk).2)]
    rfl
  have r0 := rc_fh h (fq_si (T := fun q => q = E) (c := 206) (v := bo_ (edO_ A N p K) 10) h.1.1 rfl) (fun q z => by rw [z]; exact f0)
  have key : ∃ r, f_X11_layFacts_b68 fu_ (si_ σ 206 E (bo_ (edO_ A N p K) 10)) (some E) (some (ga_ G 31 p)) (nI 0) = some r ∧ ∃ τ, r = ((), τ) ∧ edf8_ ka TX x G A N p E (bo_ (edO_ A N p K) 10) σ 10 τ := by
    refine lpe_ (F := fun f (a : TH) k => f_X11_layFacts_b68 f a (some E) (some (ga_ G 31 p)) k) 10 (fun i τ => edf8_ ka TX x G A N p E (bo_ (edO_ A N p K) 10) σ i τ) (fun r => ∃ τ, r = ((), τ) ∧ edf8_ ka TX x G A N p E (bo_ (edO_ A N p K) 10) σ 10 τ) (fun f i τ hi hI => ?_) (fun f τ hI => ?_) (by decide) _ ⟨r0, fqi (fq_rf h.1.1) (Or.inl rfl), ⟨rfl, rfl⟩, ⟨fun _ => rfl, fun c => ?_⟩, fun k hk => absurd hk (Nat.not_lt_zero k)⟩
    · obtain ⟨hr, hf, hn, ⟨hfr, hfi⟩, ha⟩ := hI
      have kEτ : kd_ τ E = 3 := fq_kd hf kE (by decide)
      have k1τ : kd_ τ (E + 1) = 20 := fq_kd hf k1.1 (by decide)
      have l1τ : ln_ τ (E + 1) = 10 := (hf.1.2.2.2.2 (E + 1) (by rw [k1.1]; decide)).2.trans k1.2
      have k2τ : kd_ τ (E + 2) = 20 := fq_kd hf k2.1 (by decide)
      have l2τ : ln_ τ (E + 2) = 10 := (hf.1.2.2.2.2 (E + 2) (by rw [k2.1]; decide)).2.trans k2.2
      obtain ⟨pkτ, r309τ, K32τ, L32τ, hfaτ⟩ := k_facts hr hp
      have hfa := (hfaτ i hi).1
      have ix := ix9_ (k := i) (M := 10) (by omega) (by omega)
      have cl : (nI i).toNatClampNeg = i := nI_clamp (by omega)
      have c206 : fi_ τ 206 E = bo_ (edO_ A N p K) 10 := (hfi 206).trans (if_pos rfl)
      have c208 : fr_ τ 208 E = some (E + 1) := (hfr 208).trans h8
      have c209 : fr_ τ 209 E = some (E + 2) := (hfr 209).trans h9
      have b117 : ∀ τ : TH, f_X11_layFacts_b117 (f_X11_layFacts_b68 f) τ (some E) (some (ga_ G 31 p)) (nI i) = f_X11_layFacts_b68 f τ (some E) (some (ga_ G 31 p)) (nI (i + 1)) := fun τ => by
        unfold f_X11_layFacts_b117
        rw [lt_e, nI_1]
      have bb : bt (bo_ (edO_ A N p K) 10) i = edO_ A N p K i := by rw [bt_bo _ 10 (by decide) i (by omega), decide_eq_true hi, Bool.true_and]
      have same : edO_ A N p K i = false → edf8_ ka TX x G A N p E (bo_ (edO_ A N p K) 10) σ (i + 1) τ := fun z => ⟨hr, hf, hn, ⟨hfr, hfi⟩, fun k hk hb => by
        by_cases w : k = i
        · subst w
          rw [bb, z] at hb
          cases hb
        · exact ha k (by omega) hb⟩
      show ∃ a2, f_X11_layFacts_b68 (f + 1) τ (some E) (some (ga_ G 31 p)) (nI i) = f_X11_layFacts_b68 f a2 (some E) (some (ga_ G 31 p)) (nI (i + 1)) ∧ _
      rw [f_X11_layFacts_b68, if_neg (kin_ hi), nn_s, gt_t pkτ, lt_e, r309τ, nn_s, gt_t K32τ, cl, L32τ, gt_t ix, lt_e, hfa]
      cases e : lt9_ A N p i with
      | none =>
        rw [Option.map_none, oc_n, b117]
        exact ⟨τ, rfl, same (by unfold edO_; rw [e]; simp)⟩
      | some t =>
        obtain ⟨-, t1, t2, -⟩ := k_tell hr hp hN hi e
        rw [Option.map_some, oc_s, nn_s, gt_t kEτ, k_hasP kEτ c206 hi, bd_s, bb]
        by_cases z : edO_ A N p K i = true
        · have eV : edV_ A N p i = aV A 22 t := by unfold edV_; rw [e]
          rw [bi_t z, if_neg (by decide), lt_e, c208, gt_t t1, lt_e, t2, nn_s, gt_t k1τ, l1τ, gt_t ix, lt_e, lt_e, show fr_ (sa_ τ (E + 1) i (aV A 22 t)) 209 E = some (E + 2) from c209, lt_e, show fi_ (sa_ τ (E + 1) i (aV A 22 t)) 900 (ga_ G 36 t) = aV A 22 t from t2, nn_s, gt_t (show kd_ (sa_ τ (E + 1) i (aV A 22 t)) (E + 2) = 20 from k2τ), show ln_ (sa_ τ (E + 1) i (aV A 22 t)) (E + 2) = 10 from l2τ, gt_t ix, lt_e, b117]
          have h1 := rc_fh hr (fq_sa (T := fun q => q = E + 1) (i := i) (v := aV A 22 t) hr.1.1 rfl) (fun q z => by rw [z]; exact f1)
          have h2 := rc_fh h1 (fq_sa (T := fun q => q = E + 2) (i := i) (v := aV A 22 t) h1.1.1 rfl) (fun q z => by rw [z]; exact f2)
          refine ⟨sa_ (sa_ τ (E + 1) i (aV A 22 t)) (E + 2) i (aV A 22 t), rfl, h2, fqa (fqa hf (Or.inr (Or.inl rfl))) (Or.inr (Or.inr rfl)), hn, ⟨hfr, hfi⟩, fun k hk hb => ?_⟩
          have a1 : ai_ (sa_ (sa_ τ (E + 1) i (aV A 22 t)) (E + 2) i (aV A 22 t)) (E + 1) k = if k = i then aV A 22 t else ai_ τ (E + 1) k := by
            show up2_ (up2_ (ai_ τ) (E + 1) i (aV A 22 t)) (E + 2) i (aV A 22 t) (E + 1) k = _
            rw [up2_ne (fun q => by omega)]
            by_cases w : k = i
            · rw [if_pos w, w, up2_s]
            · rw [if_neg w, up2_n w]
          have a2 : ai_ (sa_ (sa_ τ (E + 1) i (aV A 22 t)) (E + 2) i (aV A 22 t)) (E + 2) k = if k = i then aV A 22 t else ai_ τ (E + 2) k := by
            show up2_ (up2_ (ai_ τ) (E + 1) i (aV A 22 t)) (E + 2) i (aV A 22 t) (E + 2) k = _
            by_cases w : k = i
            · rw [if_pos w, w, up2_s]
            · rw [if_neg w, up2_n w, up2_ne (fun q => by omega)]
          rw [a1, a2]
          by_cases w : k = i
          · rw [if_pos w, if_pos w, w, eV]
            exact ⟨rfl, rfl⟩
          · rw [if_neg w, if_neg w]
            exact ha k (by omega) hb
        · rw [bi_f z, if_pos rfl, b117]
          exact ⟨τ, rfl, same (eq_false_of_ne_true z)⟩
    · refine ⟨((), τ), ?_, τ, rfl, hI⟩
      rw [f_X11_layFacts_b68, if_pos (by decide)]
    · rw [fi_si]
      by_cases z : c = 206
      · subst z; rw [up2_s, if_pos rfl]
      · rw [up2_c z, if_neg z]
  obtain ⟨_, e, τ, rfl, w⟩ := key
  exact ⟨τ, e56.trans e, w⟩
end KFA
section MFA
variable {σ : TH} {y : Nat} {G : GH} {A : AS} {N : Nat → Nat}
/-- the end of an edition -/
def edZ_ (τ : TH) (y : Nat) (a : Nat) : Option (Int32 × TH) := gt_ (kd_ τ y = 17) <| lt_ (fr_ τ 1682 y) fun r44 => lt_ (fi_ τ 1671 y) fun x45 => nn_ r44 fun a46 => gt_ (kd_ τ a46 = 28) <| nn_ (some a) fun a47 => gt_ (kd_ τ a47 = 14) <| gt_ (¬ (x45 < 0 ∨ ln_ τ a46 ≤ x45.toNatClampNeg)) <| lt_ (sq_ τ a46 x45.toNatClampNeg (some a47)) fun s48 => lt_ (fi_ s48 1671 y) fun x49 => lt_ (si_ s48 1671 y (x49 + (1 : Int32))) fun s50 => lt_ (fi_ s50 1671 y) fun x51 => bd_ (f_X15_done s50 y (x51 - (1 : Int32))) fun x52 s53 => some (x52, s53)
theorem m_kinds (h : mr_ σ y G A N) {p E : Nat} {u : Int32} (hPl : ∀ k, k < N 47 → aP A 1401 k = nI (pl_ A k)) (hst : st_ A N p ≤ 14) (hu : fi_ σ 1653 y = u) : f_X15_edition_b296 fu_ σ y (nI p) (some E) (0 : Int32) (nI 0) = f_X15_edition_b347 fu_ σ y (nI p) (some E) (edK_ A N p u (st_ A N p)) (nI 0) := by
  have hy := mo_y h.1
  refine lp_ (F := fun f (a : Int32) k => f_X15_edition_b296 f σ y (nI p) (some E) a k) (st_ A N p) (fun i => edK_ A N p u i) (fun f i hi => ?_) (fun f => ?_) (by omega)
  · obtain ⟨kf, j1, j2, j3⟩ := kx9_s hPl hst hi
    have at1 := m_at h (p := p) (nI i)
    rw [kf] at at1
    obtain ⟨q1, -, -, q4, -⟩ := mr_P h j1
    rw [f_X15_edition_b296, gt_t hy, m_storySize h p, bd_s, if_neg (nI_ge hi (by omega)), lt_e, hu, bit_shr u (k := i) (by omega)]
    have b335 : ∀ a t, f_X15_edition_b335 (f_X15_edition_b296 f) σ y (nI p) (some E) (nI i) t a = f_X15_edition_b296 f σ y (nI p) (some E) (a ||| t) (nI (i + 1)) := fun a t => by
      unfold f_X15_edition_b335
      rw [lt_e, lt_e, nI_1]
    by_cases z : bt u i = true
    · rw [bi_t z, if_pos rfl, at1, bd_s, Option.map_some, nn_s, gt_t q4, lt_e, q1 1404 (by decide), b335]
      rw [show edK_ A N p u (i + 1) = edK_ A N p u i ||| aP A 1404 (kx9_ A N p i) from by rw [edK_, if_pos z]]
    · rw [bi_f z, if_neg (by decide), b335, Int32.or_zero]
      rw [show edK_ A N p u (i + 1) = edK_ A N p u i from by rw [edK_, if_neg z]]
  · rw [f_X15_edition_b296, gt_t hy, m_storySize h p, bd_s, if_pos (Int32.le_refl _)]
    rfl
/-- the facts laid so far -/
def edg8_ (y : Nat) (G : GH) (A : AS) (N : Nat → Nat) (p E : Nat) (K : Int32) (σ : TH) (i : Nat) (τ : TH) : Prop := mr_ τ y G A N ∧ fq_ (fun q => q = E ∨ q = E + 1) σ τ ∧ (nx_ τ = nx_ σ ∧ sl_ τ = sl_ σ) ∧ ((∀ c, fr_ τ c E = fr_ σ c E) ∧ ∀ c, fi_ τ c E = if c = 1306 then bo_ (edO_ A N p K) i else fi_ σ c E) ∧ ∀ k, k < i → edO_ A N p K k = true → ai_ τ (E + 1) k = edV_ A N p k
theorem m_facts (h : mr_ σ y G A N) {E p : Nat} {K : Int32} (hv : pv_ A N) (hp : p < N 5) (hN : N 5 ≤ 30) (hN6 : N 6 ≤ 5257439) (hd : dR_ A N p = true) (kE : kd_ σ E = 14) (f0 : fh_ G E) (f1 : fh_ G (E + 1)) (h1 : fi_ σ 1301 E = nI (td_ N)) (h6 : fi_ σ 1306 E = 0) (h9 : fr_ σ 1309 E = some (E + 1)) (k1 : kd_ σ (E + 1) = 20 ∧ ln_ σ (E + 1) = 10) : ∃ τ, f_X15_edition_b347 fu_ σ y (nI p) (some E) K (nI 0) = edZ_ τ y E ∧ edg8_ y G A N p E K σ 10 τ := by
  have oR : ∀ k, oR_ A N p k = lt9_ A N p k := fun k => by
    unfold oR_
    rw [tp_lt9 hv.1 hN6]
    cases lt9_ A N p k with
    | none => rfl
    | some t => exact if_pos (Or.inr hd)
  obtain ⟨g, hg⟩ : ∃ g : Nat → TH → Prop, g = fun i τ => edg8_ y G A N p E K σ i τ := ⟨_, rfl⟩
  have key : ∀ (m i f : Nat) (τ : TH), i + m = 10 → m < f → edg8_ y G A N p E K σ i τ → ∃ τ2, f_X15_edition_b347 f τ y (nI p) (some E) K (nI i) = edZ_ τ2 y E ∧ edg8_ y G A N p E K σ 10 τ2 := by
    intro m
    induction m with
    | zero =>
      intro i f τ him hf hI
      obtain ⟨f, rfl⟩ : ∃ e, f = e + 1 := ⟨f - 1, by omega⟩
      have : i = 10 := by omega
      subst this
      refine ⟨τ, ?_, hI⟩
      rw [f_X15_edition_b347, if_pos (by decide)]
      rfl
    | succ m ih =>
      intro i f τ him hf hI
      obtain ⟨f, rfl⟩ : ∃ e, f = e + 1 := ⟨f - 1, by omega⟩
      have hi : i < 10 := by omega
      obtain ⟨hr, hq, hn, ⟨hfr, hfi⟩, ha⟩ := id hI
      have hy := mo_y hr.1
      have kEτ : kd_ τ E = 14 := fq_kd hq kE (by decide)
      have k1τ : kd_ τ (E + 1) = 20 := fq_kd hq k1.1 (by decide)
      have l1τ : ln_ τ (E + 1) = 10 := (hq.1.2.2.2.2 (E + 1) (by rw [k1.1]; decide)).2.trans k1.2
      have c1301 : fi_ τ 1301 E = nI (td_ N) := (hfi 1301).trans h1
      have c1306 : fi_ τ 1306 E = bo_ (edO_ A N p K) i := (hfi 1306).trans (if_pos rfl)
      have c1309 : fr_ τ 1309 E = some (E + 1) := (hfr 1309).trans h9
      have ix := ix9_ (k := i) (M := 10) (by omega) (by omega)
      have cl : (nI i).toNatClampNeg = i := nI_clamp (by omega)
      have op := m_openR hr (show p < 30 by omega) i
      rw [oR] at op
      have b416 : ∀ τ : TH, f_X15_edition_b416 (f_X15_edition_b347 f) τ y (nI p) (some E) K (nI i) = f_X15_edition_b347 f τ y (nI p) (some E) K (nI (i + 1)) := fun τ => by
        unfold f_X15_edition_b416
        rw [lt_e, nI_1]
      have same : edO_ A N p K i = false → edg8_ y G A N p E K σ (i + 1) τ := fun z => ⟨hr, hq, hn, ⟨hfr, fun c => by
        rw [hfi c, show bo_ (edO_ A N p K) (i + 1) = bo_ (edO_ A N p K) i from by rw [bo_, z]; rfl]⟩, fun k hk hb => by
        by_cases w : k = i
        · subst w
          rw [z] at hb
          cases hb
        · exact ha k (by omega) hb⟩
      rw [f_X15_edition_b347, if_neg (kin_ hi), nn_s, gt_t kEτ, lt_e, c1301, gt_t hy, op, bd_s, bit_shr K (k := i) (by omega)]
      by_cases z : bt K i = true
      · rw [bi_t z, if_neg (by decide)]
        cases e : lt9_ A N p i with
        | none =>
          rw [if_pos (show oi_ none = -1 from rfl), b416]
          exact ih (i + 1) f τ (by omega) (by omega) (same (by unfold edO_; rw [e]; simp))
        | some t =>
          obtain ⟨t1, -, -⟩ := la_some e
          have hN17 := (mo_n hr.1 (j := 17) (cj := 1617) (m := 240) (by decide)).2
          obtain ⟨a2, b2, c2⟩ := mo_a hr.1 (j := 22) (cj := 1622) (K := 20) (n := 240) (by decide)
          have v2 := mr_V hr (j := 22) (by decide) t
          have ixt := ix9_ (k := t) (M := 240) (by omega) (by omega)
          have clt : (nI t).toNatClampNeg = t := nI_clamp (by omega)
          have eV : edV_ A N p i = aV A 22 t := by unfold edV_; rw [e]
          have eO : edO_ A N p K i = true := by unfold edO_; rw [z, e]; rfl
          have eb : bo_ (edO_ A N p K) (i + 1) = bo_ (edO_ A N p K) i ||| ((1 : Int32) <<< (nI i &&& 31)) := by rw [bo_, if_pos eO]
          rw [if_neg (oi_s (by omega)), lt_e, c1306, lt_e, lt_e, show fr_ (si_ τ 1306 E (bo_ (edO_ A N p K) i ||| ((1 : Int32) <<< (nI i &&& 31)))) 1309 E = some (E + 1) from c1309, lt_e, show fr_ (si_ τ 1306 E (bo_ (edO_ A N p K) i ||| ((1 : Int32) <<< (nI i &&& 31)))) 1622 y = _ from a2, nn_s, gt_t (show kd_ (si_ τ 1306 E (bo_ (edO_ A N p K) i ||| ((1 : Int32) <<< (nI i &&& 31)))) (ga_ G 22 0) = 20 from b2), show ln_ (si_ τ 1306 E (bo_ (edO_ A N p K) i ||| ((1 : Int32) <<< (nI i &&& 31)))) (ga_ G 22 0) = 240 from c2, show oi_ (some t) = nI t from rfl, clt, gt_t ixt, lt_e, show ai_ (si_ τ 1306 E (bo_ (edO_ A N p K) i ||| ((1 : Int32) <<< (nI i &&& 31)))) (ga_ G 22 0) t = _ from v2, nn_s, gt_t (show kd_ (si_ τ 1306 E (bo_ (edO_ A N p K) i ||| ((1 : Int32) <<< (nI i &&& 31)))) (E + 1) = 20 from k1τ), show ln_ (si_ τ 1306 E (bo_ (edO_ A N p K) i ||| ((1 : Int32) <<< (nI i &&& 31)))) (E + 1) = 10 from l1τ, cl, gt_t ix, lt_e, b416, ← eb]
          have r1 := mr_fh hr (fq_si (T := fun q => q = E) (c := 1306) (v := bo_ (edO_ A N p K) (i + 1)) hr.1.1.1 rfl) (fun q z => by rw [z]; exact f0)
          have r2 := mr_fh r1 (fq_sa (T := fun q => q = E + 1) (i := i) (v := aV A 22 t) r1.1.1.1 rfl) (fun q z => by rw [z]; exact f1)
          refine ih (i + 1) f _ (by omega) (by omega) ⟨r2, fqa (fqi hq (Or.inl rfl)) (Or.inr rfl), hn, ⟨hfr, fun c => ?_⟩, fun k hk hb => ?_⟩
          · show up2_ (fi_ τ) 1306 E (bo_ (edO_ A N p K) (i + 1)) c E = _
            by_cases w : c = 1306
            · rw [if_pos w, w, up2_s]
            · rw [if_neg w, up2_c w, hfi c, if_neg w]
          · show up2_ (ai_ τ) (E + 1) i (aV A 22 t) (E + 1) k = _
            by_cases w : k = i
            · rw [w, up2_s, eV]
            · rw [up2_n w]
              exact ha k (by omega) hb
      · rw [bi_f z, if_pos rfl, b416]
        exact ih (i + 1) f τ (by omega) (by omega) (same (by unfold edO_; rw [eq_false_of_ne_true z, Bool.false_and]))
  exact key 10 0 fu_ σ rfl (by unfold fu_; omega) ⟨h, fq_rf h.1.1.1, ⟨rfl, rfl⟩, ⟨fun _ => rfl, fun c => by
    by_cases w : c = 1306
    · rw [if_pos w, w, h6]; rfl
    · rw [if_neg w]⟩, fun k hk => absurd hk (Nat.not_lt_zero k)⟩
end MFA
