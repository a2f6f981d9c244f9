/-! CALLS: paragraphOf. Written by wip/b/mk99z9.py. -/
/-- a paragraph leans on what isn't sure -/
def mk9_ (A : AS) (N : Nat → Nat) (p k : Nat) : Nat → Bool
  | 0 => false
  | n + 1 => mk9_ A N p k n || (bt (aP A 1404 k) n && (sl9_ A p (nI (td_ N)) n || !tk9_ A p n))
theorem mk9_f {A : AS} {N : Nat → Nat} {p k : Nat} : ∀ {n : Nat}, mk9_ A N p k n = false ↔ ∀ j, j < n → (bt (aP A 1404 k) j && (sl9_ A p (nI (td_ N)) j || !tk9_ A p j)) = false := by
  intro n
  induction n with
  | zero => exact ⟨fun _ j hj => absurd hj (Nat.not_lt_zero _), fun _ => rfl⟩
  | succ n ih =>
    unfold mk9_
    rw [Bool.or_eq_false_iff, ih]
    constructor
    · intro h j hj
      by_cases e : j = n
      · rw [e]; exact h.2
      · exact h.1 j (by omega)
    · intro h
      exact ⟨fun j hj => h j (by omega), h n (by omega)⟩
theorem bt_nI10 {z i : Nat} (hz : z < 1024) (hi : 10 ≤ i) : bt (nI z) i = false := by
  unfold bt
  show (BitVec.ofNat 32 z).getLsbD i = false
  rw [BitVec.getLsbD_ofNat]
  have : z.testBit i = false := Nat.testBit_lt_two_pow (Nat.lt_of_lt_of_le hz (Nat.pow_le_pow_right (n := 2) (by decide) hi))
  rw [this]
  simp
theorem and_any {x u : Int32} {z : Nat} (hx : x = nI z) (hz : z < 1024) : x &&& u = 0 ↔ ∀ j, j < 10 → (bt x j && bt u j) = false := by
  constructor
  · intro h j hj
    rw [← b_and, h, b_0]
  · intro h
    refine b_ext (fun i hi => ?_)
    rw [b_and, b_0]
    by_cases e : i < 10
    · exact h i e
    · rw [hx, bt_nI10 hz (by omega)]
      rfl
section MK9
variable {ka : Nat → Nat} {TX : Nat → Nat → (Nat → Int32) → Nat → (Nat → Int32) → Prop} {x y o N0 : Nat}

theorem k_unsure {σ : TH} {G : GH} {A : AS} {N : Nat → Nat} (h : rc_ ka TX σ x G A N) {p : Nat} (hk : kf_ σ x G A N p) : f_X11_unsureKinds σ x (some (ga_ G 31 p)) = some (bo_ (sl9_ A p (nI (td_ N))) 10 ||| (bo_ (tk9_ A p) 10 ^^^ (-1)), σ) := by
  obtain ⟨hp, hN, hT, hH, hb, hm, h15⟩ := hk
  unfold f_X11_unsureKinds
  rw [gt_t (rc_x h), k_now h hm hb, bd_s, k_staleKinds h hp hN, bd_s, nn_s, gt_t (k_per h hp).1, k_kindsTold h hp, bd_s]
theorem mk_un {A : AS} {N : Nat → Nat} {p k z : Nat} (hx : aP A 1404 k = nI z) (hz : z < 1024) : aP A 1404 k &&& (bo_ (sl9_ A p (nI (td_ N))) 10 ||| (bo_ (tk9_ A p) 10 ^^^ (-1))) = 0 ↔ mk9_ A N p k 10 = false := by
  rw [and_any hx hz, mk9_f]
  have e : ∀ j, j < 10 → bt (bo_ (sl9_ A p (nI (td_ N))) 10 ||| (bo_ (tk9_ A p) 10 ^^^ (-1))) j = (sl9_ A p (nI (td_ N)) j || !tk9_ A p j) := fun j hj => by
    rw [b_or, b_xor, bt_bo _ 10 (by omega) j (by omega), bt_bo _ 10 (by omega) j (by omega), b_m1 j (by omega), decide_eq_true hj]
    cases sl9_ A p (nI (td_ N)) j <;> cases tk9_ A p j <;> rfl
  constructor
  · intro h j hj
    rw [← e j hj]; exact h j hj
  · intro h j hj
    rw [e j hj]; exact h j hj
end MK9
section MM9
variable {σ : TH} {y : Nat} {G : GH} {A : AS} {N : Nat → Nat}
theorem m_isMarked (h : mr_ σ y G A N) {p k : Nat} (hp : p < 30) (hk : k < N 47) (e : aP A 1400 k = nI p) : f_X15_isMarked σ y (some (ga_ G 100 k)) = some (bi_ (mk9_ A N p k 10 = true), σ) := by
  have hy := mo_y h.1
  obtain ⟨p1, p2, p3, p4, p5, p6, p7⟩ := mr_P h hk
  have q0 := p1 1400 (by decide)
  have q4 := p1 1404 (by decide)
  rw [e] at q0
  obtain ⟨a19, b19, c19⟩ := mo_a h.1 (j := 19) (cj := 1619) (K := 20) (n := 300) (by decide)
  have n6 := m_today2 h
  refine lpk_ (F := fun f (a : Int32) j => f_X15_isMarked_b4 f σ y (some (ga_ G 100 k)) a j) 0 10 (by decide) (fun i => bi_ (mk9_ A N p k i = true)) (fun f i _ hi => ?_) (fun f => ?_) (by decide)
  · show f_X15_isMarked_b4 (f + 1) σ y (some (ga_ G 100 k)) (bi_ (mk9_ A N p k i = true)) (nI i) = f_X15_isMarked_b4 f σ y (some (ga_ G 100 k)) (bi_ (mk9_ A N p k (i + 1) = true)) (nI (i + 1))
    have to1 : ∀ u : Bool, mk9_ A N p k (i + 1) = u → f_X15_isMarked_b65 (f_X15_isMarked_b4 f) σ y (some (ga_ G 100 k)) (nI i) (bb9_ u) = f_X15_isMarked_b4 f σ y (some (ga_ G 100 k)) (bi_ (mk9_ A N p k (i + 1) = true)) (nI (i + 1)) := fun u hu => by
      unfold f_X15_isMarked_b65
      rw [lt_e, nI_1, hu]
      cases u <;> rfl
    have st : mk9_ A N p k (i + 1) = (mk9_ A N p k i || (bt (aP A 1404 k) i && (sl9_ A p (nI (td_ N)) i || !tk9_ A p i))) := rfl
    rw [f_X15_isMarked_b4, if_neg (show ¬ (10 : Int32) ≤ nI i from nI_ge (b := 10) hi (by decide))]
    unfold f_X15_isMarked_b60 f_X15_isMarked_b64
    by_cases z1 : mk9_ A N p k i = true
    · rw [bi_t z1, if_neg (by decide)]
      exact to1 true (by rw [st, z1]; rfl)
    · have z1' : mk9_ A N p k i = false := by simpa using z1
      rw [bi_f z1, if_pos rfl, nn_s, gt_t p4, lt_e, q4, bit_shr _ (by omega)]
      by_cases z2 : bt (aP A 1404 k) i = true
      · have ix : (10 : Int32) * nI p + nI i = nI (10 * p + i) := by
          rw [show (10 : Int32) * nI p = nI (10 * p) from pk_mul 10 p, nI_add]
        have v19 := mr_V h (j := 19) (by decide) (10 * p + i)
        rw [bi_t z2, if_pos rfl, gt_t hy, lt_e, a19, lt_e, q0, nn_s, gt_t b19, ix, nI_clamp (by omega), c19, gt_t (ix9_ (k := 10 * p + i) (M := 300) (by omega) (by omega)), lt_e, v19]
        by_cases z3 : aV A 19 (10 * p + i) = -1
        · rw [if_pos z3]
          refine to1 true ?_
          have : tk9_ A p i = false := by unfold tk9_; rw [decide_eq_true z3]; rfl
          rw [st, z1', z2, this]
          simp
        · have z3' : tk9_ A p i = true := by unfold tk9_; rw [decide_eq_false z3]; rfl
          rw [if_neg z3, lt_e, n6, bd_s, m_isStale h hp (by omega), bd_s]
          by_cases z4 : sl9_ A p (nI (td_ N)) i = true
          · rw [bi_t z4, if_neg (by decide)]
            exact to1 true (by rw [st, z1', z2, z4]; rfl)
          · have z4' : sl9_ A p (nI (td_ N)) i = false := by simpa using z4
            rw [bi_f z4, if_pos rfl]
            exact to1 false (by rw [st, z1', z2, z4', z3']; rfl)
      · have z2' : bt (aP A 1404 k) i = false := by simpa using z2
        rw [bi_f z2, if_neg (by decide)]
        exact to1 false (by rw [st, z1', z2']; rfl)
  · show f_X15_isMarked_b4 (f + 1) σ y (some (ga_ G 100 k)) (bi_ (mk9_ A N p k 10 = true)) (nI 10) = _
    rw [f_X15_isMarked_b4, if_pos (by decide), gt_t bi_01]
end MM9
section PO9
variable {ka : Nat → Nat} {x y o N0 : Nat}
theorem ok_paragraphOf : St_paragraphOf ka x y (inv_ ka TXp_ pv_ x y o N0) := fun n c m a0 a1 a2 hn hI => by
  obtain ⟨GC, GM, N, k1, k2, k3, k4, k5, k6, k7, k8⟩ := id hI
  have hN := (mo_n k1 (j := 5) (cj := 1605) (m := 30) (by decide)).2
  obtain ⟨e6, hN6⟩ := mo_n k1 (j := 6) (cj := 1606) (m := 5257439) (by decide)
  have hb : mr_ (bm_ m c) y GM (as_ m y GM) N := mr_bm (mr_of k1) (Nat.le_of_eq k5.1)
  have hx := rc_x k2
  have hb1 := mr_si hb (j := 0) (c := 1600) (by decide) 0
  have hyb : kd_ (bm_ m c) y = 17 := mo_yb k1
  rcases rg_ a0 (n := N 5) (by omega) with ⟨p, hp, rfl⟩ | hout
  · have hH := k3.2.1
    obtain ⟨p1, p2⟩ := k_person1 k2 hN hp
    have ta := k_textAt k2 hH hp a1
    have at1 := m_at hb1 (p := p) a1
    have h15 := (k_per k2 hp).2.2.2.2
    have i5 := m_isPerson1 hb1.1 hp
    cases hf : pf9_ (as_ m y GM) N p a1 with
    | none =>
      rw [hf] at ta at1
      refine ⟨-1, c, si_ (bm_ m c) 1600 y 0, ?_, ?_, ask_ hI pv_S⟩
      · unfold f_X11_paragraphOf
        rw [gt_t hx, p1, bd_s, ta, bd_s, Option.map_none, oc_n]
      · unfold f_X15_paragraphOf
        rw [gt_t hyb, lt_e, i5, bd_s, if_neg (by decide), at1, bd_s]
        rfl
    | some k =>
      rw [hf] at ta at1
      obtain ⟨f1, f2, f3⟩ := pf9_some hf
      obtain ⟨t1, t2, t3, t4, t5, t6, t7⟩ := k_text k2 f1
      obtain ⟨s1, -, ⟨s2, s3, s4⟩, ⟨s5, s6, s7⟩, s8⟩ := k_story k2 hp
      obtain ⟨-, s9, s10⟩ := s8 k f1 f2
      obtain ⟨m1, m2, m3, m4, m5, m6, m7⟩ := mr_P hb1 f1
      have lt := pl_st f1 f2
      have hst := (hH p hp).2.2.2
      have hkf : ∀ σ, kf_ σ x GC (as_ m y GM) N p := fun σ => ⟨hp, hN, k3.1, hH, hN6, e6, h15⟩
      have b1 : a1 = nI (pl_ (as_ m y GM) k) := f3.symm.trans t2
      subst b1
      have cl : f_X11_paragraphOf c x (nI p) (nI (pl_ (as_ m y GM) k)) a2 = (if a2 = 0 then some (aP (as_ m y GM) 1402 k, c) else if a2 = 1 then some (aP (as_ m y GM) 1403 k, c) else if a2 = 2 then (bd_ (f_X11_lengthToday c x (some (ga_ GC 31 p)) (some (ga_ GC 37 k))) fun x14 s15 => some (x14, s15)) else if a2 = 3 then some (bi_ (mk9_ (as_ m y GM) N p k 10 = true), c) else if a2 = 4 then some (aP (as_ m y GM) 1404 k, c) else if a2 = 5 then some (aP (as_ m y GM) 1405 k, c) else some (-1, c)) := by
        have ix := ix9_ (k := pl_ (as_ m y GM) k) (M := 14) (by omega) (by omega)
        unfold f_X11_paragraphOf
        rw [gt_t hx, p1, bd_s, ta, bd_s, Option.map_some, oc_s]
        by_cases w0 : a2 = 0
        · rw [if_pos w0, if_pos w0, nn_s, gt_t p2, lt_e, s2, nn_s, gt_t s3, nI_clamp (by omega), s4, gt_t ix, lt_e, s9]
        rw [if_neg w0, if_neg w0]
        by_cases w1 : a2 = 1
        · rw [if_pos w1, if_pos w1, nn_s, gt_t p2, lt_e, s5, nn_s, gt_t s6, nI_clamp (by omega), s7, gt_t ix, lt_e, s10]
        rw [if_neg w1, if_neg w1]
        by_cases w2 : a2 = 2
        · rw [if_pos w2, if_pos w2]
        rw [if_neg w2, if_neg w2]
        by_cases w3 : a2 = 3
        · obtain ⟨z, hz, ez⟩ := (k3.2.2.2.1 k f1).2.2.2
          have mu := mk_un (A := as_ m y GM) (N := N) (p := p) (k := k) ez hz
          rw [if_pos w3, if_pos w3, gt_t t1, lt_e, t4, k_unsure k2 (hkf c), bd_s]
          unfold f_X11_paragraphOf_b105
          by_cases w : mk9_ (as_ m y GM) N p k 10 = true
          · rw [if_neg (fun q => by rw [mu.mp q] at w; cases w), bi_t w, k_asN c (Or.inr rfl), bd_s]
          · rw [if_pos (mu.mpr (by simpa using w)), bi_f w, k_asN c (Or.inl rfl), bd_s]
        rw [if_neg w3, if_neg w3]
        by_cases w4 : a2 = 4
        · rw [if_pos w4, if_pos w4, gt_t t1, lt_e, t4]
        rw [if_neg w4, if_neg w4]
        by_cases w5 : a2 = 5
        · rw [if_pos w5, if_pos w5, gt_t t1, lt_e, t5]
        rw [if_neg w5, if_neg w5]
      have rf : ∀ z : TH, nx_ m ≤ nx_ z → f_X15_paragraphOf (bm_ m z) y (nI p) (nI (pl_ (as_ m y GM) k)) a2 = (if a2 = 0 then some (aP (as_ m y GM) 1402 k, si_ (bm_ m z) 1600 y 0) else if a2 = 1 then some (aP (as_ m y GM) 1403 k, si_ (bm_ m z) 1600 y 0) else if a2 = 2 then (bd_ (f_X15_lengthOf (si_ (bm_ m z) 1600 y 0) y (some (ga_ GM 100 k))) fun x7 s8 => some (x7, s8)) else if a2 = 3 then some (bi_ (mk9_ (as_ m y GM) N p k 10 = true), si_ (bm_ m z) 1600 y 0) else if a2 = 4 then some (aP (as_ m y GM) 1404 k, si_ (bm_ m z) 1600 y 0) else if a2 = 5 then some (aP (as_ m y GM) 1405 k, si_ (bm_ m z) 1600 y 0) else some (-1, si_ (bm_ m z) 1600 y 0)) := fun z hz => by
        have hb1 := mr_si (mr_bm (z := z) (mr_of k1) hz) (j := 0) (c := 1600) (by decide) 0
        obtain ⟨m1, m2, m3, m4, m5, m6, m7⟩ := mr_P hb1 f1
        have at1 := m_at hb1 (p := p) (nI (pl_ (as_ m y GM) k))
        have hf1 : pf9_ (as_ m y GM) N p (nI (pl_ (as_ m y GM) k)) = some k := hf
        rw [hf1] at at1
        unfold f_X15_paragraphOf
        rw [gt_t (show kd_ (bm_ m z) y = 17 from mo_yb k1), lt_e, m_isPerson1 hb1.1 hp, bd_s, if_neg (by decide), at1, bd_s]
        unfold f_X15_paragraphOf_b23
        rw [Option.map_some, oc_s]
        by_cases w0 : a2 = 0
        · rw [if_pos w0, if_pos w0, gt_t m4, lt_e, m1 1402 (by decide)]
        rw [if_neg w0, if_neg w0]
        by_cases w1 : a2 = 1
        · rw [if_pos w1, if_pos w1, gt_t m4, lt_e, m1 1403 (by decide)]
        rw [if_neg w1, if_neg w1]
        by_cases w2 : a2 = 2
        · rw [if_pos w2, if_pos w2, gt_t (mo_y hb1.1)]
        rw [if_neg w2, if_neg w2]
        by_cases w3 : a2 = 3
        · rw [if_pos w3, if_pos w3, gt_t (mo_y hb1.1), m_isMarked hb1 (by omega) f1 f2, bd_s]
          unfold f_X15_paragraphOf_b105
          by_cases w : mk9_ (as_ m y GM) N p k 10 = true
          · rw [bi_t w, if_neg (by decide)]
          · rw [bi_f w, if_pos rfl]
        rw [if_neg w3, if_neg w3]
        by_cases w4 : a2 = 4
        · rw [if_pos w4, if_pos w4, gt_t m4, lt_e, m1 1404 (by decide)]
        rw [if_neg w4, if_neg w4]
        by_cases w5 : a2 = 5
        · rw [if_pos w5, if_pos w5, gt_t m4, lt_e, m1 1405 (by decide)]
        rw [if_neg w5, if_neg w5]
      have as0 : ∀ r : Int32, f_X11_paragraphOf c x (nI p) (nI (pl_ (as_ m y GM) k)) a2 = some (r, c) → f_X15_paragraphOf (bm_ m c) y (nI p) (nI (pl_ (as_ m y GM) k)) a2 = some (r, si_ (bm_ m c) 1600 y 0) → ∃ (r : Int32) (c1 m1 : TH), f_X11_paragraphOf c x (nI p) (nI (pl_ (as_ m y GM) k)) a2 = some (r, c1) ∧ f_X15_paragraphOf (bm_ m c1) y (nI p) (nI (pl_ (as_ m y GM) k)) a2 = some (r, m1) ∧ wf_ c1 ∧ wf_ m1 ∧ inv_ ka TXp_ pv_ x y o N0 (n + 1) (bm_ c1 m1) m1 := fun r h1 h2 => ⟨r, c, _, h1, h2, ask_ hI pv_S⟩
      have rfc := rf c (Nat.le_of_eq k5.1)
      by_cases w2 : a2 = 2
      · subst w2
        rw [if_neg (by decide), if_neg (by decide), if_pos rfl] at cl
        obtain ⟨F1, Y1, q1, r1, kn1⟩ := k_fillK k2 (hkf c)
        obtain ⟨rv, F2, X2, q2, u2, -⟩ := k_prn r1 (hkf _) f1 kn1 false 0 rfl
        generalize hτ : kp_ c GC F1 (ai_ c (ga_ GC 16 0)) Y1 = τ1 at q1 r1 kn1 q2 u2
        have hkk : kp_ τ1 GC F2 X2 (ai_ τ1 (ga_ GC 15 0)) = kp_ c GC F2 X2 (ai_ τ1 (ga_ GC 15 0)) := by rw [← hτ]; exact kh_kh
        rw [hkk] at q2
        obtain ⟨u21, u22, u23, u24⟩ := u2
        have u24 := u24 rfl
        have e16 : ai_ τ1 (ga_ GC 16 0) = ai_ c (ga_ GC 16 0) := by rw [← hτ]; exact funext fun i => kh_S i
        have rc1 : rc_ ka TXp_ (kp_ c GC F2 X2 (ai_ τ1 (ga_ GC 15 0))) x GC (as_ m y GM) N := rc_kp k2 (by rw [u24, e16]; exact rc_o28 k2)
        have hb0 := mr_bm (z := kp_ c GC F2 X2 (ai_ τ1 (ga_ GC 15 0))) (mr_of k1) (Nat.le_of_eq k5.1)
        have hb2 := mr_si hb0 (j := 0) (c := 1600) (by decide) 0
        obtain ⟨m9, g1, g2, g3, g4, g5, g6, g7⟩ := m_lengthOf hb2.1.1.1 hb2 k3.1 hH k3.2.2.1 hp f1 f2 h15 t7
        have rf2 := rf (kp_ c GC F2 X2 (ai_ τ1 (ga_ GC 15 0))) (Nat.le_of_eq k5.1)
        rw [if_neg (by decide), if_neg (by decide), if_pos rfl, g1, bd_s] at rf2
        have r9 : ∀ {F X Y}, fr_ (kp_ c GC F X Y) 1209 x = some (ga_ GC 14 0) := (rc_r1209 k2).1
        have k69 : ∀ {F X Y}, kd_ (kp_ c GC F X Y) (ga_ GC 14 0) = 6 := (rc_r1209 k2).2
        refine ⟨nI (ot9_ (as_ m y GM) N p k).length, kp_ c GC F2 X2 (ai_ τ1 (ga_ GC 15 0)), m9, ?_, rf2, inv_fin hI (kh_fq k2.1.1) ⟨Nat.le_add_right _ _, Nat.le_add_right _ _⟩ (U := rU_ y GM) (fq_tr (fq_si hb0.1.1.1 (Or.inl rfl)) g3) ⟨by rw [g4.1]; exact Nat.le_add_right _ _, by rw [g4.2]; exact Nat.le_add_right _ _⟩ g2 (fun j hj => ?_) rc1 k3⟩
        · rw [cl]
          unfold f_X11_lengthToday
          rw [gt_t hx, q1, bd_s, lt_e, (rc_r1209 r1).1, nn_s, gt_t (k_text r1 f1).1, lt_e, (k_text r1 f1).2.2.1, nn_s, gt_t (rc_r1209 r1).2, q2, bd_s, lt_e, r9, nn_s, gt_t k69, lt_e, show fi_ (kp_ c GC F2 X2 (ai_ τ1 (ga_ GC 15 0))) 505 (ga_ GC 14 0) = nI (ot9_ (as_ m y GM) N p k).length from (kh_fi 505).trans u21, bd_s]
        · have hj0 : ∀ j, j ∈ DS → j ≠ 0 := by decide
          have h0 := hj0 j hj
          rw [g5 j hj, fi_si, up2_c (by omega)]
          rfl
      · by_cases w0 : a2 = 0
        · rw [if_pos w0] at cl rfc
          exact as0 _ cl rfc
        rw [if_neg w0] at cl rfc
        by_cases w1 : a2 = 1
        · rw [if_pos w1] at cl rfc
          exact as0 _ cl rfc
        rw [if_neg w1, if_neg w2] at cl rfc
        by_cases w3 : a2 = 3
        · rw [if_pos w3] at cl rfc
          exact as0 _ cl rfc
        rw [if_neg w3] at cl rfc
        by_cases w4 : a2 = 4
        · rw [if_pos w4] at cl rfc
          exact as0 _ cl rfc
        rw [if_neg w4] at cl rfc
        by_cases w5 : a2 = 5
        · rw [if_pos w5] at cl rfc
          exact as0 _ cl rfc
        rw [if_neg w5] at cl rfc
        exact as0 _ cl rfc
  · have p0 := k_person0 k2 hN hout
    have i5 := m_isPerson0 hb1.1 hout
    refine ⟨-1, c, si_ (bm_ m c) 1600 y 0, ?_, ?_, ask_ hI pv_S⟩
    · unfold f_X11_paragraphOf
      rw [gt_t hx, p0, bd_s, k_textAt0, bd_s, oc_n]
    · unfold f_X15_paragraphOf
      rw [gt_t hyb, lt_e, i5, bd_s, if_pos rfl]
      rfl
end PO9
