/-! CALLS: the class chooses paragraphs. Written by wip/b/mk99zw.py. -/
section KCP
variable {ka : Nat → Nat} {x : Nat} {c : TH} {G : GH} {A : AS} {N : Nat → Nat}
def kT8_ (G : GH) (q : Nat) : Prop := cq5_ G q ∨ q = ga_ G 14 0 ∨ q = ga_ G 16 0 ∨ q = ga_ G 15 0
/-- offered so far -/
def of8_ (ka : Nat → Nat) (x : Nat) (A : AS) (N : Nat → Nat) (p : Nat) (v : Int32) (lim : Int) (c : TH) (G : GH) (i : Nat) (τ : TH) : Prop := rc_ ka TXp_ τ x G A N ∧ KN_ (EP_ A N p) false (fun d => fi_ τ d (ga_ G 14 0)) (ai_ τ (ga_ G 15 0)) ∧ (fi_ τ 105 (ga_ G 17 0) = nI i ∧ fi_ τ 106 (ga_ G 17 0) = zI lim ∧ fi_ τ 107 (ga_ G 17 0) = zI 1) ∧ (∀ j, j < i → ai_ τ (ga_ G 18 0) j = zI (cga8_ A N p j) ∧ ai_ τ (ga_ G 19 0) j = zI (cco8_ A N p j) ∧ ai_ τ (ga_ G 20 0) j = zI (cle8_ A N p j) ∧ ai_ τ (ga_ G 21 0) j = bi_ (cop8_ A N p v j = true)) ∧ fq_ (kT8_ G) c τ ∧ (nx_ τ = nx_ c ∧ sl_ τ = sl_ c)
theorem k_offOne {p i : Nat} {v un : Int32} {lim : Int} {τ : TH} (hPl : ∀ k, k < N 47 → aP A 1401 k = nI (pl_ A k)) (hst : st_ A N p ≤ 14) (hk : kf_ c x G A N p) (hun : ∀ k, k < N 47 → (aP A 1404 k &&& un = 0 ↔ (decide (v = 0) || !mk9_ A N p k 10) = true)) (hi : i < st_ A N p) (hI : of8_ ka x A N p v lim c G i τ) (f : Nat) : ∃ τ2, f_X11_chooseParagraphs_b32 (f + 1) τ x (some (ga_ G 31 p)) un (nI i) = f_X11_chooseParagraphs_b32 f τ2 x (some (ga_ G 31 p)) un (nI (i + 1)) ∧ of8_ ka x A N p v lim c G (i + 1) τ2 := by
  obtain ⟨hr, hK, ⟨f5, f6, f7⟩, hw, hf, hn⟩ := hI
  obtain ⟨hp, hkr⟩ := hk
  have hk : kf_ τ x G A N p := ⟨hp, hkr⟩
  obtain ⟨kf, k1, k2, k3⟩ := kx9_s hPl hst hi
  obtain ⟨k, hkd⟩ : ∃ k, k = kx9_ A N p i := ⟨_, rfl⟩
  rw [← hkd] at kf k1 k2 k3
  obtain ⟨s1, ⟨s2, s3, s4⟩, ⟨s6, s7, s8⟩, ⟨s9, s10, s11⟩, s5⟩ := k_story hr hp
  obtain ⟨pk, -⟩ := k_per hr hp
  obtain ⟨w1, w2, w3⟩ := s5 k k1 k2
  rw [k3] at w1 w2 w3
  obtain ⟨t1, t2, t3, t4, t5, t6, t7⟩ := k_text hr k1
  obtain ⟨r, F', X', q1, q2, q3⟩ := k_prn hr hk k1 hK false 0 rfl
  have hx := rc_x hr
  have g17 : ga_ G 17 0 ≠ ga_ G 14 0 := sh_ne hr.1 (rc_1 hr (by decide)) (rc_1 hr (by decide)) (Or.inl (by decide))
  have ne : ∀ {a b : Nat}, a ∈ ([0, 1, 2, 3, 4, 5, 6, 7, 8, 9, 10, 11, 12, 13, 14, 15, 16, 17, 18, 19, 20, 21, 22] : List Nat) → b ∈ ([0, 1, 2, 3, 4, 5, 6, 7, 8, 9, 10, 11, 12, 13, 14, 15, 16, 17, 18, 19, 20, 21, 22] : List Nat) → a ≠ b → ¬ ga_ G a 0 = ga_ G b 0 := fun ha hb hn => sh_ne hr.1 (rc_1 hr ha) (rc_1 hr hb) (Or.inl hn)
  have X0 : X' = ai_ τ (ga_ G 16 0) := q2.2.2.2 rfl
  subst X0
  obtain ⟨τ1, hτ1⟩ : ∃ τ1, τ1 = kp_ τ G F' (ai_ τ (ga_ G 16 0)) (ai_ τ (ga_ G 15 0)) := ⟨_, rfl⟩
  have hr1 : rc_ ka TXp_ τ1 x G A N := by rw [hτ1]; exact rc_kp hr (rc_o28 hr)
  have fi1 : ∀ d q, q ≠ ga_ G 14 0 → fi_ τ1 d q = fi_ τ d q := fun d q hq => by rw [hτ1]; exact if_neg hq
  have f505 : fi_ τ1 505 (ga_ G 14 0) = nI (ot9_ A N p k).length := by rw [hτ1]; exact (kh_fi 505).trans q2.1
  have fr1 : fr_ τ1 = fr_ τ := by rw [hτ1]; rfl
  have kd1 : kd_ τ1 = kd_ τ := by rw [hτ1]; rfl
  have ai1 : ∀ q, q ≠ ga_ G 16 0 → q ≠ ga_ G 15 0 → ai_ τ1 q = ai_ τ q := fun q h1 h2 => by
    rw [hτ1]
    exact funext fun i => (if_neg h1).trans (if_neg h2)
  have ai5 : ai_ τ1 (ga_ G 15 0) = ai_ τ (ga_ G 15 0) := by
    rw [hτ1]
    exact funext fun i => (if_neg (ne (by decide) (by decide) (by decide))).trans (if_pos rfl)
  have hn1 : nx_ τ1 = nx_ τ ∧ sl_ τ1 = sl_ τ := by rw [hτ1]; exact ⟨rfl, rfl⟩
  have hf1 : fq_ (kT8_ G) c τ1 := by
    rw [hτ1]
    exact fq_tr hf (fq_w (kh_fq hr.1.1) (fun _ q => Or.inr q))
  have hK1 : KN_ (EP_ A N p) false (fun d => fi_ τ1 d (ga_ G 14 0)) (ai_ τ1 (ga_ G 15 0)) := by
    rw [ai5]
    have e : ∀ d, d < 505 → fi_ τ1 d (ga_ G 14 0) = fi_ τ d (ga_ G 14 0) := fun d hd => by
      rw [hτ1]
      exact (kh_fi d).trans (q3 d hd)
    unfold KN_ at hK ⊢
    dsimp only at hK ⊢
    rw [e 502 (by decide), e 503 (by decide), e 504 (by decide)]
    exact hK
  rw [← hτ1] at q1
  obtain ⟨s1', ⟨s2', s3', s4'⟩, ⟨s6', s7', s8'⟩, ⟨s9', s10', s11'⟩, s5'⟩ := k_story hr1 hp
  obtain ⟨-, w2', w3'⟩ := s5' k k1 k2
  rw [k3] at w2' w3'
  have t4' := (k_text hr1 k1).2.2.2.1
  have r10 := rc_r1210 hr1
  have r9 := rc_r1209 hr
  have r9' := rc_r1209 hr1
  have ix := ix9_ (k := i) (M := 14) (by omega) (by omega)
  have cl : (nI i).toNatClampNeg = i := nI_clamp (by omega)
  have g14 : ¬ (14 : Int32) ≤ nI i := nI_ge (b := 14) (by omega) (by decide)
  have ec : nI (ot9_ A N p k).length = zI (cco8_ A N p i) := by unfold cco8_; rw [if_pos hi, ← hkd, zI_nI]
  have eg : aP A 1402 k = zI (cga8_ A N p i) := by unfold cga8_; rw [if_pos hi, ← hkd, zI_to]
  have el : aP A 1403 k = zI (cle8_ A N p i) := by unfold cle8_; rw [if_pos hi, ← hkd, zI_to]
  have eo : (aP A 1404 k &&& un = 0) ↔ cop8_ A N p v i = true := by unfold cop8_; rw [← hkd]; exact hun k k1
  have off := k_offer (F := fun d => fi_ τ1 d (ga_ G 17 0)) (W := fun j => ai_ τ1 (ga_ G (18 + j) 0)) hr1 (k := i) ((fi1 105 _ g17).trans f5) (by omega) (zI (cga8_ A N p i)) (zI (cco8_ A N p i)) (zI (cle8_ A N p i)) (bi_ (cop8_ A N p v i = true)) bi_01
  rw [cu_self] at off
  have b117 : ∀ t0, t0 = bi_ (cop8_ A N p v i = true) → f_X11_chooseParagraphs_b117 (f_X11_chooseParagraphs_b32 f) τ1 x (some (ga_ G 31 p)) un (nI i) t0 (aP A 1403 k) (nI (ot9_ A N p k).length) (aP A 1402 k) (some (ga_ G 17 0)) = f_X11_chooseParagraphs_b32 f _ x (some (ga_ G 31 p)) un (nI (i + 1)) := fun t0 e => by
    unfold f_X11_chooseParagraphs_b117 f_X11_chooseParagraphs_b120
    rw [nn_s, gt_t (cu_k hr1).1, ec, eg, el, e, off, bd_s, lt_e, nI_1]
  refine ⟨cu_ τ1 G (upd (fun d => fi_ τ1 d (ga_ G 17 0)) 105 (nI (i + 1))) (up2_ (up2_ (up2_ (up2_ (fun j => ai_ τ1 (ga_ G (18 + j) 0)) 0 i (zI (cga8_ A N p i))) 1 i (zI (cco8_ A N p i))) 2 i (zI (cle8_ A N p i))) 3 i (bi_ (cop8_ A N p v i = true))), ?_, ?_⟩
  rotate_left
  · have hd := cd5_of hr1
    refine ⟨rc_cu hr1, ?_, ⟨?_, ?_, ?_⟩, fun j hj => ?_, fq_tr hf1 (fq_w (cu_fq hr1.1.1) (fun _ q => Or.inl q)), ⟨hn1.1.trans hn.1, hn1.2.trans hn.2⟩⟩
    · have e1 : ∀ {F W} d, fi_ (cu_ τ1 G F W) d (ga_ G 14 0) = fi_ τ1 d (ga_ G 14 0) := fun d => if_neg (fun z => g17 z.symm)
      have e2 : ∀ {F W}, ai_ (cu_ τ1 G F W) (ga_ G 15 0) = ai_ τ1 (ga_ G 15 0) := funext fun i => cu_o (ne (by decide) (by decide) (by decide)) (ne (by decide) (by decide) (by decide)) (ne (by decide) (by decide) (by decide)) (ne (by decide) (by decide) (by decide)) (ne (by decide) (by decide) (by decide))
      rw [e2]
      simp only [e1]
      exact hK1
    · rw [cu_fi, upd9_s]
    · rw [cu_fi, upd9_n (by decide), fi1 106 _ g17]; exact f6
    · rw [cu_fi, upd9_n (by decide), fi1 107 _ g17]; exact f7
    · rw [cu_a0 hd, cu_a1 hd, cu_a2 hd, cu_a3 hd]
      by_cases z : j = i
      · subst z
        rw [up2_c (by decide), up2_c (by decide), up2_c (by decide), up2_s, up2_c (by decide), up2_c (by decide), up2_s, up2_c (by decide), up2_s, up2_s]
        exact ⟨rfl, rfl, rfl, rfl⟩
      · have hj2 : j < i := by omega
        obtain ⟨h0, h1, h2, h3⟩ := hw j hj2
        rw [up2_c (by decide), up2_c (by decide), up2_c (by decide), up2_n z, up2_c (by decide), up2_c (by decide), up2_n z, up2_c (by decide), up2_c (by decide), up2_n z, up2_c (by decide), up2_c (by decide), up2_n z, up2_c (by decide), up2_c (by decide), up2_c (by decide)]
        refine ⟨?_, ?_, ?_, ?_⟩
        · exact (congrFun (ai1 (ga_ G 18 0) (ne (by decide) (by decide) (by decide)) (ne (by decide) (by decide) (by decide))) j).trans h0
        · exact (congrFun (ai1 (ga_ G 19 0) (ne (by decide) (by decide) (by decide)) (ne (by decide) (by decide) (by decide))) j).trans h1
        · exact (congrFun (ai1 (ga_ G 20 0) (ne (by decide) (by decide) (by decide)) (ne (by decide) (by decide) (by decide))) j).trans h2
        · exact (congrFun (ai1 (ga_ G 21 0) (ne (by decide) (by decide) (by decide)) (ne (by decide) (by decide) (by decide))) j).trans h3
  · rw [f_X11_chooseParagraphs_b32, nn_s, gt_t pk, lt_e, s1, if_neg (nI_ge hi (by omega)), if_neg g14, lt_e, s2, nn_s, gt_t s3, cl, s4, gt_t ix, lt_e, w1, oc_s, gt_t hx, lt_e, r9.1, gt_t t1, lt_e, t3, nn_s, gt_t r9.2, q1, bd_s]
    rw [lt_e, r10.1, lt_e, s6', nn_s, gt_t s7', s8', gt_t ix, lt_e, w2', lt_e, r9'.1, nn_s, gt_t r9'.2, lt_e, f505, lt_e, s9', nn_s, gt_t s10', s11', gt_t ix, lt_e, w3', lt_e, t4']
    by_cases z : aP A 1404 k &&& un = 0
    · rw [if_pos z]
      exact b117 1 (by rw [bi_t (eo.mp z)])
    · rw [if_neg z]
      exact b117 0 (by rw [bi_f (fun q => z (eo.mpr q))])
theorem k_choosePar (h : rc_ ka TXp_ c x G A N) {p : Nat} {v : Int32} {lim : Int} (hPl : ∀ k, k < N 47 → aP A 1401 k = nI (pl_ A k)) (hst : st_ A N p ≤ 14) (hP : pvP A N) (hk : kf_ c x G A N p) (hL : ∀ k, k < N 47 → aP A 1400 k = nI p → (ot9_ A N p k).length ≤ 880) (hlim : 0 ≤ lim ∧ lim ≤ 10000000) : ∃ τ, f_X11_chooseParagraphs c x (some (ga_ G 31 p)) (zI lim) v = some ((), τ) ∧ rc_ ka TXp_ τ x G A N ∧ fq_ (kT8_ G) c τ ∧ (nx_ τ = nx_ c ∧ sl_ τ = sl_ c) ∧ fi_ τ 108 (ga_ G 17 0) = nI (pk_ (cga8_ A N p) (cco8_ A N p) (cle8_ A N p) (cop8_ A N p v) 1 lim (st_ A N p) 0 (0, 0, 0) (0, -1, lim + 1)).1 ∧ fi_ τ 109 (ga_ G 17 0) = zI (pk_ (cga8_ A N p) (cco8_ A N p) (cle8_ A N p) (cop8_ A N p v) 1 lim (st_ A N p) 0 (0, 0, 0) (0, -1, lim + 1)).2.1 ∧ fi_ τ 110 (ga_ G 17 0) = zI (pk_ (cga8_ A N p) (cco8_ A N p) (cle8_ A N p) (cop8_ A N p v) 1 lim (st_ A N p) 0 (0, 0, 0) (0, -1, lim + 1)).2.2 := by
  obtain ⟨bd1, bd2, bd3⟩ := cob8_ hPl hst hP hL
  have hx := rc_x h
  have hp := hk.1
  have b13 : ∀ un : Int32, (∀ k, k < N 47 → (aP A 1404 k &&& un = 0 ↔ (decide (v = 0) || !mk9_ A N p k 10) = true)) → ∃ τ, f_X11_chooseParagraphs_b13 c x (some (ga_ G 31 p)) (zI lim) un = some ((), τ) ∧ rc_ ka TXp_ τ x G A N ∧ fq_ (kT8_ G) c τ ∧ (nx_ τ = nx_ c ∧ sl_ τ = sl_ c) ∧ fi_ τ 108 (ga_ G 17 0) = nI (pk_ (cga8_ A N p) (cco8_ A N p) (cle8_ A N p) (cop8_ A N p v) 1 lim (st_ A N p) 0 (0, 0, 0) (0, -1, lim + 1)).1 ∧ fi_ τ 109 (ga_ G 17 0) = zI (pk_ (cga8_ A N p) (cco8_ A N p) (cle8_ A N p) (cop8_ A N p v) 1 lim (st_ A N p) 0 (0, 0, 0) (0, -1, lim + 1)).2.1 ∧ fi_ τ 110 (ga_ G 17 0) = zI (pk_ (cga8_ A N p) (cco8_ A N p) (cle8_ A N p) (cop8_ A N p v) 1 lim (st_ A N p) 0 (0, 0, 0) (0, -1, lim + 1)).2.2 := fun un hun => by
    obtain ⟨F1, Y1, q1, r1, kn1⟩ := k_fillK h hk
    have ne : ∀ {a b : Nat}, a ∈ ([0, 1, 2, 3, 4, 5, 6, 7, 8, 9, 10, 11, 12, 13, 14, 15, 16, 17, 18, 19, 20, 21, 22] : List Nat) → b ∈ ([0, 1, 2, 3, 4, 5, 6, 7, 8, 9, 10, 11, 12, 13, 14, 15, 16, 17, 18, 19, 20, 21, 22] : List Nat) → a ≠ b → ¬ ga_ G a 0 = ga_ G b 0 := fun ha hb hn => sh_ne h.1 (rc_1 h ha) (rc_1 h hb) (Or.inl hn)
    have hf0 : fq_ (kT8_ G) c (kp_ c G F1 (ai_ c (ga_ G 16 0)) Y1) := fq_w (kh_fq h.1.1) (fun _ q => Or.inr q)
    have hn0 : nx_ (kp_ c G F1 (ai_ c (ga_ G 16 0)) Y1) = nx_ c ∧ sl_ (kp_ c G F1 (ai_ c (ga_ G 16 0)) Y1) = sl_ c := ⟨rfl, rfl⟩
    generalize kp_ c G F1 (ai_ c (ga_ G 16 0)) Y1 = τ1 at q1 r1 kn1 hf0 hn0
    have beg := k_chBegin (F := fun d => fi_ τ1 d (ga_ G 17 0)) (W := fun j => ai_ τ1 (ga_ G (18 + j) 0)) r1 (zI lim) 1
    rw [cu_self] at beg
    have hd := cd5_of r1
    have hI0 : of8_ ka x A N p v lim c G 0 (cu_ τ1 G (upd (upd (upd (fun d => fi_ τ1 d (ga_ G 17 0)) 106 (zI lim)) 107 1) 105 0) (fun j => ai_ τ1 (ga_ G (18 + j) 0))) := by
      refine ⟨rc_cu r1, ?_, ⟨?_, ?_, ?_⟩, fun j hj => absurd hj (Nat.not_lt_zero j), fq_tr hf0 (fq_w (cu_fq r1.1.1) (fun _ q => Or.inl q)), hn0⟩
      · have e1 : ∀ {F W} d, fi_ (cu_ τ1 G F W) d (ga_ G 14 0) = fi_ τ1 d (ga_ G 14 0) := fun d => if_neg (ne (by decide) (by decide) (by decide))
        have e2 : ∀ {F W}, ai_ (cu_ τ1 G F W) (ga_ G 15 0) = ai_ τ1 (ga_ G 15 0) := funext fun i => cu_o (ne (by decide) (by decide) (by decide)) (ne (by decide) (by decide) (by decide)) (ne (by decide) (by decide) (by decide)) (ne (by decide) (by decide) (by decide)) (ne (by decide) (by decide) (by decide))
        rw [e2]
        simp only [e1]
        exact kn1
      · rw [cu_fi, upd9_s]; rfl
      · rw [cu_fi, upd9_n (by decide), upd9_n (by decide), upd9_s]
      · rw [cu_fi, upd9_n (by decide), upd9_s]; rfl
    have key : ∃ r, f_X11_chooseParagraphs_b32 fu_ (cu_ τ1 G (upd (upd (upd (fun d => fi_ τ1 d (ga_ G 17 0)) 106 (zI lim)) 107 1) 105 0) (fun j => ai_ τ1 (ga_ G (18 + j) 0))) x (some (ga_ G 31 p)) un (nI 0) = some r ∧ ∃ τ, r = ((), τ) ∧ rc_ ka TXp_ τ x G A N ∧ fq_ (kT8_ G) c τ ∧ (nx_ τ = nx_ c ∧ sl_ τ = sl_ c) ∧ fi_ τ 108 (ga_ G 17 0) = nI (pk_ (cga8_ A N p) (cco8_ A N p) (cle8_ A N p) (cop8_ A N p v) 1 lim (st_ A N p) 0 (0, 0, 0) (0, -1, lim + 1)).1 ∧ fi_ τ 109 (ga_ G 17 0) = zI (pk_ (cga8_ A N p) (cco8_ A N p) (cle8_ A N p) (cop8_ A N p v) 1 lim (st_ A N p) 0 (0, 0, 0) (0, -1, lim + 1)).2.1 ∧ fi_ τ 110 (ga_ G 17 0) = zI (pk_ (cga8_ A N p) (cco8_ A N p) (cle8_ A N p) (cop8_ A N p v) 1 lim (st_ A N p) 0 (0, 0, 0) (0, -1, lim + 1)).2.2 := by
      refine lpe_ (F := fun f (a : TH) k => f_X11_chooseParagraphs_b32 f a x (some (ga_ G 31 p)) un k) (st_ A N p) (fun i τ => of8_ ka x A N p v lim c G i τ) (fun r => ∃ τ, r = ((), τ) ∧ rc_ ka TXp_ τ x G A N ∧ fq_ (kT8_ G) c τ ∧ (nx_ τ = nx_ c ∧ sl_ τ = sl_ c) ∧ fi_ τ 108 (ga_ G 17 0) = nI (pk_ (cga8_ A N p) (cco8_ A N p) (cle8_ A N p) (cop8_ A N p v) 1 lim (st_ A N p) 0 (0, 0, 0) (0, -1, lim + 1)).1 ∧ fi_ τ 109 (ga_ G 17 0) = zI (pk_ (cga8_ A N p) (cco8_ A N p) (cle8_ A N p) (cop8_ A N p v) 1 lim (st_ A N p) 0 (0, 0, 0) (0, -1, lim + 1)).2.1 ∧ fi_ τ 110 (ga_ G 17 0) = zI (pk_ (cga8_ A N p) (cco8_ A N p) (cle8_ A N p) (cop8_ A N p v) 1 lim (st_ A N p) 0 (0, 0, 0) (0, -1, lim + 1)).2.2) (fun f i τ hi hI => k_offOne hPl hst hk hun hi hI f) (fun f τ hI => ?_) (by omega) _ hI0
      obtain ⟨hr, hK, ⟨f5, f6, f7⟩, hw, hf, hn⟩ := hI
      have cw : cw_ (fun d => fi_ τ d (ga_ G 17 0)) (fun j => ai_ τ (ga_ G (18 + j) 0)) (cga8_ A N p) (cco8_ A N p) (cle8_ A N p) (cop8_ A N p v) 1 lim (st_ A N p) := ⟨⟨f5, f6, f7⟩, ⟨hst, hw⟩, bd1, bd2, bd3, by decide, hlim⟩
      obtain ⟨F', W', c1, c2, c3, c4⟩ := k_choose hr cw
      rw [cu_self] at c1
      refine ⟨((), cu_ τ G F' W'), ?_, cu_ τ G F' W', rfl, rc_cu hr, fq_tr hf (fq_w (cu_fq hr.1.1) (fun _ q => Or.inl q)), hn, (cu_fi 108).trans c2, (cu_fi 109).trans c3, (cu_fi 110).trans c4⟩
      show f_X11_chooseParagraphs_b32 (f + 1) τ x (some (ga_ G 31 p)) un (nI (st_ A N p)) = _
      rw [f_X11_chooseParagraphs_b32, nn_s, gt_t (k_per hr hp).1, lt_e, (k_story hr hp).1, if_pos (Int32.le_refl _)]
      unfold f_X11_chooseParagraphs_b126
      rw [gt_t (rc_x hr), lt_e, (rc_r1210 hr).1, nn_s, gt_t (rc_r1210 hr).2, c1, bd_s]
    obtain ⟨_, e, τ, rfl, w⟩ := key
    refine ⟨τ, ?_, w⟩
    unfold f_X11_chooseParagraphs_b13
    rw [gt_t hx, q1, bd_s, lt_e, (rc_r1210 r1).1, nn_s, gt_t (rc_r1210 r1).2, beg, bd_s]
    exact e
  unfold f_X11_chooseParagraphs
  by_cases z : v = 0
  · rw [if_pos z]
    refine b13 0 (fun k hkN => ?_)
    rw [decide_eq_true z, Bool.true_or]
    exact ⟨fun _ => rfl, fun _ => Int32.and_zero⟩
  · rw [if_neg z, gt_t hx, k_unsure h hk, bd_s]
    refine b13 _ (fun k hkN => ?_)
    obtain ⟨zz, z1, z2⟩ := (hP k hkN).2.2.2
    rw [mk_un z2 z1, decide_eq_false z, Bool.false_or]
    cases mk9_ A N p k 10 <;> decide
end KCP
