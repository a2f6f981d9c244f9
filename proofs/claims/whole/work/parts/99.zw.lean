/-! CALLS: the class chooses paragraphs. Written by wip/b/mk99zw.py. -/
section KCP
variable {ka : Nat → Nat} {x : Nat} {c : TH} {G : GH} {A : AS} {N : Nat → Nat}
def kT8_ (G : GH) (q : Nat) : Prop := cq5_ G q ∨ q = ga_ G 14 0 ∨ q = ga_ G 16 0 ∨ q = ga_ G 15 0
/-- offered so far -/
def of8_ (ka : Nat → Nat) (x : Nat) (A : AS) (N : Nat → Nat) (p : Nat) (v : Int32) (lim : Int) (c : TH) (G : GH) (i : Nat) (τ : TH) : Prop := rc_ ka TXp_ τ x G A N ∧ KN_ (EP_ A N p) false (fun d => fi_ τ d (ga_ G 14 0)) (ai_ τ (ga_ G 15 0)) ∧ (fi_ τ 105 (ga_ G 17 0) = nI i ∧ fi_ τ 106 (ga_ G 17 0) = zI lim ∧ fi_ τ 107 (ga_ G 17 0) = zI 1) ∧ (∀ j, j < i → ai_ τ (ga_ G 18 0) j = zI (cga8_ A N p j) ∧ ai_ τ (ga_ G 19 0) j = zI (cco8_ A N p j) ∧ ai_ τ (ga_ G 20 0) j = zI (cle8_ A N p j) ∧ ai_ τ (ga_ G 21 0) j = bi_ (cop8_ A N p v j = true)) ∧ fq_ (kT8_ G) c τ ∧ (nx_ τ = nx_ c ∧ sl_ τ = sl_ c)
theorem k_offOne {p i : Nat} {v un : Int32} {lim : Int} {τ : TH} (hPl : ∀ k, k < N 47 → aP A 1401 k = nI (pl_ A k)) (hst : st_ A N p ≤ 14) (hk : kf_ c x G A N p) (hun : ∀ k, k < N 47 → (aP A 1404 k &&& un = 0 ↔ (decide (v = 0) || !mk9_ A N p k 10) = true)) (hi : i < st_ A N p) (hI : of8_ ka x A N p v lim c G i τ) (f : Nat) : ∃ τ2, f_X11_chooseParagraphs_b32 (f + 1) τ x (some (ga_ G 31 p)) un (nI i) = f_X11_chooseParagraphs_b32 f τ2 x (some (ga_ G 31 p)) un (nI (i + 1)) ∧ of8_ ka x A N p v lim c G (i + 1) τ2 := by
  obtain ⟨hr, hK, ⟨f5, f6, f7⟩, hw, hf, hn⟩ := hI
  obtain ⟨hp, hkr⟩ := hk
  have hk : kf_ τ x G A N p := ⟨hp, hkr⟩
  obtain ⟨kf, k1, k2, k3⟩ := kx9_s hPl hst hi
  obtain ⟨k, hkd⟩ : ∃ k, k = kx9_ A N p i := ⟨_, rfl⟩
  rw [← hkd] at kf k1 k2 k3
  obtain ⟨s1, ⟨s2, s3, s4⟩, ⟨s6, s7, s8⟩, ⟨s9, s10, s11⟩, s5⟩ := k_story hr hp
  obtain ⟨pk, -⟩ := k_per hr hp
  obtain ⟨w1, w2, w3⟩ := s5 k k1 k2
  rw [k3] at w1 w2 w3
  obtain ⟨t1, t2, t3, t4, t5, t6, t7⟩ := k_text hr k1
  obtain ⟨r, F', X', q1, q2, q3⟩ := k_prn hr hk k1 hK false 0 rfl
  have hx := rc_x hr
  have g17 : ga_ G 17 0 ≠ ga_ G 14 0 := sh_ne hr.1 (rc_1 hr (by decide)) (rc_1 hr (by decide)) (Or.inl (by decide))
  have ne : ∀ {a b : Nat}, a ∈ ([0, 1, 2, 3, 4, 5, 6, 7, 8, 9, 10, 11, 12, 13, 14, 15, 16, 17, 18, 19, 20, 21, 22] : List Nat) → b ∈ ([0, 1, 2, 3, 4, 5, 6, 7, 8, 9, 10, 11, 12, 13, 14, 15, 16, 17, 18, 19, 20, 21, 22] : List Nat) → a ≠ b → ¬ ga_ G a 0 = ga_ G b 0 := fun ha hb hn => sh_ne hr.1 (rc_1 hr ha) (rc_1 hr hb) (Or.inl hn)
  have X0 : X' = ai_ τ (ga_ G 16 0) := q2.2.2.2 rfl
  subst X0
  obtain ⟨τ1, hτ1⟩ : ∃ τ1, τ1 = kp_ τ G F' (ai_ τ (ga_ G 16 0)) (ai_ τ (ga_ G 15 0)) := ⟨_, rfl⟩
  have hr1 : rc_ ka TXp_ τ1 x G A N := by rw [hτ1]; exact rc_kp hr (rc_o28 hr)
  have fi1 : ∀ d q, q ≠ ga_ G 14 0 → fi_ τ1 d q = fi_ τ d q := fun d q hq => by rw [hτ1]; exact if_neg hq
  have f505 : fi_ τ1 505 (ga_ G 14 0) = nI (ot9_ A N p k).length := by rw [hτ1]; exact (kh_fi 505).trans q2.1
  have fr1 : fr_ τ1 = fr_ τ := by rw [hτ1]; rfl
  have kd1 : kd_ τ1 = kd_ τ := by rw [hτ1]; rfl
  have ai1 : ∀ q, q ≠ ga_ G 16 0 → q ≠ ga_ G 15 0 → ai_ τ1 q = ai_ τ q := fun q h1 h2 => by
    rw [hτ1]
    exact funext fun i => (if_neg h1).trans (if_neg h2)
  have ai5 : ai_ τ1 (ga_ G 15 0) = ai_ τ (ga_ G 15 0) := by
    rw [hτ1]
    exact funext fun i => (if_neg (ne (by decide) (by decide) (by decide))).trans (if_pos rfl)
  have hn1 : nx_ τ1 = nx_ τ ∧ sl_ τ1 = sl_ τ := by rw [hτ1]; exact ⟨rfl, rfl⟩
  have hf1 : fq_ (kT8_ G) c τ1 := by
    rw [hτ1]
    exact fq_tr hf (fq_w (kh_fq hr.1.1) (fun _ q => Or.inr q))
  have hK1 : KN_ (EP_ A N p) false (fun d => fi_ τ1 d (ga_ G 14 0)) (ai_ τ1 (ga_ G 15 0)) := by
    rw [ai5]
    have e : ∀ d, d < 505 → fi_ τ1 d (ga_ G 14 0) = fi_ τ d (ga_ G 14 0) := fun d hd => by
      rw [hτ1]
      exact (kh_fi d).trans (q3 d hd)
    unfold KN_ at hK ⊢
    rw [e 502 (by decide), e 503 (by decide), e 504 (by decide)]
    exact hK
  rw [← hτ1] at q1
  obtain ⟨s1', ⟨s2', s3', s4'⟩, ⟨s6', s7', s8'⟩, ⟨s9', s10', s11'⟩, s5'⟩ := k_story hr1 hp
  obtain ⟨-, w2', w3'⟩ := s5' k k1 k2
  rw [k3] at w2' w3'
  have t4' := (k_text hr1 k1).2.2.2.1
  have r10 := rc_r1210 hr1
  have r9 := rc_r1209 hr
  have r9' := rc_r1209 hr1
  have ix := ix9_ (k := i) (M := 14) (by omega) (by omega)
  have cl : (nI i).toNatClampNeg = i := nI_clamp (by omega)
  have g14 : ¬ (14 : Int32) ≤ nI i := nI_ge (b := 14) (by omega) (by decide)
  have ec : nI (ot9_ A N p k).length = zI (cco8_ A N p i) := by unfold cco8_; rw [if_pos hi, ← hkd, zI_nI]
  have eg : aP A 1402 k = zI (cga8_ A N p i) := by unfold cga8_; rw [if_pos hi, ← hkd, zI_to]
  have el : aP A 1403 k = zI (cle8_ A N p i) := by unfold cle8_; rw [if_pos hi, ← hkd, zI_to]
  have eo : (aP A 1404 k &&& un = 0) ↔ cop8_ A N p v i = true := by unfold cop8_; rw [← hkd]; exact hun k k1
  have off := k_offer (F := fun d => fi_ τ1 d (ga_ G 17 0)) (W := fun j => ai_ τ1 (ga_ G (18 + j) 0)) hr1 (k := i) ((fi1 105 _ g17).trans f5) (by omega) (zI (cga8_ A N p i)) (zI (cco8_ A N p i)) (zI (cle8_ A N p i)) (bi_ (cop8_ A N p v i = true)) bi_01
  rw [cu_self] at off
  have b117 : ∀ t0, t0 = bi_ (cop8_ A N p v i = true) → f_X11_chooseParagraphs_b117 (f_X11_chooseParagraphs_b32 f) τ1 x (some (ga_ G 31 p)) un (nI i) t0 (aP A 1403 k) (nI (ot9_ A N p k).length) (aP A 1402 k) (some (ga_ G 17 0)) = f_X11_chooseParagraphs_b32 f _ x (some (ga_ G 31 p)) un (nI (i + 1)) := fun t0 e => by
    unfold f_X11_chooseParagraphs_b117 f_X11_chooseParagraphs_b120
    rw [nn_s, gt_t (cu_k hr1).1, ec, eg, el, e, off, bd_s, lt_e, nI_1]
  refine ⟨_, ?_, ?_⟩
  rotate_left
  · have hd := cd5_of hr1
    refine ⟨rc_cu hr1, ?_, ⟨?_, ?_, ?_⟩, fun j hj => ?_, fq_tr hf1 (fq_w (cu_fq hr1.1.1) (fun _ q => Or.inl q)), ⟨hn1.1.trans hn.1, hn1.2.trans hn.2⟩⟩
    · have e1 : ∀ {F W} d, fi_ (cu_ τ1 G F W) d (ga_ G 14 0) = fi_ τ1 d (ga_ G 14 0) := fun d => if_neg (fun z => g17 z.symm)
      have e2 : ∀ {F W}, ai_ (cu_ τ1 G F W) (ga_ G 15 0) = ai_ τ1 (ga_ G 15 0) := funext fun i => cu_o (ne (by decide) (by decide) (by decide)) (ne (by decide) (by decide) (by decide)) (ne (by decide) (by decide) (by decide)) (ne (by decide) (by decide) (by decide)) (ne (by decide) (by decide) (by decide))
      rw [e2]
      simp only [e1]
      exact hK1
    · rw [cu_fi, upd9_s]
    · rw [cu_fi, upd9_n (by decide), fi1 106 _ g17]; exact f6
    · rw [cu_fi, upd9_n (by decide), fi1 107 _ g17]; exact f7
    · rw [cu_a0 hd, cu_a1 hd, cu_a2 hd, cu_a3 hd]
      by_cases z : j = i
      · subst z
        rw [up2_c (by decide), up2_c (by decide), up2_c (by decide), up2_s, up2_c (by decide), up2_c (by decide), up2_s, up2_c (by decide), up2_s, up2_s]
        exact ⟨rfl, rfl, rfl, rfl⟩
      · have hj2 : j < i := by omega
        obtain ⟨h0, h1, h2, h3⟩ := hw j hj2
        rw [up2_c (by decide), up2_c (by decide), up2_c (by decide), up2_n z, up2_c (by decide), up2_c (by decide), up2_n z, up2_c (by decide), up2_c (by decide), up2_n z, up2_c (by decide), up2_c (by decide), up2_n z, up2_c (by decide), up2_c (by decide), up2_c (by decide)]
        refine ⟨?_, ?_, ?_, ?_⟩
        · exact (congrFun (ai1 (ga_ G 18 0) (ne (by decide) (by decide) (by decide)) (ne (by decide) (by decide) (by decide))) j).trans h0
        · exact (congrFun (ai1 (ga_ G 19 0) (ne (by decide) (by decide) (by decide)) (ne (by decide) (by decide) (by decide))) j).trans h1
        · exact (congrFun (ai1 (ga_ G 20 0) (ne (by decide) (by decide) (by decide)) (ne (by decide) (by decide) (by decide))) j).trans h2
        · exact (congrFun (ai1 (ga_ G 21 0) (ne (by decide) (by decide) (by decide)) (ne (by decide) (by decide) (by decide))) j).trans h3
  · rw [f_X11_chooseParagraphs_b32, nn_s, gt_t pk, lt_e, s1, if_neg (nI_ge hi (by omega)), if_neg g14, lt_e, s2, nn_s, gt_t s3, cl, s4, gt_t ix, lt_e, w1, oc_s, gt_t hx, lt_e, r9.1, gt_t t1, lt_e, t3, nn_s, gt_t r9.2, q1, bd_s]
    rw [lt_e, r10.1, lt_e, s6', nn_s, gt_t s7', s8', gt_t ix, lt_e, w2', lt_e, r9'.1, nn_s, gt_t r9'.2, lt_e, f505, lt_e, s9', nn_s, gt_t s10', s11', gt_t ix, lt_e, w3', lt_e, t4']
    by_cases z : aP A 1404 k &&& un = 0
    · rw [if_pos z]
      exact b117 1 (by rw [bi_t (eo.mp z)])
    · rw [if_neg z]
      exact b117 0 (by rw [bi_f (fun q => z (eo.mpr q))])
end KCP
