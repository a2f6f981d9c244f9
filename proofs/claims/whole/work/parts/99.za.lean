/-! A TEXT IS READ: what the class's reader answers. Written by wip/b/mk99za.py. -/
/-- bytes as the class sees them -/
theorem sb9_w {v : Int32} (h : v.toInt8.toInt32 = v) : v = sb9_ (v &&& 255).toNatClampNeg := by
  have key : ∀ c, c < 256 → (Int8.ofBitVec (BitVec.ofNat 8 c)).toInt32 = sb9_ ((Int8.ofBitVec (BitVec.ofNat 8 c)).toInt32 &&& 255).toNatClampNeg := by decide +kernel
  have e : v.toInt8 = Int8.ofBitVec (BitVec.ofNat 8 v.toInt8.toBitVec.toNat) := by
    rw [BitVec.ofNat_toNat]
    simp
  have k := key v.toInt8.toBitVec.toNat v.toInt8.toBitVec.isLt
  rw [← e, h] at k
  exact k
theorem bt9_of {n : Nat} {B : Nat → Int32} (hn : n ≤ 400) (h : ∀ j, j < 400 → (B j).toInt8.toInt32 = B j) : bt9_ (w9_ n B) n B := by
  have hw := w9_wn (B := B) hn
  refine ⟨fun k hk => ⟨hw.2.1 k hk, ?_⟩, hw.1, hn⟩
  show B k = sb9_ (if k < n then _ else _)
  rw [if_pos hk]
  exact sb9_w (h k (by omega))
section RT9
variable {σ : TH} {R T S K : Nat} {r : Bool} {n : Nat} {w : Nat → Nat}
/-- a fault -/
theorem k_readF (hS : hS_ σ R T S K) (hb : bt9_ w n (ai_ σ T)) (v : Int32) (hv : v = if r = true then 1 else 0) {e : FT} (he : rN_ r w n (m0_ r) 0 = .inl e) : ∃ F' X' Y', f_X6_read σ R (nI n) v = some (none, kh_ σ R S K F' X' Y') ∧ F' 701 = 0 ∧ F' 702 = nI e.1 ∧ F' 703 = nI e.2 ∧ e.1 ≠ 0 := by
  obtain ⟨F1, X1, Y1, a1, q1, h1⟩ := k_read0 (r := r) hS hb v hv
  rw [he] at h1
  obtain ⟨o1, o2, o3, o4⟩ := h1
  have e2 : upd F1 701 0 702 = nI e.1 := o1
  refine ⟨upd F1 701 0, X1, Y1, ?_, rfl, e2, o2, by omega⟩
  rw [q1]
  unfold f_X6_read_b110 f_X6_read_b152
  rw [gt_t (k8 hS), lt_e, kh_si, lt_e, kh_fi, e2, if_neg (nI_ne0 o3 (by omega))]
/-- a text -/
theorem k_readT (hw : wf_ σ) (hS : hS_ σ R T S K) (hb : bt9_ w n (ai_ σ T)) (v : Int32) (hv : v = if r = true then 1 else 0) {m' : MM} (he : rN_ r w n (m0_ r) 0 = .inr m') : ∃ τ, f_X6_read σ R (nI n) v = some (some (nx_ σ), τ) ∧ fq_ (fun q => q = R ∨ q = S ∨ q = K) σ τ ∧ (nx_ τ = nx_ σ + 2 ∧ sl_ τ ≤ sl_ σ + 900) ∧ (kd_ τ (nx_ σ) = 11 ∧ fr_ τ 1000 (nx_ σ) = some (nx_ σ + 1) ∧ fi_ τ 1001 (nx_ σ) = (mc_ m').2.2 ∧ fi_ τ 1002 (nx_ σ) = nI (mc_ m').1) ∧ (kd_ τ (nx_ σ + 1) = 20 ∧ ln_ τ (nx_ σ + 1) = (mS_ m').length ∧ (mS_ m').length ≤ 801 ∧ (∀ i, i < (mS_ m').length → ai_ τ (nx_ σ + 1) i = se9_ ((mS_ m').getD i (0, 0))) ∧ ∀ s, s ∈ mS_ m' → sk9_ r s) ∧ (fi_ τ 701 R = 0 ∧ fi_ τ 702 R = 0 ∧ ∀ d, fr_ τ d R = fr_ σ d R) ∧ ∃ z, z < 1024 ∧ (mc_ m').2.2 = nI z := by
  obtain ⟨F1, X1, Y1, a1, q1, h1⟩ := k_read0 (r := r) hS hb v hv
  rw [he] at h1
  have hP : PR_ r n m' a1 801 F1 X1 Y1 := h1
  obtain ⟨⟨p1, p2, p3, p4, p5⟩, -, ⟨c1, c2, c3⟩, ⟨d1, d2⟩, ⟨-, -, -, -, -, -, kz⟩, ⟨f1, f2⟩, -⟩ := hP
  have e2 : upd F1 701 0 702 = 0 := p1
  have e6 : upd F1 701 0 706 = nI (mS_ m').length := p2
  have e16 : upd F1 701 0 716 = nI (mc_ m').1 := c1
  have e18 : upd F1 701 0 718 = (mc_ m').2.2 := c3
  have Rn : R < nx_ σ := kd_ltn hw hS.1 (by decide)
  have Sn : S < nx_ σ := kd_ltn hw hS.2.2.2.1.1 (by decide)
  obtain ⟨H, hH⟩ : ∃ H, H = kh_ σ R S K (upd F1 701 0) X1 Y1 := ⟨_, rfl⟩
  have hwH : wf_ H := by rw [hH]; exact hw
  have nH : nx_ H = nx_ σ := by rw [hH]; rfl
  have sH : sl_ H = sl_ σ := by rw [hH]; rfl
  have fH : fq_ (fun q => q = R ∨ q = S ∨ q = K) σ H := by rw [hH]; exact kh_fq hw
  have kR : kd_ H R = 8 := by rw [hH]; exact hS.1
  have kS : kd_ H S = 20 := by rw [hH]; exact hS.2.2.2.1.1
  have lS : ln_ H S = 1024 := by rw [hH]; exact hS.2.2.2.1.2
  have rS : fr_ H 704 R = some S := by rw [hH]; exact hS.2.1.2.1
  have frH : ∀ d, fr_ H d R = fr_ σ d R := fun d => by rw [hH]; rfl
  have g1 : fi_ H 701 R = 0 := by rw [hH]; exact kh_fi 701
  have g2 : fi_ H 702 R = 0 := by rw [hH]; exact (kh_fi 702).trans e2
  have g6 : fi_ H 706 R = nI (mS_ m').length := by rw [hH]; exact (kh_fi 706).trans e6
  have g16 : fi_ H 716 R = nI (mc_ m').1 := by rw [hH]; exact (kh_fi 716).trans e16
  have g18 : fi_ H 718 R = (mc_ m').2.2 := by rw [hH]; exact (kh_fi 718).trans e18
  have gX : ∀ i, ai_ H S i = X1 i := fun i => by rw [hH]; exact kh_S i
  have b1 : f_X6_read σ R (nI n) v = f_X6_read_b110 (kh_ σ R S K F1 X1 Y1) R := q1
  have sH2 : si_ (kh_ σ R S K F1 X1 Y1) 701 R 0 = H := by rw [hH]; exact kh_si 701 0
  rw [b1]
  unfold f_X6_read_b110 f_X6_read_b152
  rw [gt_t (k8 hS), lt_e, sH2, lt_e, g2, if_pos rfl]
  obtain ⟨l, hl⟩ : ∃ l, l = (mS_ m').length := ⟨_, rfl⟩
  rw [← hl] at d1 f1 g6 ⊢
  have hnH : nx_ H ≠ R := by omega
  have k1 : kd_ H (nx_ H) = 0 := wf_0 hwH (Nat.le_refl _)
  have w9 : wf_ (nw_ H 11 0 3) := wf_nw hwH (by decide)
  have kd9 : ∀ q, q ≠ nx_ H → kd_ (nw_ H 11 0 3) q = kd_ H q := fun q h => kd_nwn h
  have fr9 : fr_ (nw_ H 11 0 3) 704 R = some S := (fr_nwn (by omega)).trans rS
  have fi9 : ∀ d, fi_ (nw_ H 11 0 3) d R = fi_ H d R := fun d => fi_nwn (by omega)
  have kS9 : kd_ (nw_ H 11 0 3) S = 20 := (kd_nwn (by omega)).trans kS
  have lS9 : ln_ (nw_ H 11 0 3) S = 1024 := (ln_nwn (by omega)).trans lS
  have n9 : nx_ (nw_ H 11 0 3) = nx_ H + 1 := rfl
  have k9 : kd_ (nw_ H 11 0 3) (nx_ H + 1) = 0 := wf_0 w9 (Nat.le_refl _)
  have ne1 : ¬ nI l = Int32.ofNat 1024 := fun q => by
    have := (iq9_ (b := 1024) (B := 1024) rfl (by omega) (by decide)).mp q
    omega
  have lt1 : nI l < Int32.ofNat 1024 := nI_lt (b := 1024) (by omega) (by decide)
  have l4 : ln_ (nw_ (nw_ H 11 0 3) 20 l l) S = 1024 := (ln_nwn (by rw [n9]; omega)).trans lS9
  have l4' : ln_ (nw_ (nw_ H 11 0 3) 20 l l) (nx_ H + 1) = l := ln_nw _ _ _ _
  have cp : f_J7_copyOf_59c91 (nw_ H 11 0 3) (some S) (nI l) = some (some (nx_ H + 1), sy_ (nw_ (nw_ H 11 0 3) 20 l l) S (nx_ H + 1) 0 0 l) := by
    have z0 : (0 : Int32).toNatClampNeg = 0 := by decide
    have cl : (nI l).toNatClampNeg = l := nI_clamp (by omega)
    unfold f_J7_copyOf_59c91
    rw [nn_s, gt_t kS9, lt_e, lS9, if_neg ne1, cl, n9, gt_t ⟨nI_pos (by omega), by omega, k9⟩, lt_e, lt_e, lt_e, l4, if_pos lt1, cl, z0, l4', gt_t ⟨by decide, by decide, nI_pos (by omega), by omega, by omega⟩, lt_e]
  obtain ⟨Q, hQ⟩ : ∃ Q, Q = sy_ (nw_ (nw_ H 11 0 3) 20 l l) S (nx_ H + 1) 0 0 l := ⟨_, rfl⟩
  rw [← hQ] at cp
  have fQ : ∀ d, fi_ Q d R = fi_ H d R := fun d => by
    rw [hQ]
    show fi_ (nw_ (nw_ H 11 0 3) 20 l l) d R = _
    exact (fi_nwn (by rw [n9]; omega)).trans (fi9 d)
  have rQ : ∀ d, fr_ Q d R = fr_ H d R := fun d => by
    rw [hQ]
    show fr_ (nw_ (nw_ H 11 0 3) 20 l l) d R = _
    exact (fr_nwn (by rw [n9]; omega)).trans (fr_nwn (by omega))
  have kQ : kd_ Q (nx_ H) = 11 := by
    rw [hQ]
    show kd_ (nw_ (nw_ H 11 0 3) 20 l l) (nx_ H) = 11
    exact (kd_nwn (by rw [n9]; omega)).trans (kd_nw _ _ _ _)
  have kQ1 : kd_ Q (nx_ H + 1) = 20 := by
    rw [hQ]
    exact kd_nw (nw_ H 11 0 3) 20 l l
  have lQ1 : ln_ Q (nx_ H + 1) = l := by
    rw [hQ]
    exact l4'
  have nQ : nx_ Q = nx_ H + 2 := by rw [hQ]; rfl
  have sQ : sl_ Q = sl_ H + 3 + l := by rw [hQ]; rfl
  have aQ : ∀ i, i < l → ai_ Q (nx_ H + 1) i = X1 i := fun i hi => by
    rw [hQ]
    show (if nx_ H + 1 = nx_ H + 1 then va_cpy _ _ 0 0 l i else _) = _
    rw [if_pos rfl, pk_cpy_in (Nat.zero_le _) (by omega), ai_nwn (by rw [n9]; omega), ai_nwn (by omega)]
    rw [show 0 + (i - 0) = i by omega]
    exact gX i
  have fqQ : fq_ (fun q => q = R ∨ q = S ∨ q = K) σ Q := by
    have a1 : fq_ (fun q => q = R ∨ q = S ∨ q = K) σ (nw_ (nw_ H 11 0 3) 20 l l) := fq_nwn (fq_nwn fH (by decide)) (by decide)
    rw [hQ]
    refine ⟨a1.1, a1.2.1, fun q hq hT => ?_⟩
    rw [← a1.2.2 q hq hT]
    have e : ai_ (sy_ (nw_ (nw_ H 11 0 3) 20 l l) S (nx_ H + 1) 0 0 l) q = ai_ (nw_ (nw_ H 11 0 3) 20 l l) q := funext fun i => if_neg (by omega)
    unfold ce_
    rw [e]
    rfl
  rw [gt_t k1, lt_e, lt_e, lt_e, fr9, lt_e, fi9, g6, cp, bd_s, lt_e, lt_e, fQ 718, g18, fQ 716, g16]
  unfold f_X9_init
  rw [gt_t kQ, lt_e, lt_e, lt_e, bd_s]
  rw [← nH]
  refine ⟨_, rfl, fq_sin (fq_sin (fq_srn fqQ (by omega)) (by omega)) (by omega), ⟨nQ, ?_⟩, ⟨kQ, ?_, ?_, ?_⟩, ⟨kQ1, lQ1, by omega, fun i hi => ?_, f2⟩, ⟨?_, ?_, fun d => ?_⟩, kz⟩
  · show sl_ Q ≤ sl_ σ + 900
    omega
  · show up2_ (fr_ Q) 1000 (nx_ H) (some (nx_ H + 1)) 1000 (nx_ H) = _
    exact up2_s
  · rw [fi_si, up2_c (by decide), fi_si, up2_s]
  · rw [fi_si, up2_s]
  · exact (aQ i hi).trans (d1 i hi)
  · rw [fi_si, up2_ne (fun z => by omega), fi_si, up2_ne (fun z => by omega)]
    exact (fQ 701).trans g1
  · rw [fi_si, up2_ne (fun z => by omega), fi_si, up2_ne (fun z => by omega)]
    exact (fQ 702).trans g2
  · show up2_ (fr_ Q) 1000 (nx_ H) (some (nx_ H + 1)) d R = _
    rw [up2_ne (fun z => by omega), rQ, frH]
end RT9
