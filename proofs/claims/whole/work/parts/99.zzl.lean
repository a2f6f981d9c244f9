/-! THE CONSTRUCTORS: what is made at the start. Written by wip/b/mk99zzl.py. -/
/-- from c to s: n new cells behind nx_ c; kinds K, lengths L, whole numbers F, references R; arrays of zeros -/
def nv_ (c s : TH) (n w : Nat) (K L : Nat → Nat) (F : Nat → Nat → Int32) (R : Nat → Nat → Option Nat) : Prop := fq_ (fun _ => False) c s ∧ (nx_ s = nx_ c + n ∧ sl_ s = sl_ c + w) ∧ ∀ j, j < n → (kd_ s (nx_ c + j) = K j ∧ ln_ s (nx_ c + j) = L j) ∧ (∀ q, fi_ s q (nx_ c + j) = F j q) ∧ (∀ q, fr_ s q (nx_ c + j) = R j q) ∧ ∀ i, ai_ s (nx_ c + j) i = 0
section NQ
variable {c s : TH} {n w : Nat} {K L : Nat → Nat} {F : Nat → Nat → Int32} {R : Nat → Nat → Option Nat}
theorem nv_0 (hw : wf_ c) (k w : Nat) (hk : k ≠ 0) : nv_ c (nw_ c k 0 w) 1 w (fun _ => k) (fun _ => 0) (fun _ _ => 0) (fun _ _ => none) := ⟨fq_nw hw hk, ⟨rfl, rfl⟩, fun j hj => by
  have : j = 0 := by omega
  subst this
  exact ⟨⟨kd_nw c k 0 w, ln_nw c k 0 w⟩, fun _ => fi_nw0, fun _ => fr_nw0, fun _ => ai_nw0⟩⟩
theorem nv_z (h : nv_ c s n w K L F R) : kd_ s (nx_ s) = 0 := wf_0 h.1.2.1 (Nat.le_refl _)
theorem nv_nx (h : nv_ c s n w K L F R) : nx_ s = nx_ c + n := h.2.1.1
theorem nv_kd {a j k : Nat} (h : nv_ c s n w K L F R) (ha : a = nx_ c + j) (hj : j < n) (hk : K j = k) : kd_ s a = k := by
  rw [ha, (h.2.2 j hj).1.1, hk]
theorem nv_fr {a j : Nat} (h : nv_ c s n w K L F R) (ha : a = nx_ c + j) (hj : j < n) (q : Nat) : fr_ s q a = R j q := by
  rw [ha]
  exact (h.2.2 j hj).2.2.1 q
theorem nv_nw (h : nv_ c s n w K L F R) (k l v : Nat) (hk : k ≠ 0) : nv_ c (nw_ s k l v) (n + 1) (w + v) (fun j => if j = n then k else K j) (fun j => if j = n then l else L j) (fun j q => if j = n then 0 else F j q) (fun j q => if j = n then none else R j q) := by
  obtain ⟨h1, ⟨h2, h3⟩, h4⟩ := h
  refine ⟨fq_nwn h1 hk, ⟨?_, ?_⟩, fun j hj => ?_⟩
  · show nx_ s + 1 = _
    omega
  · show sl_ s + v = _
    omega
  · by_cases e : j = n
    · subst e
      rw [show nx_ c + j = nx_ s from h2.symm]
      dsimp only
      rw [if_pos rfl, if_pos rfl]
      exact ⟨⟨kd_nw s k l v, ln_nw s k l v⟩, fun q => by rw [if_pos rfl]; exact fi_nw0, fun q => by rw [if_pos rfl]; exact fr_nw0, fun _ => ai_nw0⟩
    · have ne : nx_ c + j ≠ nx_ s := by omega
      obtain ⟨⟨p1, p2⟩, p3, p4, p5⟩ := h4 j (by omega)
      dsimp only
      rw [if_neg e, if_neg e]
      exact ⟨⟨by rw [kd_nwn ne]; exact p1, by rw [ln_nwn ne]; exact p2⟩, fun q => by rw [if_neg e, fi_nwn ne]; exact p3 q, fun q => by rw [if_neg e, fr_nwn ne]; exact p4 q, fun i => by rw [ai_nwn ne]; exact p5 i⟩
theorem nv_si {a j : Nat} (h : nv_ c s n w K L F R) (ha : a = nx_ c + j) (hj : j < n) (f : Nat) (v : Int32) : nv_ c (si_ s f a v) n w K L (fun i q => if i = j ∧ q = f then v else F i q) R := by
  obtain ⟨h1, h2, h4⟩ := h
  refine ⟨fq_sin h1 (by omega), h2, fun i hi => ?_⟩
  obtain ⟨p1, p3, p4, p5⟩ := h4 i hi
  refine ⟨p1, fun q => ?_, p4, p5⟩
  show up2_ (fi_ s) f a v q (nx_ c + i) = _
  dsimp only
  by_cases e : i = j ∧ q = f
  · obtain ⟨rfl, rfl⟩ := e
    rw [ha, up2_s, if_pos ⟨rfl, rfl⟩]
  · rw [if_neg e, up2_ne (fun z => e ⟨by omega, z.1⟩)]
    exact p3 q
theorem nv_sr {a j : Nat} (h : nv_ c s n w K L F R) (ha : a = nx_ c + j) (hj : j < n) (f : Nat) (v : Option Nat) : nv_ c (sr_ s f a v) n w K L F (fun i q => if i = j ∧ q = f then v else R i q) := by
  obtain ⟨h1, h2, h4⟩ := h
  refine ⟨fq_srn h1 (by omega), h2, fun i hi => ?_⟩
  obtain ⟨p1, p3, p4, p5⟩ := h4 i hi
  refine ⟨p1, p3, fun q => ?_, p5⟩
  show up2_ (fr_ s) f a v q (nx_ c + i) = _
  dsimp only
  by_cases e : i = j ∧ q = f
  · obtain ⟨rfl, rfl⟩ := e
    rw [ha, up2_s, if_pos ⟨rfl, rfl⟩]
  · rw [if_neg e, up2_ne (fun z => e ⟨by omega, z.1⟩)]
    exact p4 q
end NQ
/-- where the reference's arrays stand behind it -/
def offM_ (j : Nat) : Nat := MA.idxOf j + 1
set_option maxHeartbeats 8000000 in
set_option maxRecDepth 100000 in
theorem mk_refer {c : TH} (hw : wf_ c) : ∃ s, f_X15_init (nw_ c 17 0 88) (nx_ c) = some ((), s) ∧ fq_ (fun _ => False) c s ∧ (nx_ s = nx_ c + 49 ∧ sl_ s = sl_ c + 6918) ∧ kd_ s (nx_ c) = 17 ∧ (∀ j, j ∈ MA → (kd_ s (nx_ c + offM_ j) = KM j ∧ ln_ s (nx_ c + offM_ j) = LM j) ∧ fr_ s (1600 + j) (nx_ c) = some (nx_ c + offM_ j) ∧ ∀ i, ai_ s (nx_ c + offM_ j) i = if j = 18 ∧ i < 10 then 365 else if j = 19 ∧ i < 300 then -1 else 0) ∧ (∀ q, fi_ s q (nx_ c) = if q = 1602 ∨ q = 1656 ∨ q = 1657 ∨ q = 1687 then -1 else 0) := by
  have h := nv_0 hw 17 88 (by decide)
  unfold f_X15_init
  generalize nw_ c 17 0 88 = s at h ⊢
  rw [gt_t (show kd_ s (nx_ c) = 17 from nv_kd (j := 0) h rfl (by decide) rfl)]
  rw [lt_e]
  replace h := nv_si (a := nx_ c) (j := 0) h rfl (by decide) 1602 (-1)
  generalize si_ s 1602 (nx_ c) (-1) = s at h ⊢
  rw [gt_t ⟨by decide, by decide, nv_z h⟩, lt_e, lt_e]
  (try rw [show (6 : Int32).toNatClampNeg = 6 from by decide])
  rw [nv_nx h]
  replace h := nv_nw h 20 6 6 (by decide)
  generalize nw_ s 20 6 6 = s at h ⊢
  rw [lt_e]
  replace h := nv_sr (a := nx_ c) (j := 0) h rfl (by decide) 1607 (some (nx_ c + 1))
  generalize sr_ s 1607 (nx_ c) (some (nx_ c + 1)) = s at h ⊢
  rw [gt_t ⟨by decide, by decide, nv_z h⟩, lt_e, lt_e]
  (try rw [show (30 : Int32).toNatClampNeg = 30 from by decide])
  rw [nv_nx h]
  replace h := nv_nw h 20 30 30 (by decide)
  generalize nw_ s 20 30 30 = s at h ⊢
  rw [lt_e]
  replace h := nv_sr (a := nx_ c) (j := 0) h rfl (by decide) 1608 (some (nx_ c + 2))
  generalize sr_ s 1608 (nx_ c) (some (nx_ c + 2)) = s at h ⊢
  rw [gt_t ⟨by decide, by decide, nv_z h⟩, lt_e, lt_e]
  (try rw [show (30 : Int32).toNatClampNeg = 30 from by decide])
  rw [nv_nx h]
  replace h := nv_nw h 20 30 30 (by decide)
  generalize nw_ s 20 30 30 = s at h ⊢
  rw [lt_e]
  replace h := nv_sr (a := nx_ c) (j := 0) h rfl (by decide) 1609 (some (nx_ c + 3))
  generalize sr_ s 1609 (nx_ c) (some (nx_ c + 3)) = s at h ⊢
  rw [gt_t ⟨by decide, by decide, nv_z h⟩, lt_e, lt_e]
  (try rw [show (30 : Int32).toNatClampNeg = 30 from by decide])
  rw [nv_nx h]
  replace h := nv_nw h 20 30 30 (by decide)
  generalize nw_ s 20 30 30 = s at h ⊢
  rw [lt_e]
  replace h := nv_sr (a := nx_ c) (j := 0) h rfl (by decide) 1610 (some (nx_ c + 4))
  generalize sr_ s 1610 (nx_ c) (some (nx_ c + 4)) = s at h ⊢
  rw [gt_t ⟨by decide, by decide, nv_z h⟩, lt_e, lt_e]
  (try rw [show (30 : Int32).toNatClampNeg = 30 from by decide])
  rw [nv_nx h]
  replace h := nv_nw h 20 30 30 (by decide)
  generalize nw_ s 20 30 30 = s at h ⊢
  rw [lt_e]
  replace h := nv_sr (a := nx_ c) (j := 0) h rfl (by decide) 1611 (some (nx_ c + 5))
  generalize sr_ s 1611 (nx_ c) (some (nx_ c + 5)) = s at h ⊢
  rw [gt_t ⟨by decide, by decide, nv_z h⟩, lt_e, lt_e]
  (try rw [show (30 : Int32).toNatClampNeg = 30 from by decide])
  rw [nv_nx h]
  replace h := nv_nw h 20 30 30 (by decide)
  generalize nw_ s 20 30 30 = s at h ⊢
  rw [lt_e]
  replace h := nv_sr (a := nx_ c) (j := 0) h rfl (by decide) 1612 (some (nx_ c + 6))
  generalize sr_ s 1612 (nx_ c) (some (nx_ c + 6)) = s at h ⊢
  rw [gt_t ⟨by decide, by decide, nv_z h⟩, lt_e, lt_e]
  (try rw [show (30 : Int32).toNatClampNeg = 30 from by decide])
  rw [nv_nx h]
  replace h := nv_nw h 20 30 30 (by decide)
  generalize nw_ s 20 30 30 = s at h ⊢
  rw [lt_e]
  replace h := nv_sr (a := nx_ c) (j := 0) h rfl (by decide) 1613 (some (nx_ c + 7))
  generalize sr_ s 1613 (nx_ c) (some (nx_ c + 7)) = s at h ⊢
  rw [gt_t ⟨by decide, by decide, nv_z h⟩, lt_e, lt_e]
  (try rw [show (6 : Int32).toNatClampNeg = 6 from by decide])
  rw [nv_nx h]
  replace h := nv_nw h 22 6 6 (by decide)
  generalize nw_ s 22 6 6 = s at h ⊢
  rw [lt_e]
  replace h := nv_sr (a := nx_ c) (j := 0) h rfl (by decide) 1614 (some (nx_ c + 8))
  generalize sr_ s 1614 (nx_ c) (some (nx_ c + 8)) = s at h ⊢
  rw [gt_t ⟨by decide, by decide, nv_z h⟩, lt_e, lt_e]
  (try rw [show (30 : Int32).toNatClampNeg = 30 from by decide])
  rw [nv_nx h]
  replace h := nv_nw h 22 30 30 (by decide)
  generalize nw_ s 22 30 30 = s at h ⊢
  rw [lt_e]
  replace h := nv_sr (a := nx_ c) (j := 0) h rfl (by decide) 1615 (some (nx_ c + 9))
  generalize sr_ s 1615 (nx_ c) (some (nx_ c + 9)) = s at h ⊢
  rw [gt_t ⟨by decide, by decide, nv_z h⟩, lt_e, lt_e]
  (try rw [show (30 : Int32).toNatClampNeg = 30 from by decide])
  rw [nv_nx h]
  replace h := nv_nw h 22 30 30 (by decide)
  generalize nw_ s 22 30 30 = s at h ⊢
  rw [lt_e]
  replace h := nv_sr (a := nx_ c) (j := 0) h rfl (by decide) 1616 (some (nx_ c + 10))
  generalize sr_ s 1616 (nx_ c) (some (nx_ c + 10)) = s at h ⊢
  rw [gt_t ⟨by decide, by decide, nv_z h⟩, lt_e, lt_e]
  (try rw [show (10 : Int32).toNatClampNeg = 10 from by decide])
  rw [nv_nx h]
  replace h := nv_nw h 20 10 10 (by decide)
  generalize nw_ s 20 10 10 = s at h ⊢
  rw [lt_e]
  replace h := nv_sr (a := nx_ c) (j := 0) h rfl (by decide) 1618 (some (nx_ c + 11))
  generalize sr_ s 1618 (nx_ c) (some (nx_ c + 11)) = s at h ⊢
  rw [gt_t ⟨by decide, by decide, nv_z h⟩, lt_e, lt_e]
  (try rw [show (300 : Int32).toNatClampNeg = 300 from by decide])
  rw [nv_nx h]
  replace h := nv_nw h 20 300 300 (by decide)
  generalize nw_ s 20 300 300 = s at h ⊢
  rw [lt_e]
  replace h := nv_sr (a := nx_ c) (j := 0) h rfl (by decide) 1619 (some (nx_ c + 12))
  generalize sr_ s 1619 (nx_ c) (some (nx_ c + 12)) = s at h ⊢
  rw [gt_t ⟨by decide, by decide, nv_z h⟩, lt_e, lt_e]
  (try rw [show (240 : Int32).toNatClampNeg = 240 from by decide])
  rw [nv_nx h]
  replace h := nv_nw h 20 240 240 (by decide)
  generalize nw_ s 20 240 240 = s at h ⊢
  rw [lt_e]
  replace h := nv_sr (a := nx_ c) (j := 0) h rfl (by decide) 1620 (some (nx_ c + 13))
  generalize sr_ s 1620 (nx_ c) (some (nx_ c + 13)) = s at h ⊢
  rw [gt_t ⟨by decide, by decide, nv_z h⟩, lt_e, lt_e]
  (try rw [show (240 : Int32).toNatClampNeg = 240 from by decide])
  rw [nv_nx h]
  replace h := nv_nw h 20 240 240 (by decide)
  generalize nw_ s 20 240 240 = s at h ⊢
  rw [lt_e]
  replace h := nv_sr (a := nx_ c) (j := 0) h rfl (by decide) 1621 (some (nx_ c + 14))
  generalize sr_ s 1621 (nx_ c) (some (nx_ c + 14)) = s at h ⊢
  rw [gt_t ⟨by decide, by decide, nv_z h⟩, lt_e, lt_e]
  (try rw [show (240 : Int32).toNatClampNeg = 240 from by decide])
  rw [nv_nx h]
  replace h := nv_nw h 20 240 240 (by decide)
  generalize nw_ s 20 240 240 = s at h ⊢
  rw [lt_e]
  replace h := nv_sr (a := nx_ c) (j := 0) h rfl (by decide) 1622 (some (nx_ c + 15))
  generalize sr_ s 1622 (nx_ c) (some (nx_ c + 15)) = s at h ⊢
  rw [gt_t ⟨by decide, by decide, nv_z h⟩, lt_e, lt_e]
  (try rw [show (240 : Int32).toNatClampNeg = 240 from by decide])
  rw [nv_nx h]
  replace h := nv_nw h 20 240 240 (by decide)
  generalize nw_ s 20 240 240 = s at h ⊢
  rw [lt_e]
  replace h := nv_sr (a := nx_ c) (j := 0) h rfl (by decide) 1623 (some (nx_ c + 16))
  generalize sr_ s 1623 (nx_ c) (some (nx_ c + 16)) = s at h ⊢
  rw [gt_t ⟨by decide, by decide, nv_z h⟩, lt_e, lt_e]
  (try rw [show (240 : Int32).toNatClampNeg = 240 from by decide])
  rw [nv_nx h]
  replace h := nv_nw h 22 240 240 (by decide)
  generalize nw_ s 22 240 240 = s at h ⊢
  rw [lt_e]
  replace h := nv_sr (a := nx_ c) (j := 0) h rfl (by decide) 1624 (some (nx_ c + 17))
  generalize sr_ s 1624 (nx_ c) (some (nx_ c + 17)) = s at h ⊢
  rw [gt_t (nv_z h), lt_e, lt_e]
  rw [nv_nx h]
  replace h := nv_nw h 16 0 8 (by decide)
  generalize nw_ s 16 0 8 = s at h ⊢
  rw [f_X14_init]
  rw [gt_t (show kd_ s (nx_ c + 18) = 16 from nv_kd (j := 18) h rfl (by decide) rfl)]
  rw [bd_s]
  unfold q_thr
  replace h := nv_sr (a := nx_ c + 18) (j := 18) h rfl (by decide) 1501 none
  generalize sr_ s 1501 (nx_ c + 18) none = s at h ⊢
  replace h := nv_sr (a := nx_ c + 18) (j := 18) h rfl (by decide) 1503 none
  generalize sr_ s 1503 (nx_ c + 18) none = s at h ⊢
  replace h := nv_sr (a := nx_ c + 18) (j := 18) h rfl (by decide) 1500 none
  generalize sr_ s 1500 (nx_ c + 18) none = s at h ⊢
  replace h := nv_sr (a := nx_ c + 18) (j := 18) h rfl (by decide) 1502 none
  generalize sr_ s 1502 (nx_ c + 18) none = s at h ⊢
  rw [lt_e]
  replace h := nv_sr (a := nx_ c) (j := 0) h rfl (by decide) 1625 (some (nx_ c + 18))
  generalize sr_ s 1625 (nx_ c) (some (nx_ c + 18)) = s at h ⊢
  rw [gt_t ⟨by decide, by decide, nv_z h⟩, lt_e, lt_e]
  (try rw [show (400 : Int32).toNatClampNeg = 400 from by decide])
  rw [nv_nx h]
  replace h := nv_nw h 21 400 400 (by decide)
  generalize nw_ s 21 400 400 = s at h ⊢
  rw [lt_e]
  replace h := nv_sr (a := nx_ c) (j := 0) h rfl (by decide) 1626 (some (nx_ c + 19))
  generalize sr_ s 1626 (nx_ c) (some (nx_ c + 19)) = s at h ⊢
  rw [gt_t ⟨by decide, by decide, nv_z h⟩, lt_e, lt_e]
  (try rw [show (1200 : Int32).toNatClampNeg = 1200 from by decide])
  rw [nv_nx h]
  replace h := nv_nw h 21 1200 1200 (by decide)
  generalize nw_ s 21 1200 1200 = s at h ⊢
  rw [lt_e]
  replace h := nv_sr (a := nx_ c) (j := 0) h rfl (by decide) 1627 (some (nx_ c + 20))
  generalize sr_ s 1627 (nx_ c) (some (nx_ c + 20)) = s at h ⊢
  rw [gt_t ⟨by decide, by decide, nv_z h⟩, lt_e, lt_e]
  (try rw [show (1200 : Int32).toNatClampNeg = 1200 from by decide])
  rw [nv_nx h]
  replace h := nv_nw h 21 1200 1200 (by decide)
  generalize nw_ s 21 1200 1200 = s at h ⊢
  rw [lt_e]
  replace h := nv_sr (a := nx_ c) (j := 0) h rfl (by decide) 1628 (some (nx_ c + 21))
  generalize sr_ s 1628 (nx_ c) (some (nx_ c + 21)) = s at h ⊢
  rw [lt_e, show fr_ s 1626 (nx_ c) = some (nx_ c + 19) from nv_fr (a := nx_ c) (j := 0) h rfl (by decide) 1626]
  rw [lt_e]
  replace h := nv_sr (a := nx_ c) (j := 0) h rfl (by decide) 1629 (some (nx_ c + 19))
  generalize sr_ s 1629 (nx_ c) (some (nx_ c + 19)) = s at h ⊢
  rw [gt_t ⟨by decide, by decide, nv_z h⟩, lt_e, lt_e]
  (try rw [show (150 : Int32).toNatClampNeg = 150 from by decide])
  rw [nv_nx h]
  replace h := nv_nw h 27 150 150 (by decide)
  generalize nw_ s 27 150 150 = s at h ⊢
  rw [lt_e]
  replace h := nv_sr (a := nx_ c) (j := 0) h rfl (by decide) 1648 (some (nx_ c + 22))
  generalize sr_ s 1648 (nx_ c) (some (nx_ c + 22)) = s at h ⊢
  rw [gt_t ⟨by decide, by decide, nv_z h⟩, lt_e, lt_e]
  (try rw [show (14 : Int32).toNatClampNeg = 14 from by decide])
  rw [nv_nx h]
  replace h := nv_nw h 20 14 14 (by decide)
  generalize nw_ s 20 14 14 = s at h ⊢
  rw [lt_e]
  replace h := nv_sr (a := nx_ c) (j := 0) h rfl (by decide) 1649 (some (nx_ c + 23))
  generalize sr_ s 1649 (nx_ c) (some (nx_ c + 23)) = s at h ⊢
  rw [gt_t ⟨by decide, by decide, nv_z h⟩, lt_e, lt_e]
  (try rw [show (14 : Int32).toNatClampNeg = 14 from by decide])
  rw [nv_nx h]
  replace h := nv_nw h 20 14 14 (by decide)
  generalize nw_ s 20 14 14 = s at h ⊢
  rw [lt_e]
  replace h := nv_sr (a := nx_ c) (j := 0) h rfl (by decide) 1650 (some (nx_ c + 24))
  generalize sr_ s 1650 (nx_ c) (some (nx_ c + 24)) = s at h ⊢
  rw [gt_t ⟨by decide, by decide, nv_z h⟩, lt_e, lt_e]
  (try rw [show (14 : Int32).toNatClampNeg = 14 from by decide])
  rw [nv_nx h]
  replace h := nv_nw h 20 14 14 (by decide)
  generalize nw_ s 20 14 14 = s at h ⊢
  rw [lt_e]
  replace h := nv_sr (a := nx_ c) (j := 0) h rfl (by decide) 1651 (some (nx_ c + 25))
  generalize sr_ s 1651 (nx_ c) (some (nx_ c + 25)) = s at h ⊢
  rw [gt_t ⟨by decide, by decide, nv_z h⟩, lt_e, lt_e]
  (try rw [show (14 : Int32).toNatClampNeg = 14 from by decide])
  rw [nv_nx h]
  replace h := nv_nw h 22 14 14 (by decide)
  generalize nw_ s 22 14 14 = s at h ⊢
  rw [lt_e]
  replace h := nv_sr (a := nx_ c) (j := 0) h rfl (by decide) 1652 (some (nx_ c + 26))
  generalize sr_ s 1652 (nx_ c) (some (nx_ c + 26)) = s at h ⊢
  rw [lt_e]
  replace h := nv_si (a := nx_ c) (j := 0) h rfl (by decide) 1656 (-1)
  generalize si_ s 1656 (nx_ c) (-1) = s at h ⊢
  rw [lt_e]
  replace h := nv_si (a := nx_ c) (j := 0) h rfl (by decide) 1657 (-1)
  generalize si_ s 1657 (nx_ c) (-1) = s at h ⊢
  rw [gt_t ⟨by decide, by decide, nv_z h⟩, lt_e, lt_e]
  (try rw [show (12 : Int32).toNatClampNeg = 12 from by decide])
  rw [nv_nx h]
  replace h := nv_nw h 27 12 12 (by decide)
  generalize nw_ s 27 12 12 = s at h ⊢
  rw [lt_e]
  replace h := nv_sr (a := nx_ c) (j := 0) h rfl (by decide) 1660 (some (nx_ c + 27))
  generalize sr_ s 1660 (nx_ c) (some (nx_ c + 27)) = s at h ⊢
  rw [gt_t ⟨by decide, by decide, nv_z h⟩, lt_e, lt_e]
  (try rw [show (120 : Int32).toNatClampNeg = 120 from by decide])
  rw [nv_nx h]
  replace h := nv_nw h 20 120 120 (by decide)
  generalize nw_ s 20 120 120 = s at h ⊢
  rw [lt_e]
  replace h := nv_sr (a := nx_ c) (j := 0) h rfl (by decide) 1661 (some (nx_ c + 28))
  generalize sr_ s 1661 (nx_ c) (some (nx_ c + 28)) = s at h ⊢
  rw [gt_t ⟨by decide, by decide, nv_z h⟩, lt_e, lt_e]
  (try rw [show (120 : Int32).toNatClampNeg = 120 from by decide])
  rw [nv_nx h]
  replace h := nv_nw h 20 120 120 (by decide)
  generalize nw_ s 20 120 120 = s at h ⊢
  rw [lt_e]
  replace h := nv_sr (a := nx_ c) (j := 0) h rfl (by decide) 1662 (some (nx_ c + 29))
  generalize sr_ s 1662 (nx_ c) (some (nx_ c + 29)) = s at h ⊢
  rw [gt_t ⟨by decide, by decide, nv_z h⟩, lt_e, lt_e]
  (try rw [show (120 : Int32).toNatClampNeg = 120 from by decide])
  rw [nv_nx h]
  replace h := nv_nw h 20 120 120 (by decide)
  generalize nw_ s 20 120 120 = s at h ⊢
  rw [lt_e]
  replace h := nv_sr (a := nx_ c) (j := 0) h rfl (by decide) 1663 (some (nx_ c + 30))
  generalize sr_ s 1663 (nx_ c) (some (nx_ c + 30)) = s at h ⊢
  rw [gt_t ⟨by decide, by decide, nv_z h⟩, lt_e, lt_e]
  (try rw [show (120 : Int32).toNatClampNeg = 120 from by decide])
  rw [nv_nx h]
  replace h := nv_nw h 20 120 120 (by decide)
  generalize nw_ s 20 120 120 = s at h ⊢
  rw [lt_e]
  replace h := nv_sr (a := nx_ c) (j := 0) h rfl (by decide) 1664 (some (nx_ c + 31))
  generalize sr_ s 1664 (nx_ c) (some (nx_ c + 31)) = s at h ⊢
  rw [gt_t ⟨by decide, by decide, nv_z h⟩, lt_e, lt_e]
  (try rw [show (120 : Int32).toNatClampNeg = 120 from by decide])
  rw [nv_nx h]
  replace h := nv_nw h 20 120 120 (by decide)
  generalize nw_ s 20 120 120 = s at h ⊢
  rw [lt_e]
  replace h := nv_sr (a := nx_ c) (j := 0) h rfl (by decide) 1665 (some (nx_ c + 32))
  generalize sr_ s 1665 (nx_ c) (some (nx_ c + 32)) = s at h ⊢
  rw [gt_t ⟨by decide, by decide, nv_z h⟩, lt_e, lt_e]
  (try rw [show (360 : Int32).toNatClampNeg = 360 from by decide])
  rw [nv_nx h]
  replace h := nv_nw h 20 360 360 (by decide)
  generalize nw_ s 20 360 360 = s at h ⊢
  rw [lt_e]
  replace h := nv_sr (a := nx_ c) (j := 0) h rfl (by decide) 1666 (some (nx_ c + 33))
  generalize sr_ s 1666 (nx_ c) (some (nx_ c + 33)) = s at h ⊢
  rw [gt_t ⟨by decide, by decide, nv_z h⟩, lt_e, lt_e]
  (try rw [show (360 : Int32).toNatClampNeg = 360 from by decide])
  rw [nv_nx h]
  replace h := nv_nw h 20 360 360 (by decide)
  generalize nw_ s 20 360 360 = s at h ⊢
  rw [lt_e]
  replace h := nv_sr (a := nx_ c) (j := 0) h rfl (by decide) 1667 (some (nx_ c + 34))
  generalize sr_ s 1667 (nx_ c) (some (nx_ c + 34)) = s at h ⊢
  rw [gt_t ⟨by decide, by decide, nv_z h⟩, lt_e, lt_e]
  (try rw [show (120 : Int32).toNatClampNeg = 120 from by decide])
  rw [nv_nx h]
  replace h := nv_nw h 22 120 120 (by decide)
  generalize nw_ s 22 120 120 = s at h ⊢
  rw [lt_e]
  replace h := nv_sr (a := nx_ c) (j := 0) h rfl (by decide) 1668 (some (nx_ c + 35))
  generalize sr_ s 1668 (nx_ c) (some (nx_ c + 35)) = s at h ⊢
  rw [gt_t ⟨by decide, by decide, nv_z h⟩, lt_e, lt_e]
  (try rw [show (40 : Int32).toNatClampNeg = 40 from by decide])
  rw [nv_nx h]
  replace h := nv_nw h 20 40 40 (by decide)
  generalize nw_ s 20 40 40 = s at h ⊢
  rw [lt_e]
  replace h := nv_sr (a := nx_ c) (j := 0) h rfl (by decide) 1672 (some (nx_ c + 36))
  generalize sr_ s 1672 (nx_ c) (some (nx_ c + 36)) = s at h ⊢
  rw [gt_t ⟨by decide, by decide, nv_z h⟩, lt_e, lt_e]
  (try rw [show (40 : Int32).toNatClampNeg = 40 from by decide])
  rw [nv_nx h]
  replace h := nv_nw h 20 40 40 (by decide)
  generalize nw_ s 20 40 40 = s at h ⊢
  rw [lt_e]
  replace h := nv_sr (a := nx_ c) (j := 0) h rfl (by decide) 1673 (some (nx_ c + 37))
  generalize sr_ s 1673 (nx_ c) (some (nx_ c + 37)) = s at h ⊢
  rw [gt_t ⟨by decide, by decide, nv_z h⟩, lt_e, lt_e]
  (try rw [show (40 : Int32).toNatClampNeg = 40 from by decide])
  rw [nv_nx h]
  replace h := nv_nw h 20 40 40 (by decide)
  generalize nw_ s 20 40 40 = s at h ⊢
  rw [lt_e]
  replace h := nv_sr (a := nx_ c) (j := 0) h rfl (by decide) 1674 (some (nx_ c + 38))
  generalize sr_ s 1674 (nx_ c) (some (nx_ c + 38)) = s at h ⊢
  rw [gt_t ⟨by decide, by decide, nv_z h⟩, lt_e, lt_e]
  (try rw [show (40 : Int32).toNatClampNeg = 40 from by decide])
  rw [nv_nx h]
  replace h := nv_nw h 20 40 40 (by decide)
  generalize nw_ s 20 40 40 = s at h ⊢
  rw [lt_e]
  replace h := nv_sr (a := nx_ c) (j := 0) h rfl (by decide) 1675 (some (nx_ c + 39))
  generalize sr_ s 1675 (nx_ c) (some (nx_ c + 39)) = s at h ⊢
  rw [gt_t ⟨by decide, by decide, nv_z h⟩, lt_e, lt_e]
  (try rw [show (40 : Int32).toNatClampNeg = 40 from by decide])
  rw [nv_nx h]
  replace h := nv_nw h 20 40 40 (by decide)
  generalize nw_ s 20 40 40 = s at h ⊢
  rw [lt_e]
  replace h := nv_sr (a := nx_ c) (j := 0) h rfl (by decide) 1676 (some (nx_ c + 40))
  generalize sr_ s 1676 (nx_ c) (some (nx_ c + 40)) = s at h ⊢
  rw [gt_t ⟨by decide, by decide, nv_z h⟩, lt_e, lt_e]
  (try rw [show (40 : Int32).toNatClampNeg = 40 from by decide])
  rw [nv_nx h]
  replace h := nv_nw h 20 40 40 (by decide)
  generalize nw_ s 20 40 40 = s at h ⊢
  rw [lt_e]
  replace h := nv_sr (a := nx_ c) (j := 0) h rfl (by decide) 1677 (some (nx_ c + 41))
  generalize sr_ s 1677 (nx_ c) (some (nx_ c + 41)) = s at h ⊢
  rw [gt_t ⟨by decide, by decide, nv_z h⟩, lt_e, lt_e]
  (try rw [show (60 : Int32).toNatClampNeg = 60 from by decide])
  rw [nv_nx h]
  replace h := nv_nw h 20 60 60 (by decide)
  generalize nw_ s 20 60 60 = s at h ⊢
  rw [lt_e]
  replace h := nv_sr (a := nx_ c) (j := 0) h rfl (by decide) 1678 (some (nx_ c + 42))
  generalize sr_ s 1678 (nx_ c) (some (nx_ c + 42)) = s at h ⊢
  rw [gt_t ⟨by decide, by decide, nv_z h⟩, lt_e, lt_e]
  (try rw [show (60 : Int32).toNatClampNeg = 60 from by decide])
  rw [nv_nx h]
  replace h := nv_nw h 20 60 60 (by decide)
  generalize nw_ s 20 60 60 = s at h ⊢
  rw [lt_e]
  replace h := nv_sr (a := nx_ c) (j := 0) h rfl (by decide) 1679 (some (nx_ c + 43))
  generalize sr_ s 1679 (nx_ c) (some (nx_ c + 43)) = s at h ⊢
  rw [gt_t ⟨by decide, by decide, nv_z h⟩, lt_e, lt_e]
  (try rw [show (60 : Int32).toNatClampNeg = 60 from by decide])
  rw [nv_nx h]
  replace h := nv_nw h 20 60 60 (by decide)
  generalize nw_ s 20 60 60 = s at h ⊢
  rw [lt_e]
  replace h := nv_sr (a := nx_ c) (j := 0) h rfl (by decide) 1680 (some (nx_ c + 44))
  generalize sr_ s 1680 (nx_ c) (some (nx_ c + 44)) = s at h ⊢
  rw [gt_t ⟨by decide, by decide, nv_z h⟩, lt_e, lt_e]
  (try rw [show (60 : Int32).toNatClampNeg = 60 from by decide])
  rw [nv_nx h]
  replace h := nv_nw h 22 60 60 (by decide)
  generalize nw_ s 22 60 60 = s at h ⊢
  rw [lt_e]
  replace h := nv_sr (a := nx_ c) (j := 0) h rfl (by decide) 1681 (some (nx_ c + 45))
  generalize sr_ s 1681 (nx_ c) (some (nx_ c + 45)) = s at h ⊢
  rw [gt_t ⟨by decide, by decide, nv_z h⟩, lt_e, lt_e]
  (try rw [show (80 : Int32).toNatClampNeg = 80 from by decide])
  rw [nv_nx h]
  replace h := nv_nw h 28 80 80 (by decide)
  generalize nw_ s 28 80 80 = s at h ⊢
  rw [lt_e]
  replace h := nv_sr (a := nx_ c) (j := 0) h rfl (by decide) 1682 (some (nx_ c + 46))
  generalize sr_ s 1682 (nx_ c) (some (nx_ c + 46)) = s at h ⊢
  rw [gt_t ⟨by decide, by decide, nv_z h⟩, lt_e, lt_e]
  (try rw [show (30 : Int32).toNatClampNeg = 30 from by decide])
  rw [nv_nx h]
  replace h := nv_nw h 20 30 30 (by decide)
  generalize nw_ s 20 30 30 = s at h ⊢
  rw [lt_e]
  replace h := nv_sr (a := nx_ c) (j := 0) h rfl (by decide) 1683 (some (nx_ c + 47))
  generalize sr_ s 1683 (nx_ c) (some (nx_ c + 47)) = s at h ⊢
  rw [gt_t ⟨by decide, by decide, nv_z h⟩, lt_e, lt_e]
  (try rw [show (12 : Int32).toNatClampNeg = 12 from by decide])
  rw [nv_nx h]
  replace h := nv_nw h 20 12 12 (by decide)
  generalize nw_ s 20 12 12 = s at h ⊢
  rw [lt_e]
  replace h := nv_sr (a := nx_ c) (j := 0) h rfl (by decide) 1684 (some (nx_ c + 48))
  generalize sr_ s 1684 (nx_ c) (some (nx_ c + 48)) = s at h ⊢
  rw [lt_e]
  replace h := nv_si (a := nx_ c) (j := 0) h rfl (by decide) 1687 (-1)
  generalize si_ s 1687 (nx_ c) (-1) = s at h ⊢
  obtain ⟨q1, ⟨q2, q3⟩, q4⟩ := h
  have hF := (q4 0 (by decide)).2.1
  have hR := (q4 0 (by decide)).2.2.1
  have hKL : ∀ j, j ∈ MA → (kd_ s (nx_ c + offM_ j) = KM j ∧ ln_ s (nx_ c + offM_ j) = LM j) ∧ fr_ s (1600 + j) (nx_ c) = some (nx_ c + offM_ j) ∧ ∀ i, ai_ s (nx_ c + offM_ j) i = 0 := by
    intro j hj
    simp only [MA, List.mem_cons, List.not_mem_nil, or_false] at hj
    rcases hj with rfl | rfl | rfl | rfl | rfl | rfl | rfl | rfl | rfl | rfl | rfl | rfl | rfl | rfl | rfl | rfl | rfl | rfl | rfl | rfl | rfl | rfl | rfl | rfl | rfl | rfl | rfl | rfl | rfl | rfl | rfl | rfl | rfl | rfl | rfl | rfl | rfl | rfl | rfl | rfl | rfl | rfl | rfl | rfl | rfl | rfl | rfl | rfl
    · exact ⟨(q4 1 (by decide)).1, hR 1607, (q4 1 (by decide)).2.2.2⟩
    · exact ⟨(q4 2 (by decide)).1, hR 1608, (q4 2 (by decide)).2.2.2⟩
    · exact ⟨(q4 3 (by decide)).1, hR 1609, (q4 3 (by decide)).2.2.2⟩
    · exact ⟨(q4 4 (by decide)).1, hR 1610, (q4 4 (by decide)).2.2.2⟩
    · exact ⟨(q4 5 (by decide)).1, hR 1611, (q4 5 (by decide)).2.2.2⟩
    · exact ⟨(q4 6 (by decide)).1, hR 1612, (q4 6 (by decide)).2.2.2⟩
    · exact ⟨(q4 7 (by decide)).1, hR 1613, (q4 7 (by decide)).2.2.2⟩
    · exact ⟨(q4 8 (by decide)).1, hR 1614, (q4 8 (by decide)).2.2.2⟩
    · exact ⟨(q4 9 (by decide)).1, hR 1615, (q4 9 (by decide)).2.2.2⟩
    · exact ⟨(q4 10 (by decide)).1, hR 1616, (q4 10 (by decide)).2.2.2⟩
    · exact ⟨(q4 11 (by decide)).1, hR 1618, (q4 11 (by decide)).2.2.2⟩
    · exact ⟨(q4 12 (by decide)).1, hR 1619, (q4 12 (by decide)).2.2.2⟩
    · exact ⟨(q4 13 (by decide)).1, hR 1620, (q4 13 (by decide)).2.2.2⟩
    · exact ⟨(q4 14 (by decide)).1, hR 1621, (q4 14 (by decide)).2.2.2⟩
    · exact ⟨(q4 15 (by decide)).1, hR 1622, (q4 15 (by decide)).2.2.2⟩
    · exact ⟨(q4 16 (by decide)).1, hR 1623, (q4 16 (by decide)).2.2.2⟩
    · exact ⟨(q4 17 (by decide)).1, hR 1624, (q4 17 (by decide)).2.2.2⟩
    · exact ⟨(q4 18 (by decide)).1, hR 1625, (q4 18 (by decide)).2.2.2⟩
    · exact ⟨(q4 19 (by decide)).1, hR 1626, (q4 19 (by decide)).2.2.2⟩
    · exact ⟨(q4 20 (by decide)).1, hR 1627, (q4 20 (by decide)).2.2.2⟩
    · exact ⟨(q4 21 (by decide)).1, hR 1628, (q4 21 (by decide)).2.2.2⟩
    · exact ⟨(q4 22 (by decide)).1, hR 1648, (q4 22 (by decide)).2.2.2⟩
    · exact ⟨(q4 23 (by decide)).1, hR 1649, (q4 23 (by decide)).2.2.2⟩
    · exact ⟨(q4 24 (by decide)).1, hR 1650, (q4 24 (by decide)).2.2.2⟩
    · exact ⟨(q4 25 (by decide)).1, hR 1651, (q4 25 (by decide)).2.2.2⟩
    · exact ⟨(q4 26 (by decide)).1, hR 1652, (q4 26 (by decide)).2.2.2⟩
    · exact ⟨(q4 27 (by decide)).1, hR 1660, (q4 27 (by decide)).2.2.2⟩
    · exact ⟨(q4 28 (by decide)).1, hR 1661, (q4 28 (by decide)).2.2.2⟩
    · exact ⟨(q4 29 (by decide)).1, hR 1662, (q4 29 (by decide)).2.2.2⟩
    · exact ⟨(q4 30 (by decide)).1, hR 1663, (q4 30 (by decide)).2.2.2⟩
    · exact ⟨(q4 31 (by decide)).1, hR 1664, (q4 31 (by decide)).2.2.2⟩
    · exact ⟨(q4 32 (by decide)).1, hR 1665, (q4 32 (by decide)).2.2.2⟩
    · exact ⟨(q4 33 (by decide)).1, hR 1666, (q4 33 (by decide)).2.2.2⟩
    · exact ⟨(q4 34 (by decide)).1, hR 1667, (q4 34 (by decide)).2.2.2⟩
    · exact ⟨(q4 35 (by decide)).1, hR 1668, (q4 35 (by decide)).2.2.2⟩
    · exact ⟨(q4 36 (by decide)).1, hR 1672, (q4 36 (by decide)).2.2.2⟩
    · exact ⟨(q4 37 (by decide)).1, hR 1673, (q4 37 (by decide)).2.2.2⟩
    · exact ⟨(q4 38 (by decide)).1, hR 1674, (q4 38 (by decide)).2.2.2⟩
    · exact ⟨(q4 39 (by decide)).1, hR 1675, (q4 39 (by decide)).2.2.2⟩
    · exact ⟨(q4 40 (by decide)).1, hR 1676, (q4 40 (by decide)).2.2.2⟩
    · exact ⟨(q4 41 (by decide)).1, hR 1677, (q4 41 (by decide)).2.2.2⟩
    · exact ⟨(q4 42 (by decide)).1, hR 1678, (q4 42 (by decide)).2.2.2⟩
    · exact ⟨(q4 43 (by decide)).1, hR 1679, (q4 43 (by decide)).2.2.2⟩
    · exact ⟨(q4 44 (by decide)).1, hR 1680, (q4 44 (by decide)).2.2.2⟩
    · exact ⟨(q4 45 (by decide)).1, hR 1681, (q4 45 (by decide)).2.2.2⟩
    · exact ⟨(q4 46 (by decide)).1, hR 1682, (q4 46 (by decide)).2.2.2⟩
    · exact ⟨(q4 47 (by decide)).1, hR 1683, (q4 47 (by decide)).2.2.2⟩
    · exact ⟨(q4 48 (by decide)).1, hR 1684, (q4 48 (by decide)).2.2.2⟩
  have h17 : kd_ s (nx_ c) = 17 := (q4 0 (by decide)).1.1
  have F0 : ∀ q, fi_ s q (nx_ c) = if q = 1602 ∨ q = 1656 ∨ q = 1657 ∨ q = 1687 then -1 else 0 := fun q => by
    refine (hF q).trans ?_
    dsimp only
    by_cases z1 : q = 1602
    · subst z1; rfl
    by_cases z2 : q = 1656
    · subst z2; rfl
    by_cases z3 : q = 1657
    · subst z3; rfl
    by_cases z4 : q = 1687
    · subst z4; rfl
    simp [z1, z2, z3, z4]
  clear hF hR q4
  obtain ⟨⟨k18, l18⟩, r18, a18⟩ := hKL 18 (by decide)
  obtain ⟨⟨k19, l19⟩, r19, a19⟩ := hKL 19 (by decide)
  have r18 : fr_ s 1618 (nx_ c) = some (nx_ c + 11) := r18
  have r19 : fr_ s 1619 (nx_ c) = some (nx_ c + 12) := r19
  have k18 : kd_ s (nx_ c + 11) = 20 := k18
  have k19 : kd_ s (nx_ c + 12) = 20 := k19
  have l18 : ln_ s (nx_ c + 11) = 10 := l18
  have l19 : ln_ s (nx_ c + 12) = 300 := l19
  -- the two loops
  have key2 : ∀ s1 : TH, (fq_ (fun _ => False) c s1 ∧ (nx_ s1 = nx_ s ∧ sl_ s1 = sl_ s ∧ kd_ s1 = kd_ s ∧ ln_ s1 = ln_ s ∧ fr_ s1 = fr_ s ∧ fi_ s1 = fi_ s)) → (∀ q i, ai_ s1 q i = if q = nx_ c + 11 ∧ i < 10 then 365 else ai_ s q i) → ∃ s2, f_X15_init_b459 fu_ s1 (nx_ c) (nI 0) = some ((), s2) ∧ (fq_ (fun _ => False) c s2 ∧ (nx_ s2 = nx_ s ∧ sl_ s2 = sl_ s ∧ kd_ s2 = kd_ s ∧ ln_ s2 = ln_ s ∧ fr_ s2 = fr_ s ∧ fi_ s2 = fi_ s)) ∧ ∀ q i, ai_ s2 q i = if q = nx_ c + 11 ∧ i < 10 then 365 else if q = nx_ c + 12 ∧ i < 300 then -1 else ai_ s q i := fun s1 g1 g2 => by
    have key : ∃ r, f_X15_init_b459 fu_ s1 (nx_ c) (nI 0) = some r ∧ ∃ s2, r = ((), s2) ∧ (fq_ (fun _ => False) c s2 ∧ (nx_ s2 = nx_ s ∧ sl_ s2 = sl_ s ∧ kd_ s2 = kd_ s ∧ ln_ s2 = ln_ s ∧ fr_ s2 = fr_ s ∧ fi_ s2 = fi_ s)) ∧ ∀ q i, ai_ s2 q i = if q = nx_ c + 11 ∧ i < 10 then 365 else if q = nx_ c + 12 ∧ i < 300 then -1 else ai_ s q i := by
      refine lpe_ (F := fun f (τ : TH) k => f_X15_init_b459 f τ (nx_ c) k) 300 (fun n s2 => (fq_ (fun _ => False) c s2 ∧ (nx_ s2 = nx_ s ∧ sl_ s2 = sl_ s ∧ kd_ s2 = kd_ s ∧ ln_ s2 = ln_ s ∧ fr_ s2 = fr_ s ∧ fi_ s2 = fi_ s)) ∧ ∀ q i, ai_ s2 q i = if q = nx_ c + 11 ∧ i < 10 then 365 else if q = nx_ c + 12 ∧ i < n then -1 else ai_ s q i) (fun r => ∃ s2, r = ((), s2) ∧ (fq_ (fun _ => False) c s2 ∧ (nx_ s2 = nx_ s ∧ sl_ s2 = sl_ s ∧ kd_ s2 = kd_ s ∧ ln_ s2 = ln_ s ∧ fr_ s2 = fr_ s ∧ fi_ s2 = fi_ s)) ∧ ∀ q i, ai_ s2 q i = if q = nx_ c + 11 ∧ i < 10 then 365 else if q = nx_ c + 12 ∧ i < 300 then -1 else ai_ s q i) (fun f n τ hn hI => ?_) (fun f τ hI => ?_) (by decide) s1 ⟨g1, fun q i => by rw [g2 q i]; simp⟩
      · obtain ⟨⟨i1, i2, i3, i4, i5, i6, i7⟩, i8⟩ := hI
        refine ⟨sa_ τ (nx_ c + 12) n (-1), ?_, ⟨fq_san i1 (by omega), i2, i3, i4, i5, i6, i7⟩, fun q i => ?_⟩
        · show f_X15_init_b459 (f + 1) τ (nx_ c) (nI n) = f_X15_init_b459 f (sa_ τ (nx_ c + 12) n (-1)) (nx_ c) (nI (n + 1))
          rw [f_X15_init_b459, if_neg (show ¬ (300 : Int32) ≤ nI n from nI_ge (b := 300) hn (by decide)), gt_t (by rw [i4]; exact h17), lt_e, i6, r19, nn_s, gt_t (by rw [i4]; exact k19), nI_clamp (by omega), i5, l19, gt_t (ix9_ (k := n) (M := 300) hn (by omega)), lt_e, lt_e, nI_1]
        · show up2_ (ai_ τ) (nx_ c + 12) n (-1) q i = _
          by_cases z : q = nx_ c + 12 ∧ i = n
          · obtain ⟨rfl, rfl⟩ := z
            rw [up2_s, if_neg (fun z => by omega), if_pos ⟨rfl, by omega⟩]
          · rw [up2_ne z, i8 q i]
            by_cases z1 : q = nx_ c + 11 ∧ i < 10
            · rw [if_pos z1, if_pos z1]
            · rw [if_neg z1, if_neg z1]
              by_cases z2 : q = nx_ c + 12 ∧ i < n
              · rw [if_pos z2, if_pos ⟨z2.1, by omega⟩]
              · rw [if_neg z2, if_neg (fun w => by
                  have := w.2
                  by_cases zi : i = n
                  · exact z ⟨w.1, zi⟩
                  · exact z2 ⟨w.1, by omega⟩)]
      · refine ⟨((), τ), ?_, τ, rfl, hI⟩
        show f_X15_init_b459 (f + 1) τ (nx_ c) (nI 300) = _
        rw [f_X15_init_b459, if_pos (by decide)]
    obtain ⟨_, e, s2, rfl, w⟩ := key
    exact ⟨s2, e, w⟩
  have key1 : ∃ r, f_X15_init_b436 fu_ s (nx_ c) (nI 0) = some r ∧ ∃ s2, r = ((), s2) ∧ (fq_ (fun _ => False) c s2 ∧ (nx_ s2 = nx_ s ∧ sl_ s2 = sl_ s ∧ kd_ s2 = kd_ s ∧ ln_ s2 = ln_ s ∧ fr_ s2 = fr_ s ∧ fi_ s2 = fi_ s)) ∧ ∀ q i, ai_ s2 q i = if q = nx_ c + 11 ∧ i < 10 then 365 else if q = nx_ c + 12 ∧ i < 300 then -1 else ai_ s q i := by
    refine lpe_ (F := fun f (τ : TH) k => f_X15_init_b436 f τ (nx_ c) k) 10 (fun n s2 => (fq_ (fun _ => False) c s2 ∧ (nx_ s2 = nx_ s ∧ sl_ s2 = sl_ s ∧ kd_ s2 = kd_ s ∧ ln_ s2 = ln_ s ∧ fr_ s2 = fr_ s ∧ fi_ s2 = fi_ s)) ∧ ∀ q i, ai_ s2 q i = if q = nx_ c + 11 ∧ i < n then 365 else ai_ s q i) (fun r => ∃ s2, r = ((), s2) ∧ (fq_ (fun _ => False) c s2 ∧ (nx_ s2 = nx_ s ∧ sl_ s2 = sl_ s ∧ kd_ s2 = kd_ s ∧ ln_ s2 = ln_ s ∧ fr_ s2 = fr_ s ∧ fi_ s2 = fi_ s)) ∧ ∀ q i, ai_ s2 q i = if q = nx_ c + 11 ∧ i < 10 then 365 else if q = nx_ c + 12 ∧ i < 300 then -1 else ai_ s q i) (fun f n τ hn hI => ?_) (fun f τ hI => ?_) (by decide) s ⟨⟨q1, rfl, rfl, rfl, rfl, rfl, rfl⟩, fun q i => by simp⟩
    · obtain ⟨⟨i1, i2, i3, i4, i5, i6, i7⟩, i8⟩ := hI
      refine ⟨sa_ τ (nx_ c + 11) n 365, ?_, ⟨fq_san i1 (by omega), i2, i3, i4, i5, i6, i7⟩, fun q i => ?_⟩
      · show f_X15_init_b436 (f + 1) τ (nx_ c) (nI n) = f_X15_init_b436 f (sa_ τ (nx_ c + 11) n 365) (nx_ c) (nI (n + 1))
        rw [f_X15_init_b436, if_neg (show ¬ (10 : Int32) ≤ nI n from nI_ge (b := 10) hn (by decide)), gt_t (by rw [i4]; exact h17), lt_e, i6, r18, nn_s, gt_t (by rw [i4]; exact k18), nI_clamp (by omega), i5, l18, gt_t (ix9_ (k := n) (M := 10) hn (by omega)), lt_e, lt_e, nI_1]
      · show up2_ (ai_ τ) (nx_ c + 11) n 365 q i = _
        by_cases z : q = nx_ c + 11 ∧ i = n
        · obtain ⟨rfl, rfl⟩ := z
          rw [up2_s, if_pos ⟨rfl, by omega⟩]
        · rw [up2_ne z, i8 q i]
          by_cases z2 : q = nx_ c + 11 ∧ i < n
          · rw [if_pos z2, if_pos ⟨z2.1, by omega⟩]
          · rw [if_neg z2, if_neg (fun w => by
              have := w.2
              by_cases zi : i = n
              · exact z ⟨w.1, zi⟩
              · exact z2 ⟨w.1, by omega⟩)]
    · obtain ⟨s2, e, w⟩ := key2 τ hI.1 hI.2
      refine ⟨((), s2), ?_, s2, rfl, w⟩
      show f_X15_init_b436 (f + 1) τ (nx_ c) (nI 10) = _
      rw [f_X15_init_b436, if_pos (by decide)]
      exact e
  obtain ⟨_, e, s2, rfl, ⟨g1, g2, g3, g4, g5, g6, g7⟩, g8⟩ := key1
  refine ⟨s2, e, g1, ⟨g2.trans q2, g3.trans q3⟩, by rw [g4]; exact h17, fun j hj => ?_, fun q => by rw [g7]; exact F0 q⟩
  obtain ⟨⟨w1, w2⟩, w3, w4⟩ := hKL j hj
  refine ⟨⟨by rw [g4]; exact w1, by rw [g5]; exact w2⟩, by rw [g6]; exact w3, fun i => ?_⟩
  rw [g8, w4 i]
  have inj : ∀ j, j ∈ MA → (offM_ j = 11 ↔ j = 18) ∧ (offM_ j = 12 ↔ j = 19) := by decide
  obtain ⟨u1, u2⟩ := inj j hj
  have v1 : (nx_ c + offM_ j = nx_ c + 11) ↔ j = 18 := ⟨fun z => u1.mp (by omega), fun z => by rw [u1.mpr z]⟩
  have v2 : (nx_ c + offM_ j = nx_ c + 12) ↔ j = 19 := ⟨fun z => u2.mp (by omega), fun z => by rw [u2.mpr z]⟩
  simp only [v1, v2]
