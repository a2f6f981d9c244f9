/-! THE CONSTRUCTORS: the class. Written by wip/b/mk99zzm.py. -/
theorem l_init {ka : Nat → Nat} {s : TH} {a : Nat} (h : kd_ s a = 1) : f_Jx4a65c_init_da8c8 ka s a = some ((), sr_ (si_ s 0 a 0) 1 a (some (ka 200))) := by
  unfold f_Jx4a65c_init_da8c8 f_Jxc12de_init_da8c8 f_Jxa1e45_init_da8c8
  rw [bd_s, gt_t h, lt_e, bd_s, gt_t (show kd_ (si_ s 0 a 0) a = 1 from h), lt_e]
/-- where the class's objects stand behind it -/
def offC_ (r : Nat) : Nat := if r < 8 then r else if r = 8 then 22 else r - 1
/-- an array is filled -/
theorem k_fillA8 {s : TH} {a l : Nat} (v : Int32) (hk : kd_ s a = 20) (hl : ln_ s a = l) (h5 : l ≤ 1000) : ∃ s2, f_J7_fill_53178 s (some a) v = some ((), s2) ∧ (∀ {T : Nat → Prop} {c : TH}, fq_ T c s → nx_ c ≤ a → fq_ T c s2) ∧ (nx_ s2 = nx_ s ∧ sl_ s2 = sl_ s ∧ kd_ s2 = kd_ s ∧ ln_ s2 = ln_ s ∧ fr_ s2 = fr_ s ∧ fi_ s2 = fi_ s) ∧ ∀ q i, ai_ s2 q i = if q = a ∧ i < l then v else ai_ s q i := by
  have key : ∃ r, f_J7_fill_53178_b5 fu_ s (some a) v (nI 0) (nI l) = some r ∧ ∃ s2, r = ((), s2) ∧ (∀ {T : Nat → Prop} {c : TH}, fq_ T c s → nx_ c ≤ a → fq_ T c s2) ∧ (nx_ s2 = nx_ s ∧ sl_ s2 = sl_ s ∧ kd_ s2 = kd_ s ∧ ln_ s2 = ln_ s ∧ fr_ s2 = fr_ s ∧ fi_ s2 = fi_ s) ∧ ∀ q i, ai_ s2 q i = if q = a ∧ i < l then v else ai_ s q i := by
    refine lpe_ (F := fun f (τ : TH) k => f_J7_fill_53178_b5 f τ (some a) v k (nI l)) l (fun n s2 => (∀ {T : Nat → Prop} {c : TH}, fq_ T c s → nx_ c ≤ a → fq_ T c s2) ∧ (nx_ s2 = nx_ s ∧ sl_ s2 = sl_ s ∧ kd_ s2 = kd_ s ∧ ln_ s2 = ln_ s ∧ fr_ s2 = fr_ s ∧ fi_ s2 = fi_ s) ∧ ∀ q i, ai_ s2 q i = if q = a ∧ i < n then v else ai_ s q i) (fun r => ∃ s2, r = ((), s2) ∧ (∀ {T : Nat → Prop} {c : TH}, fq_ T c s → nx_ c ≤ a → fq_ T c s2) ∧ (nx_ s2 = nx_ s ∧ sl_ s2 = sl_ s ∧ kd_ s2 = kd_ s ∧ ln_ s2 = ln_ s ∧ fr_ s2 = fr_ s ∧ fi_ s2 = fi_ s) ∧ ∀ q i, ai_ s2 q i = if q = a ∧ i < l then v else ai_ s q i) (fun f n τ hn hI => ?_) (fun f τ hI => ?_) (by omega) s ⟨fun h _ => h, ⟨rfl, rfl, rfl, rfl, rfl, rfl⟩, fun q i => by simp⟩
    · obtain ⟨i1, ⟨i2, i3, i4, i5, i6, i7⟩, i8⟩ := hI
      refine ⟨sa_ τ a n v, ?_, fun h0 h1 => fq_san (i1 h0 h1) h1, ⟨i2, i3, i4, i5, i6, i7⟩, fun q i => ?_⟩
      · show f_J7_fill_53178_b5 (f + 1) τ (some a) v (nI n) (nI l) = f_J7_fill_53178_b5 f (sa_ τ a n v) (some a) v (nI (n + 1)) (nI l)
        rw [f_J7_fill_53178_b5, if_neg (nI_ge hn (by omega)), nn_s, gt_t (by rw [i4]; exact hk), nI_clamp (by omega), i5, hl, gt_t (ix9_ (k := n) (M := l) hn (by omega)), lt_e, lt_e, nI_1]
      · show up2_ (ai_ τ) a n v q i = _
        by_cases z : q = a ∧ i = n
        · obtain ⟨rfl, rfl⟩ := z
          rw [up2_s, if_pos ⟨rfl, by omega⟩]
        · rw [up2_ne z, i8 q i]
          by_cases z2 : q = a ∧ i < n
          · rw [if_pos z2, if_pos ⟨z2.1, by omega⟩]
          · rw [if_neg z2, if_neg (fun w => by
              have := w.2
              by_cases zi : i = n
              · exact z ⟨w.1, zi⟩
              · exact z2 ⟨w.1, by omega⟩)]
    · refine ⟨((), τ), ?_, τ, rfl, hI⟩
      show f_J7_fill_53178_b5 (f + 1) τ (some a) v (nI l) (nI l) = _
      rw [f_J7_fill_53178_b5, if_pos (Int32.le_refl _)]
  obtain ⟨_, e, s2, rfl, w⟩ := key
  refine ⟨s2, ?_, w⟩
  unfold f_J7_fill_53178
  rw [nn_s, gt_t hk, lt_e, nIo, hl]
  exact e
set_option maxHeartbeats 8000000 in
set_option maxRecDepth 100000 in
theorem mk_class {ka : Nat → Nat} {c : TH} (hw : wf_ c) : ∃ s, f_X11_init ka (nw_ c 13 0 20) (nx_ c) = some ((), s) ∧ fq_ (fun _ => False) c s ∧ (nx_ s = nx_ c + 23 ∧ sl_ s = sl_ c + 2643) ∧ (∀ r, r < 23 → kd_ s (nx_ c + offC_ r) = KC r ∧ ln_ s (nx_ c + offC_ r) = LC r) ∧ (fr_ s 1200 (nx_ c) = some (nx_ c + 1) ∧ fr_ s 1201 (nx_ c) = some (nx_ c + 2) ∧ fr_ s 1202 (nx_ c) = some (nx_ c + 3) ∧ fr_ s 1203 (nx_ c) = some (nx_ c + 4) ∧ fr_ s 1204 (nx_ c) = some (nx_ c + 5) ∧ fr_ s 1205 (nx_ c) = some (nx_ c + 6) ∧ fr_ s 1206 (nx_ c) = some (nx_ c + 7) ∧ fr_ s 1207 (nx_ c) = some (nx_ c + 8) ∧ fr_ s 1208 (nx_ c) = some (nx_ c + 9) ∧ fr_ s 1209 (nx_ c) = some (nx_ c + 13) ∧ fr_ s 1210 (nx_ c) = some (nx_ c + 16) ∧ fr_ s 1218 (nx_ c) = some (nx_ c + 22) ∧ fr_ s 700 (nx_ c + 9) = some (nx_ c + 10) ∧ fr_ s 704 (nx_ c + 9) = some (nx_ c + 11) ∧ fr_ s 705 (nx_ c + 9) = some (nx_ c + 12) ∧ fr_ s 500 (nx_ c + 13) = some (nx_ c + 14) ∧ fr_ s 501 (nx_ c + 13) = some (nx_ c + 15) ∧ fr_ s 100 (nx_ c + 16) = some (nx_ c + 17) ∧ fr_ s 101 (nx_ c + 16) = some (nx_ c + 18) ∧ fr_ s 102 (nx_ c + 16) = some (nx_ c + 19) ∧ fr_ s 103 (nx_ c + 16) = some (nx_ c + 20) ∧ fr_ s 104 (nx_ c + 16) = some (nx_ c + 21)) ∧ ((fi_ s 2 (nx_ c + 1) = 0 ∧ fr_ s 1 (nx_ c + 1) = some (ka 200)) ∧ (fi_ s 2 (nx_ c + 2) = 0 ∧ fr_ s 1 (nx_ c + 2) = some (ka 200)) ∧ (fi_ s 2 (nx_ c + 3) = 0 ∧ fr_ s 1 (nx_ c + 3) = some (ka 200)) ∧ (fi_ s 2 (nx_ c + 4) = 0 ∧ fr_ s 1 (nx_ c + 4) = some (ka 200)) ∧ (fi_ s 2 (nx_ c + 5) = 0 ∧ fr_ s 1 (nx_ c + 5) = some (ka 200)) ∧ (fi_ s 2 (nx_ c + 6) = 0 ∧ fr_ s 1 (nx_ c + 6) = some (ka 200)) ∧ (fi_ s 2 (nx_ c + 7) = 0 ∧ fr_ s 1 (nx_ c + 7) = some (ka 200)) ∧ (fi_ s 2 (nx_ c + 22) = 0 ∧ fr_ s 1 (nx_ c + 22) = some (ka 200))) ∧ (fi_ s 1211 (nx_ c) = 0 ∧ fi_ s 1212 (nx_ c) = 0 ∧ fi_ s 1213 (nx_ c) = 0 ∧ fi_ s 1214 (nx_ c) = 0 ∧ fi_ s 1215 (nx_ c) = 0 ∧ fi_ s 1216 (nx_ c) = -1 ∧ fi_ s 1217 (nx_ c) = -1 ∧ fi_ s 1219 (nx_ c) = -1 ∧ fi_ s 701 (nx_ c + 9) = 0 ∧ fi_ s 702 (nx_ c + 9) = 0) ∧ (∀ k, k < 10 → ai_ s (nx_ c + 8) k = 365) ∧ ∀ k, ai_ s (nx_ c + 10) k = 0 := by
  have h := nv_0 hw 13 20 (by decide)
  unfold f_X11_init
  generalize nw_ c 13 0 20 = s at h ⊢
  rw [gt_t (nv_z h), lt_e, lt_e]
  rw [nv_nx h]
  replace h := nv_nw h 1 0 3 (by decide)
  generalize nw_ s 1 0 3 = s at h ⊢
  rw [l_init (ka := ka) (show kd_ s (nx_ c + 1) = 1 from nv_kd (j := 1) h rfl (by decide) rfl), bd_s]
  replace h := nv_si (a := nx_ c + 1) (j := 1) h rfl (by decide) 0 0
  generalize si_ s 0 (nx_ c + 1) 0 = s at h ⊢
  replace h := nv_sr (a := nx_ c + 1) (j := 1) h rfl (by decide) 1 (some (ka 200))
  generalize sr_ s 1 (nx_ c + 1) (some (ka 200)) = s at h ⊢
  rw [gt_t (show kd_ s (nx_ c) = 13 from nv_kd (j := 0) h rfl (by decide) rfl)]
  rw [lt_e]
  replace h := nv_sr (a := nx_ c) (j := 0) h rfl (by decide) 1200 (some (nx_ c + 1))
  generalize sr_ s 1200 (nx_ c) (some (nx_ c + 1)) = s at h ⊢
  rw [gt_t (nv_z h), lt_e, lt_e]
  rw [nv_nx h]
  replace h := nv_nw h 1 0 3 (by decide)
  generalize nw_ s 1 0 3 = s at h ⊢
  rw [l_init (ka := ka) (show kd_ s (nx_ c + 2) = 1 from nv_kd (j := 2) h rfl (by decide) rfl), bd_s]
  replace h := nv_si (a := nx_ c + 2) (j := 2) h rfl (by decide) 0 0
  generalize si_ s 0 (nx_ c + 2) 0 = s at h ⊢
  replace h := nv_sr (a := nx_ c + 2) (j := 2) h rfl (by decide) 1 (some (ka 200))
  generalize sr_ s 1 (nx_ c + 2) (some (ka 200)) = s at h ⊢
  rw [lt_e]
  replace h := nv_sr (a := nx_ c) (j := 0) h rfl (by decide) 1201 (some (nx_ c + 2))
  generalize sr_ s 1201 (nx_ c) (some (nx_ c + 2)) = s at h ⊢
  rw [gt_t (nv_z h), lt_e, lt_e]
  rw [nv_nx h]
  replace h := nv_nw h 1 0 3 (by decide)
  generalize nw_ s 1 0 3 = s at h ⊢
  rw [l_init (ka := ka) (show kd_ s (nx_ c + 3) = 1 from nv_kd (j := 3) h rfl (by decide) rfl), bd_s]
  replace h := nv_si (a := nx_ c + 3) (j := 3) h rfl (by decide) 0 0
  generalize si_ s 0 (nx_ c + 3) 0 = s at h ⊢
  replace h := nv_sr (a := nx_ c + 3) (j := 3) h rfl (by decide) 1 (some (ka 200))
  generalize sr_ s 1 (nx_ c + 3) (some (ka 200)) = s at h ⊢
  rw [lt_e]
  replace h := nv_sr (a := nx_ c) (j := 0) h rfl (by decide) 1202 (some (nx_ c + 3))
  generalize sr_ s 1202 (nx_ c) (some (nx_ c + 3)) = s at h ⊢
  rw [gt_t (nv_z h), lt_e, lt_e]
  rw [nv_nx h]
  replace h := nv_nw h 1 0 3 (by decide)
  generalize nw_ s 1 0 3 = s at h ⊢
  rw [l_init (ka := ka) (show kd_ s (nx_ c + 4) = 1 from nv_kd (j := 4) h rfl (by decide) rfl), bd_s]
  replace h := nv_si (a := nx_ c + 4) (j := 4) h rfl (by decide) 0 0
  generalize si_ s 0 (nx_ c + 4) 0 = s at h ⊢
  replace h := nv_sr (a := nx_ c + 4) (j := 4) h rfl (by decide) 1 (some (ka 200))
  generalize sr_ s 1 (nx_ c + 4) (some (ka 200)) = s at h ⊢
  rw [lt_e]
  replace h := nv_sr (a := nx_ c) (j := 0) h rfl (by decide) 1203 (some (nx_ c + 4))
  generalize sr_ s 1203 (nx_ c) (some (nx_ c + 4)) = s at h ⊢
  rw [gt_t (nv_z h), lt_e, lt_e]
  rw [nv_nx h]
  replace h := nv_nw h 1 0 3 (by decide)
  generalize nw_ s 1 0 3 = s at h ⊢
  rw [l_init (ka := ka) (show kd_ s (nx_ c + 5) = 1 from nv_kd (j := 5) h rfl (by decide) rfl), bd_s]
  replace h := nv_si (a := nx_ c + 5) (j := 5) h rfl (by decide) 0 0
  generalize si_ s 0 (nx_ c + 5) 0 = s at h ⊢
  replace h := nv_sr (a := nx_ c + 5) (j := 5) h rfl (by decide) 1 (some (ka 200))
  generalize sr_ s 1 (nx_ c + 5) (some (ka 200)) = s at h ⊢
  rw [lt_e]
  replace h := nv_sr (a := nx_ c) (j := 0) h rfl (by decide) 1204 (some (nx_ c + 5))
  generalize sr_ s 1204 (nx_ c) (some (nx_ c + 5)) = s at h ⊢
  rw [gt_t (nv_z h), lt_e, lt_e]
  rw [nv_nx h]
  replace h := nv_nw h 1 0 3 (by decide)
  generalize nw_ s 1 0 3 = s at h ⊢
  rw [l_init (ka := ka) (show kd_ s (nx_ c + 6) = 1 from nv_kd (j := 6) h rfl (by decide) rfl), bd_s]
  replace h := nv_si (a := nx_ c + 6) (j := 6) h rfl (by decide) 0 0
  generalize si_ s 0 (nx_ c + 6) 0 = s at h ⊢
  replace h := nv_sr (a := nx_ c + 6) (j := 6) h rfl (by decide) 1 (some (ka 200))
  generalize sr_ s 1 (nx_ c + 6) (some (ka 200)) = s at h ⊢
  rw [lt_e]
  replace h := nv_sr (a := nx_ c) (j := 0) h rfl (by decide) 1205 (some (nx_ c + 6))
  generalize sr_ s 1205 (nx_ c) (some (nx_ c + 6)) = s at h ⊢
  rw [gt_t (nv_z h), lt_e, lt_e]
  rw [nv_nx h]
  replace h := nv_nw h 1 0 3 (by decide)
  generalize nw_ s 1 0 3 = s at h ⊢
  rw [l_init (ka := ka) (show kd_ s (nx_ c + 7) = 1 from nv_kd (j := 7) h rfl (by decide) rfl), bd_s]
  replace h := nv_si (a := nx_ c + 7) (j := 7) h rfl (by decide) 0 0
  generalize si_ s 0 (nx_ c + 7) 0 = s at h ⊢
  replace h := nv_sr (a := nx_ c + 7) (j := 7) h rfl (by decide) 1 (some (ka 200))
  generalize sr_ s 1 (nx_ c + 7) (some (ka 200)) = s at h ⊢
  rw [lt_e]
  replace h := nv_sr (a := nx_ c) (j := 0) h rfl (by decide) 1206 (some (nx_ c + 7))
  generalize sr_ s 1206 (nx_ c) (some (nx_ c + 7)) = s at h ⊢
  rw [gt_t ⟨by decide, by decide, nv_z h⟩, lt_e, lt_e]
  (try rw [show (10 : Int32).toNatClampNeg = 10 from by decide])
  rw [nv_nx h]
  replace h := nv_nw h 20 10 10 (by decide)
  generalize nw_ s 20 10 10 = s at h ⊢
  rw [lt_e]
  replace h := nv_sr (a := nx_ c) (j := 0) h rfl (by decide) 1207 (some (nx_ c + 8))
  generalize sr_ s 1207 (nx_ c) (some (nx_ c + 8)) = s at h ⊢
  rw [gt_t (nv_z h), lt_e, lt_e]
  rw [nv_nx h]
  replace h := nv_nw h 8 0 19 (by decide)
  generalize nw_ s 8 0 19 = s at h ⊢
  rw [f_X6_init]
  rw [gt_t ⟨by decide, by decide, nv_z h⟩, lt_e, lt_e]
  (try rw [show (400 : Int32).toNatClampNeg = 400 from by decide])
  rw [nv_nx h]
  replace h := nv_nw h 21 400 400 (by decide)
  generalize nw_ s 21 400 400 = s at h ⊢
  rw [gt_t (show kd_ s (nx_ c + 9) = 8 from nv_kd (j := 9) h rfl (by decide) rfl)]
  rw [lt_e]
  replace h := nv_sr (a := nx_ c + 9) (j := 9) h rfl (by decide) 700 (some (nx_ c + 10))
  generalize sr_ s 700 (nx_ c + 9) (some (nx_ c + 10)) = s at h ⊢
  rw [lt_e]
  replace h := nv_si (a := nx_ c + 9) (j := 9) h rfl (by decide) 701 0
  generalize si_ s 701 (nx_ c + 9) 0 = s at h ⊢
  rw [lt_e]
  replace h := nv_si (a := nx_ c + 9) (j := 9) h rfl (by decide) 702 0
  generalize si_ s 702 (nx_ c + 9) 0 = s at h ⊢
  rw [lt_e]
  replace h := nv_si (a := nx_ c + 9) (j := 9) h rfl (by decide) 703 0
  generalize si_ s 703 (nx_ c + 9) 0 = s at h ⊢
  rw [gt_t ⟨by decide, by decide, nv_z h⟩, lt_e, lt_e]
  (try rw [show (1024 : Int32).toNatClampNeg = 1024 from by decide])
  rw [nv_nx h]
  replace h := nv_nw h 20 1024 1024 (by decide)
  generalize nw_ s 20 1024 1024 = s at h ⊢
  rw [lt_e]
  replace h := nv_sr (a := nx_ c + 9) (j := 9) h rfl (by decide) 704 (some (nx_ c + 11))
  generalize sr_ s 704 (nx_ c + 9) (some (nx_ c + 11)) = s at h ⊢
  rw [gt_t ⟨by decide, by decide, nv_z h⟩, lt_e, lt_e]
  (try rw [show (5 : Int32).toNatClampNeg = 5 from by decide])
  rw [nv_nx h]
  replace h := nv_nw h 20 5 5 (by decide)
  generalize nw_ s 20 5 5 = s at h ⊢
  rw [lt_e]
  replace h := nv_sr (a := nx_ c + 9) (j := 9) h rfl (by decide) 705 (some (nx_ c + 12))
  generalize sr_ s 705 (nx_ c + 9) (some (nx_ c + 12)) = s at h ⊢
  rw [lt_e]
  replace h := nv_si (a := nx_ c + 9) (j := 9) h rfl (by decide) 706 0
  generalize si_ s 706 (nx_ c + 9) 0 = s at h ⊢
  rw [lt_e]
  replace h := nv_si (a := nx_ c + 9) (j := 9) h rfl (by decide) 707 0
  generalize si_ s 707 (nx_ c + 9) 0 = s at h ⊢
  rw [lt_e]
  replace h := nv_si (a := nx_ c + 9) (j := 9) h rfl (by decide) 708 0
  generalize si_ s 708 (nx_ c + 9) 0 = s at h ⊢
  rw [lt_e]
  replace h := nv_si (a := nx_ c + 9) (j := 9) h rfl (by decide) 709 0
  generalize si_ s 709 (nx_ c + 9) 0 = s at h ⊢
  rw [lt_e]
  replace h := nv_si (a := nx_ c + 9) (j := 9) h rfl (by decide) 710 0
  generalize si_ s 710 (nx_ c + 9) 0 = s at h ⊢
  rw [lt_e]
  replace h := nv_si (a := nx_ c + 9) (j := 9) h rfl (by decide) 711 0
  generalize si_ s 711 (nx_ c + 9) 0 = s at h ⊢
  rw [lt_e]
  replace h := nv_si (a := nx_ c + 9) (j := 9) h rfl (by decide) 712 0
  generalize si_ s 712 (nx_ c + 9) 0 = s at h ⊢
  rw [lt_e]
  replace h := nv_si (a := nx_ c + 9) (j := 9) h rfl (by decide) 713 0
  generalize si_ s 713 (nx_ c + 9) 0 = s at h ⊢
  rw [lt_e]
  replace h := nv_si (a := nx_ c + 9) (j := 9) h rfl (by decide) 714 0
  generalize si_ s 714 (nx_ c + 9) 0 = s at h ⊢
  rw [lt_e]
  replace h := nv_si (a := nx_ c + 9) (j := 9) h rfl (by decide) 715 0
  generalize si_ s 715 (nx_ c + 9) 0 = s at h ⊢
  rw [lt_e]
  replace h := nv_si (a := nx_ c + 9) (j := 9) h rfl (by decide) 716 0
  generalize si_ s 716 (nx_ c + 9) 0 = s at h ⊢
  rw [lt_e]
  replace h := nv_si (a := nx_ c + 9) (j := 9) h rfl (by decide) 717 0
  generalize si_ s 717 (nx_ c + 9) 0 = s at h ⊢
  rw [lt_e]
  replace h := nv_si (a := nx_ c + 9) (j := 9) h rfl (by decide) 718 0
  generalize si_ s 718 (nx_ c + 9) 0 = s at h ⊢
  rw [bd_s]
  rw [lt_e]
  replace h := nv_sr (a := nx_ c) (j := 0) h rfl (by decide) 1208 (some (nx_ c + 9))
  generalize sr_ s 1208 (nx_ c) (some (nx_ c + 9)) = s at h ⊢
  rw [gt_t (nv_z h), lt_e, lt_e]
  rw [nv_nx h]
  replace h := nv_nw h 6 0 14 (by decide)
  generalize nw_ s 6 0 14 = s at h ⊢
  rw [f_X4_init]
  rw [gt_t ⟨by decide, by decide, nv_z h⟩, lt_e, lt_e]
  (try rw [show (21 : Int32).toNatClampNeg = 21 from by decide])
  rw [nv_nx h]
  replace h := nv_nw h 20 21 21 (by decide)
  generalize nw_ s 20 21 21 = s at h ⊢
  rw [gt_t (show kd_ s (nx_ c + 13) = 6 from nv_kd (j := 13) h rfl (by decide) rfl)]
  rw [lt_e]
  replace h := nv_sr (a := nx_ c + 13) (j := 13) h rfl (by decide) 500 (some (nx_ c + 14))
  generalize sr_ s 500 (nx_ c + 13) (some (nx_ c + 14)) = s at h ⊢
  rw [gt_t ⟨by decide, by decide, nv_z h⟩, lt_e, lt_e]
  (try rw [show (1024 : Int32).toNatClampNeg = 1024 from by decide])
  rw [nv_nx h]
  replace h := nv_nw h 21 1024 1024 (by decide)
  generalize nw_ s 21 1024 1024 = s at h ⊢
  rw [lt_e]
  replace h := nv_sr (a := nx_ c + 13) (j := 13) h rfl (by decide) 501 (some (nx_ c + 15))
  generalize sr_ s 501 (nx_ c + 13) (some (nx_ c + 15)) = s at h ⊢
  rw [lt_e]
  replace h := nv_si (a := nx_ c + 13) (j := 13) h rfl (by decide) 502 0
  generalize si_ s 502 (nx_ c + 13) 0 = s at h ⊢
  rw [lt_e]
  replace h := nv_si (a := nx_ c + 13) (j := 13) h rfl (by decide) 503 0
  generalize si_ s 503 (nx_ c + 13) 0 = s at h ⊢
  rw [lt_e]
  replace h := nv_si (a := nx_ c + 13) (j := 13) h rfl (by decide) 504 0
  generalize si_ s 504 (nx_ c + 13) 0 = s at h ⊢
  rw [lt_e]
  replace h := nv_si (a := nx_ c + 13) (j := 13) h rfl (by decide) 505 0
  generalize si_ s 505 (nx_ c + 13) 0 = s at h ⊢
  rw [lt_e]
  replace h := nv_si (a := nx_ c + 13) (j := 13) h rfl (by decide) 506 0
  generalize si_ s 506 (nx_ c + 13) 0 = s at h ⊢
  rw [lt_e]
  replace h := nv_si (a := nx_ c + 13) (j := 13) h rfl (by decide) 507 0
  generalize si_ s 507 (nx_ c + 13) 0 = s at h ⊢
  rw [lt_e]
  replace h := nv_si (a := nx_ c + 13) (j := 13) h rfl (by decide) 508 0
  generalize si_ s 508 (nx_ c + 13) 0 = s at h ⊢
  rw [lt_e]
  replace h := nv_si (a := nx_ c + 13) (j := 13) h rfl (by decide) 509 0
  generalize si_ s 509 (nx_ c + 13) 0 = s at h ⊢
  rw [lt_e]
  replace h := nv_si (a := nx_ c + 13) (j := 13) h rfl (by decide) 510 0
  generalize si_ s 510 (nx_ c + 13) 0 = s at h ⊢
  rw [lt_e]
  replace h := nv_si (a := nx_ c + 13) (j := 13) h rfl (by decide) 511 0
  generalize si_ s 511 (nx_ c + 13) 0 = s at h ⊢
  rw [lt_e]
  replace h := nv_si (a := nx_ c + 13) (j := 13) h rfl (by decide) 512 0
  generalize si_ s 512 (nx_ c + 13) 0 = s at h ⊢
  rw [lt_e]
  replace h := nv_si (a := nx_ c + 13) (j := 13) h rfl (by decide) 513 0
  generalize si_ s 513 (nx_ c + 13) 0 = s at h ⊢
  rw [bd_s]
  rw [lt_e]
  replace h := nv_sr (a := nx_ c) (j := 0) h rfl (by decide) 1209 (some (nx_ c + 13))
  generalize sr_ s 1209 (nx_ c) (some (nx_ c + 13)) = s at h ⊢
  rw [gt_t (nv_z h), lt_e, lt_e]
  rw [nv_nx h]
  replace h := nv_nw h 2 0 11 (by decide)
  generalize nw_ s 2 0 11 = s at h ⊢
  rw [f_X0_init]
  rw [gt_t ⟨by decide, by decide, nv_z h⟩, lt_e, lt_e]
  (try rw [show (14 : Int32).toNatClampNeg = 14 from by decide])
  rw [nv_nx h]
  replace h := nv_nw h 20 14 14 (by decide)
  generalize nw_ s 20 14 14 = s at h ⊢
  rw [gt_t (show kd_ s (nx_ c + 16) = 2 from nv_kd (j := 16) h rfl (by decide) rfl)]
  rw [lt_e]
  replace h := nv_sr (a := nx_ c + 16) (j := 16) h rfl (by decide) 100 (some (nx_ c + 17))
  generalize sr_ s 100 (nx_ c + 16) (some (nx_ c + 17)) = s at h ⊢
  rw [gt_t ⟨by decide, by decide, nv_z h⟩, lt_e, lt_e]
  (try rw [show (14 : Int32).toNatClampNeg = 14 from by decide])
  rw [nv_nx h]
  replace h := nv_nw h 20 14 14 (by decide)
  generalize nw_ s 20 14 14 = s at h ⊢
  rw [lt_e]
  replace h := nv_sr (a := nx_ c + 16) (j := 16) h rfl (by decide) 101 (some (nx_ c + 18))
  generalize sr_ s 101 (nx_ c + 16) (some (nx_ c + 18)) = s at h ⊢
  rw [gt_t ⟨by decide, by decide, nv_z h⟩, lt_e, lt_e]
  (try rw [show (14 : Int32).toNatClampNeg = 14 from by decide])
  rw [nv_nx h]
  replace h := nv_nw h 20 14 14 (by decide)
  generalize nw_ s 20 14 14 = s at h ⊢
  rw [lt_e]
  replace h := nv_sr (a := nx_ c + 16) (j := 16) h rfl (by decide) 102 (some (nx_ c + 19))
  generalize sr_ s 102 (nx_ c + 16) (some (nx_ c + 19)) = s at h ⊢
  rw [gt_t ⟨by decide, by decide, nv_z h⟩, lt_e, lt_e]
  (try rw [show (14 : Int32).toNatClampNeg = 14 from by decide])
  rw [nv_nx h]
  replace h := nv_nw h 22 14 14 (by decide)
  generalize nw_ s 22 14 14 = s at h ⊢
  rw [lt_e]
  replace h := nv_sr (a := nx_ c + 16) (j := 16) h rfl (by decide) 103 (some (nx_ c + 20))
  generalize sr_ s 103 (nx_ c + 16) (some (nx_ c + 20)) = s at h ⊢
  rw [gt_t ⟨by decide, by decide, nv_z h⟩, lt_e, lt_e]
  (try rw [show (15 : Int32).toNatClampNeg = 15 from by decide])
  rw [nv_nx h]
  replace h := nv_nw h 20 15 15 (by decide)
  generalize nw_ s 20 15 15 = s at h ⊢
  rw [lt_e]
  replace h := nv_sr (a := nx_ c + 16) (j := 16) h rfl (by decide) 104 (some (nx_ c + 21))
  generalize sr_ s 104 (nx_ c + 16) (some (nx_ c + 21)) = s at h ⊢
  rw [lt_e]
  replace h := nv_si (a := nx_ c + 16) (j := 16) h rfl (by decide) 105 0
  generalize si_ s 105 (nx_ c + 16) 0 = s at h ⊢
  rw [lt_e]
  replace h := nv_si (a := nx_ c + 16) (j := 16) h rfl (by decide) 106 0
  generalize si_ s 106 (nx_ c + 16) 0 = s at h ⊢
  rw [lt_e]
  replace h := nv_si (a := nx_ c + 16) (j := 16) h rfl (by decide) 107 0
  generalize si_ s 107 (nx_ c + 16) 0 = s at h ⊢
  rw [lt_e]
  replace h := nv_si (a := nx_ c + 16) (j := 16) h rfl (by decide) 108 0
  generalize si_ s 108 (nx_ c + 16) 0 = s at h ⊢
  rw [lt_e]
  replace h := nv_si (a := nx_ c + 16) (j := 16) h rfl (by decide) 109 0
  generalize si_ s 109 (nx_ c + 16) 0 = s at h ⊢
  rw [lt_e]
  replace h := nv_si (a := nx_ c + 16) (j := 16) h rfl (by decide) 110 0
  generalize si_ s 110 (nx_ c + 16) 0 = s at h ⊢
  rw [bd_s]
  rw [lt_e]
  replace h := nv_sr (a := nx_ c) (j := 0) h rfl (by decide) 1210 (some (nx_ c + 16))
  generalize sr_ s 1210 (nx_ c) (some (nx_ c + 16)) = s at h ⊢
  rw [lt_e]
  replace h := nv_si (a := nx_ c) (j := 0) h rfl (by decide) 1211 0
  generalize si_ s 1211 (nx_ c) 0 = s at h ⊢
  rw [lt_e]
  replace h := nv_si (a := nx_ c) (j := 0) h rfl (by decide) 1212 0
  generalize si_ s 1212 (nx_ c) 0 = s at h ⊢
  rw [lt_e]
  replace h := nv_si (a := nx_ c) (j := 0) h rfl (by decide) 1213 0
  generalize si_ s 1213 (nx_ c) 0 = s at h ⊢
  rw [lt_e]
  replace h := nv_si (a := nx_ c) (j := 0) h rfl (by decide) 1214 0
  generalize si_ s 1214 (nx_ c) 0 = s at h ⊢
  rw [lt_e]
  replace h := nv_si (a := nx_ c) (j := 0) h rfl (by decide) 1215 0
  generalize si_ s 1215 (nx_ c) 0 = s at h ⊢
  rw [lt_e]
  replace h := nv_si (a := nx_ c) (j := 0) h rfl (by decide) 1216 (-1)
  generalize si_ s 1216 (nx_ c) (-1) = s at h ⊢
  rw [lt_e]
  replace h := nv_si (a := nx_ c) (j := 0) h rfl (by decide) 1217 (-1)
  generalize si_ s 1217 (nx_ c) (-1) = s at h ⊢
  rw [gt_t (nv_z h), lt_e, lt_e]
  rw [nv_nx h]
  replace h := nv_nw h 1 0 3 (by decide)
  generalize nw_ s 1 0 3 = s at h ⊢
  rw [l_init (ka := ka) (show kd_ s (nx_ c + 22) = 1 from nv_kd (j := 22) h rfl (by decide) rfl), bd_s]
  replace h := nv_si (a := nx_ c + 22) (j := 22) h rfl (by decide) 0 0
  generalize si_ s 0 (nx_ c + 22) 0 = s at h ⊢
  replace h := nv_sr (a := nx_ c + 22) (j := 22) h rfl (by decide) 1 (some (ka 200))
  generalize sr_ s 1 (nx_ c + 22) (some (ka 200)) = s at h ⊢
  rw [lt_e]
  replace h := nv_sr (a := nx_ c) (j := 0) h rfl (by decide) 1218 (some (nx_ c + 22))
  generalize sr_ s 1218 (nx_ c) (some (nx_ c + 22)) = s at h ⊢
  rw [lt_e]
  replace h := nv_si (a := nx_ c) (j := 0) h rfl (by decide) 1219 (-1)
  generalize si_ s 1219 (nx_ c) (-1) = s at h ⊢
  obtain ⟨q1, ⟨q2, q3⟩, q4⟩ := h
  have k8 : kd_ s (nx_ c + 8) = 20 := (q4 8 (by decide)).1.1
  have n8 : ln_ s (nx_ c + 8) = 10 := (q4 8 (by decide)).1.2
  have hKL : ∀ r, r < 23 → kd_ s (nx_ c + offC_ r) = KC r ∧ ln_ s (nx_ c + offC_ r) = LC r := by
    intro r hr
    have hrr : r = 0 ∨ r = 1 ∨ r = 2 ∨ r = 3 ∨ r = 4 ∨ r = 5 ∨ r = 6 ∨ r = 7 ∨ r = 8 ∨ r = 9 ∨ r = 10 ∨ r = 11 ∨ r = 12 ∨ r = 13 ∨ r = 14 ∨ r = 15 ∨ r = 16 ∨ r = 17 ∨ r = 18 ∨ r = 19 ∨ r = 20 ∨ r = 21 ∨ r = 22 := by omega
    rcases hrr with rfl | rfl | rfl | rfl | rfl | rfl | rfl | rfl | rfl | rfl | rfl | rfl | rfl | rfl | rfl | rfl | rfl | rfl | rfl | rfl | rfl | rfl | rfl
    · exact (q4 0 (by decide)).1
    · exact (q4 1 (by decide)).1
    · exact (q4 2 (by decide)).1
    · exact (q4 3 (by decide)).1
    · exact (q4 4 (by decide)).1
    · exact (q4 5 (by decide)).1
    · exact (q4 6 (by decide)).1
    · exact (q4 7 (by decide)).1
    · exact (q4 22 (by decide)).1
    · exact (q4 8 (by decide)).1
    · exact (q4 9 (by decide)).1
    · exact (q4 10 (by decide)).1
    · exact (q4 11 (by decide)).1
    · exact (q4 12 (by decide)).1
    · exact (q4 13 (by decide)).1
    · exact (q4 14 (by decide)).1
    · exact (q4 15 (by decide)).1
    · exact (q4 16 (by decide)).1
    · exact (q4 17 (by decide)).1
    · exact (q4 18 (by decide)).1
    · exact (q4 19 (by decide)).1
    · exact (q4 20 (by decide)).1
    · exact (q4 21 (by decide)).1
  have hRF : fr_ s 1200 (nx_ c) = some (nx_ c + 1) ∧ fr_ s 1201 (nx_ c) = some (nx_ c + 2) ∧ fr_ s 1202 (nx_ c) = some (nx_ c + 3) ∧ fr_ s 1203 (nx_ c) = some (nx_ c + 4) ∧ fr_ s 1204 (nx_ c) = some (nx_ c + 5) ∧ fr_ s 1205 (nx_ c) = some (nx_ c + 6) ∧ fr_ s 1206 (nx_ c) = some (nx_ c + 7) ∧ fr_ s 1207 (nx_ c) = some (nx_ c + 8) ∧ fr_ s 1208 (nx_ c) = some (nx_ c + 9) ∧ fr_ s 1209 (nx_ c) = some (nx_ c + 13) ∧ fr_ s 1210 (nx_ c) = some (nx_ c + 16) ∧ fr_ s 1218 (nx_ c) = some (nx_ c + 22) ∧ fr_ s 700 (nx_ c + 9) = some (nx_ c + 10) ∧ fr_ s 704 (nx_ c + 9) = some (nx_ c + 11) ∧ fr_ s 705 (nx_ c + 9) = some (nx_ c + 12) ∧ fr_ s 500 (nx_ c + 13) = some (nx_ c + 14) ∧ fr_ s 501 (nx_ c + 13) = some (nx_ c + 15) ∧ fr_ s 100 (nx_ c + 16) = some (nx_ c + 17) ∧ fr_ s 101 (nx_ c + 16) = some (nx_ c + 18) ∧ fr_ s 102 (nx_ c + 16) = some (nx_ c + 19) ∧ fr_ s 103 (nx_ c + 16) = some (nx_ c + 20) ∧ fr_ s 104 (nx_ c + 16) = some (nx_ c + 21) := ⟨(q4 0 (by decide)).2.2.1 1200, (q4 0 (by decide)).2.2.1 1201, (q4 0 (by decide)).2.2.1 1202, (q4 0 (by decide)).2.2.1 1203, (q4 0 (by decide)).2.2.1 1204, (q4 0 (by decide)).2.2.1 1205, (q4 0 (by decide)).2.2.1 1206, (q4 0 (by decide)).2.2.1 1207, (q4 0 (by decide)).2.2.1 1208, (q4 0 (by decide)).2.2.1 1209, (q4 0 (by decide)).2.2.1 1210, (q4 0 (by decide)).2.2.1 1218, (q4 9 (by decide)).2.2.1 700, (q4 9 (by decide)).2.2.1 704, (q4 9 (by decide)).2.2.1 705, (q4 13 (by decide)).2.2.1 500, (q4 13 (by decide)).2.2.1 501, (q4 16 (by decide)).2.2.1 100, (q4 16 (by decide)).2.2.1 101, (q4 16 (by decide)).2.2.1 102, (q4 16 (by decide)).2.2.1 103, (q4 16 (by decide)).2.2.1 104⟩
  have hLI : (fi_ s 2 (nx_ c + 1) = 0 ∧ fr_ s 1 (nx_ c + 1) = some (ka 200)) ∧ (fi_ s 2 (nx_ c + 2) = 0 ∧ fr_ s 1 (nx_ c + 2) = some (ka 200)) ∧ (fi_ s 2 (nx_ c + 3) = 0 ∧ fr_ s 1 (nx_ c + 3) = some (ka 200)) ∧ (fi_ s 2 (nx_ c + 4) = 0 ∧ fr_ s 1 (nx_ c + 4) = some (ka 200)) ∧ (fi_ s 2 (nx_ c + 5) = 0 ∧ fr_ s 1 (nx_ c + 5) = some (ka 200)) ∧ (fi_ s 2 (nx_ c + 6) = 0 ∧ fr_ s 1 (nx_ c + 6) = some (ka 200)) ∧ (fi_ s 2 (nx_ c + 7) = 0 ∧ fr_ s 1 (nx_ c + 7) = some (ka 200)) ∧ (fi_ s 2 (nx_ c + 22) = 0 ∧ fr_ s 1 (nx_ c + 22) = some (ka 200)) := ⟨⟨(q4 1 (by decide)).2.1 2, (q4 1 (by decide)).2.2.1 1⟩, ⟨(q4 2 (by decide)).2.1 2, (q4 2 (by decide)).2.2.1 1⟩, ⟨(q4 3 (by decide)).2.1 2, (q4 3 (by decide)).2.2.1 1⟩, ⟨(q4 4 (by decide)).2.1 2, (q4 4 (by decide)).2.2.1 1⟩, ⟨(q4 5 (by decide)).2.1 2, (q4 5 (by decide)).2.2.1 1⟩, ⟨(q4 6 (by decide)).2.1 2, (q4 6 (by decide)).2.2.1 1⟩, ⟨(q4 7 (by decide)).2.1 2, (q4 7 (by decide)).2.2.1 1⟩, ⟨(q4 22 (by decide)).2.1 2, (q4 22 (by decide)).2.2.1 1⟩⟩
  have hIN : fi_ s 1211 (nx_ c) = 0 ∧ fi_ s 1212 (nx_ c) = 0 ∧ fi_ s 1213 (nx_ c) = 0 ∧ fi_ s 1214 (nx_ c) = 0 ∧ fi_ s 1215 (nx_ c) = 0 ∧ fi_ s 1216 (nx_ c) = -1 ∧ fi_ s 1217 (nx_ c) = -1 ∧ fi_ s 1219 (nx_ c) = -1 ∧ fi_ s 701 (nx_ c + 9) = 0 ∧ fi_ s 702 (nx_ c + 9) = 0 := ⟨(q4 0 (by decide)).2.1 1211, (q4 0 (by decide)).2.1 1212, (q4 0 (by decide)).2.1 1213, (q4 0 (by decide)).2.1 1214, (q4 0 (by decide)).2.1 1215, (q4 0 (by decide)).2.1 1216, (q4 0 (by decide)).2.1 1217, (q4 0 (by decide)).2.1 1219, (q4 9 (by decide)).2.1 701, (q4 9 (by decide)).2.1 702⟩
  have a8 := (q4 8 (by decide)).2.2.2
  have a10 := (q4 10 (by decide)).2.2.2
  clear q4
  obtain ⟨s2, e, g1, ⟨g2, g3, g4, g5, g6, g7⟩, g8⟩ := k_fillA8 (s := s) (a := nx_ c + 8) (l := 10) 365 k8 n8 (by decide)
  refine ⟨s2, ?_, g1 q1 (by omega), ⟨g2.trans q2, g3.trans q3⟩, by rw [g4, g5]; exact hKL, by rw [g6]; exact hRF, by rw [g6, g7]; exact hLI, by rw [g7]; exact hIN, fun k hk => by rw [g8, if_pos ⟨rfl, hk⟩], fun k => by rw [g8, if_neg (fun z => by omega)]; exact a10 k⟩
  rw [lt_e, hRF.2.2.2.2.2.2.2.1, e, bd_s]
