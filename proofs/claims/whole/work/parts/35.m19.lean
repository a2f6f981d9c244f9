/-! Functions over the typed heap and contracts, by wip/gen/gen.py: X11_out L_out X15_isText X15_rule X15_paragraph X15_rewrite X15_init -/
theorem dX11_out_0 : decode cX11_out 0 = .ok (.iload_n 1, 1) := by decide +kernel
theorem dX11_out_1 : decode cX11_out 1 = .ok (.ifCond .lt 23, 3) := by decide +kernel
theorem dX11_out_4 : decode cX11_out 4 = .ok (.iload_n 1, 1) := by decide +kernel
theorem dX11_out_5 : decode cX11_out 5 = .ok (.aload_n 0, 1) := by decide +kernel
theorem dX11_out_6 : decode cX11_out 6 = .ok (.getfield 72, 3) := by decide +kernel
theorem dX11_out_9 : decode cX11_out 9 = .ok (.if_icmp .ge 15, 3) := by decide +kernel
theorem dX11_out_12 : decode cX11_out 12 = .ok (.iload_n 1, 1) := by decide +kernel
theorem dX11_out_13 : decode cX11_out 13 = .ok (.aload_n 0, 1) := by decide +kernel
theorem dX11_out_14 : decode cX11_out 14 = .ok (.getfield 48, 3) := by decide +kernel
theorem dX11_out_17 : decode cX11_out 17 = .ok (.getfield 307, 3) := by decide +kernel
theorem dX11_out_20 : decode cX11_out 20 = .ok (.arraylength, 1) := by decide +kernel
theorem dX11_out_21 : decode cX11_out 21 = .ok (.if_icmp .lt 11, 3) := by decide +kernel
theorem dX11_out_24 : decode cX11_out 24 = .ok (.new 311, 3) := by decide +kernel
theorem dX11_out_27 : decode cX11_out 27 = .ok (.dup, 1) := by decide +kernel
theorem dX11_out_28 : decode cX11_out 28 = .ok (.invokespecial 313, 3) := by decide +kernel
theorem dX11_out_31 : decode cX11_out 31 = .ok (.athrow, 1) := by decide +kernel
theorem dX11_out_32 : decode cX11_out 32 = .ok (.aload_n 0, 1) := by decide +kernel
theorem dX11_out_33 : decode cX11_out 33 = .ok (.getfield 48, 3) := by decide +kernel
theorem dX11_out_36 : decode cX11_out 36 = .ok (.getfield 307, 3) := by decide +kernel
theorem dX11_out_39 : decode cX11_out 39 = .ok (.iload_n 1, 1) := by decide +kernel
theorem dX11_out_40 : decode cX11_out 40 = .ok (.baload, 1) := by decide +kernel
theorem dX11_out_41 : decode cX11_out 41 = .ok (.ireturn, 1) := by decide +kernel
def f_X11_out_b24 (σ : TH) : Option ((Int32 ⊕ Nat) × TH) :=
  some (.inr (nx_ σ), nq_ σ)
set_option maxHeartbeats 4000000 in
set_option maxRecDepth 100000 in
theorem t_X11_out_b24 {l : Launch} {D : va_G} {cy : Nat → ClassId} {ka : Nat → Nat} {σ0 z : TH} {w : (Int32 ⊕ Nat)} (hl9 : l.stackTraces = false)  {σ : TH}  (hf : f_X11_out_b24 σ  = some (w, z)) : v_ l D cy ka cX11_out RX11 2 (some FieldType.int) "out" 6 100 (qm_ D cy σ0 z (fun r : Int32 => some (.int r)) w) σ0 z σ 24 [] [] := by
  unfold f_X11_out_b24 at hf
  exact v_throwN hl9 kw_1351 kw_28 n_at_X11_out (by decide +kernel) (by decide +kernel) hf dX11_out_24 dX11_out_27 dX11_out_28 dX11_out_31 (by decide) (by decide)
/-- LivesAhead.out(I)I -/
def f_X11_out (σ : TH) (p0 : Nat) (p1 : Int32) : Option ((Int32 ⊕ Nat) × TH) :=
  if p1 < 0 then (f_X11_out_b24 σ ) else (gt_ (kd_ σ p0 = 13) <| lt_ (fi_ σ 1215 p0) fun x1 => if x1 ≤ p1 then (f_X11_out_b24 σ ) else (lt_ (fr_ σ 1209 p0) fun r2 => nn_ r2 fun a3 => gt_ (kd_ σ a3 = 6) <| lt_ (fr_ σ 501 a3) fun r4 => nn_ r4 fun a5 => gt_ (kd_ σ a5 = 21) <| lt_ (Int32.ofNat (ln_ σ a5)) fun x6 => if p1 < x6 then (lt_ (fr_ σ 1209 p0) fun r7 => nn_ r7 fun a8 => gt_ (kd_ σ a8 = 6) <| lt_ (fr_ σ 501 a8) fun r9 => nn_ r9 fun a10 => gt_ (kd_ σ a10 = 21) <| gt_ (¬ (p1 < 0 ∨ ln_ σ a10 ≤ p1.toNatClampNeg)) <| lt_ (ai_ σ a10 p1.toNatClampNeg) fun x11 => some (.inl (x11), σ)) else (f_X11_out_b24 σ )))
set_option maxHeartbeats 4000000 in
set_option maxRecDepth 100000 in
theorem c_X11_out {l : Launch} {D : va_G} {cy : Nat → ClassId} {ka : Nat → Nat} {σ z : TH} {p0 : Nat} {p1 : Int32} {w : (Int32 ⊕ Nat)} (hl9 : l.stackTraces = false) (hf : f_X11_out σ p0 p1 = some (w, z)) : cm_ l D cy ka yX11_out 6 100 [va_rf (some p0), .int p1] σ (fun r : Int32 => some (.int r)) w z := by
  unfold f_X11_out at hf
  refine m_start (rf := (fun r : Int32 => some (.int r))) (w := w) (cc := cX11_out) (own := RX11) (maxL := 2) (ret := (some FieldType.int)) (nm := "out") (by decide +kernel) kw_1350 rfl rfl (by simp [lg_sl, va_rf_cat, cat_i, cat_l]) ?_
  refine v_eqL (L2 := [(0, va_rf (some p0)), (1, .int p1)]) (by simp [lv_args, va_rf_cat, cat_i, cat_l]) ?_
  refine v_iload_n (x := p1) dX11_out_0 rfl 1 rfl ?_
  refine v_if_lt (tgt := 24) hf dX11_out_1 (by decide) (fun hq hf => ?_) (fun hq hf => ?_)
  · refine v_sub [] (L2 := []) rfl ?_
    exact t_X11_out_b24 hl9  hf
  · refine v_iload_n (x := p1) dX11_out_4 rfl 1 rfl ?_
    refine v_aload_n (x := (some p0)) dX11_out_5 rfl 0 rfl ?_
    obtain ⟨hk_p0, hf⟩ := gt_of hf
    refine v_geti cb_12 hk_p0 15 1215 rfl (by decide) rfl (lk_n kw_254 rfl) hf dX11_out_6 (fun x1 hf => ?_)
    refine v_icmp_ge (tgt := 24) hf dX11_out_9 (by decide) (fun hq hf => ?_) (fun hq hf => ?_)
    · refine v_sub [] (L2 := []) rfl ?_
      exact t_X11_out_b24 hl9  hf
    · refine v_iload_n (x := p1) dX11_out_12 rfl 1 rfl ?_
      refine v_aload_n (x := (some p0)) dX11_out_13 rfl 0 rfl ?_
      refine v_getr cb_12 hk_p0 9 1209 rfl (by decide) rfl (lk_n kw_248 rfl) hf dX11_out_14 (fun r2 hf => ?_)
      obtain ⟨a3, rfl, hf⟩ := nn_of hf
      obtain ⟨hk_a3, hf⟩ := gt_of hf
      refine v_getr cb_5 hk_a3 1 501 rfl (by decide) rfl (lk_n kw_146 rfl) hf dX11_out_17 (fun r4 hf => ?_)
      obtain ⟨a5, rfl, hf⟩ := nn_of hf
      obtain ⟨hk_a5, hf⟩ := gt_of hf
      refine v_alen 20 1 .byte hk_a5 (by decide) rfl hf dX11_out_20 (fun x6 hf => ?_)
      refine v_icmp_lt (tgt := 32) hf dX11_out_21 (by decide) (fun hq hf => ?_) (fun hq hf => ?_)
      · refine v_aload_n (x := (some p0)) dX11_out_32 rfl 0 rfl ?_
        refine v_getr cb_12 hk_p0 9 1209 rfl (by decide) rfl (lk_n kw_248 rfl) hf dX11_out_33 (fun r7 hf => ?_)
        obtain ⟨a8, rfl, hf⟩ := nn_of hf
        obtain ⟨hk_a8, hf⟩ := gt_of hf
        refine v_getr cb_5 hk_a8 1 501 rfl (by decide) rfl (lk_n kw_146 rfl) hf dX11_out_36 (fun r9 hf => ?_)
        refine v_iload_n (x := p1) dX11_out_39 rfl 1 rfl ?_
        obtain ⟨a10, rfl, hf⟩ := nn_of hf
        obtain ⟨hk_a10, hf⟩ := gt_of hf
        refine v_bald hk_a10 hf dX11_out_40 (fun x11 hf => ?_)
        exact v_iretM hf dX11_out_41
      · refine v_sub [] (L2 := []) rfl ?_
        exact t_X11_out_b24 hl9  hf
theorem dL_out_0 : decode cL_out 0 = .ok (.aload_n 2, 1) := by decide +kernel
theorem dL_out_1 : decode cL_out 1 = .ok (.iconst 0, 1) := by decide +kernel
theorem dL_out_2 : decode cL_out 2 = .ok (.aload_n 0, 1) := by decide +kernel
theorem dL_out_3 : decode cL_out 3 = .ok (.iload_n 1, 1) := by decide +kernel
theorem dL_out_4 : decode cL_out 4 = .ok (.invokevirtual 7, 3) := by decide +kernel
theorem dL_out_7 : decode cL_out 7 = .ok (.i2l, 1) := by decide +kernel
theorem dL_out_8 : decode cL_out 8 = .ok (.lastore, 1) := by decide +kernel
theorem dL_out_9 : decode cL_out 9 = .ok (.goto 6, 3) := by decide +kernel
theorem dL_out_12 : decode cL_out 12 = .ok (.astore_n 3, 1) := by decide +kernel
theorem dL_out_13 : decode cL_out 13 = .ok (.iconst 1, 1) := by decide +kernel
theorem dL_out_14 : decode cL_out 14 = .ok (.ireturn, 1) := by decide +kernel
theorem dL_out_15 : decode cL_out 15 = .ok (.iconst 0, 1) := by decide +kernel
theorem dL_out_16 : decode cL_out 16 = .ok (.ireturn, 1) := by decide +kernel
/-- LivesAheadLaw.out(LLivesAhead;I[J)I -/
def f_L_out (σ : TH) (p0 : Option Nat) (p1 : Int32) (p2 : Option Nat) : Option (Int32 × TH) :=
  nn_ p0 fun a1 => gt_ (kd_ σ a1 = 13) <| bc_ (f_X11_out σ a1 p1) (fun x2 s3 => nn_ p2 fun a4 => gt_ (kd_ s3 a4 = 23) <| gt_ (¬ ((0 : Int32) < 0 ∨ ln_ s3 a4 ≤ (0 : Int32).toNatClampNeg)) <| lt_ (sj_ s3 a4 ((0 : Int32).toNatClampNeg) (Int32.toInt64 x2)) fun s5 => some ((0 : Int32), s5)) (fun q6 s7 => gt_ (¬ kd_ s7 q6 = 16) <| some ((1 : Int32), s7))
set_option maxHeartbeats 4000000 in
set_option maxRecDepth 100000 in
theorem c_L_out {l : Launch} {D : va_G} {cy : Nat → ClassId} {ka : Nat → Nat} {σ z : TH} {p0 : Option Nat} {p1 : Int32} {p2 : Option Nat} {r : Int32} (hl9 : l.stackTraces = false) (hf : f_L_out σ p0 p1 p2 = some (r, z)) : ct_ l D cy ka yL_out 7 121 [va_rf p0, .int p1, va_rf p2] σ (some (.int r)) z := by
  unfold f_L_out at hf
  refine w_start (cc := cL_out) (own := RL) (maxL := 4) (ret := (some FieldType.int)) (nm := "out") (by decide +kernel) kc_L_out rfl rfl (by simp [lg_sl, va_rf_cat, cat_i, cat_l]) (tb_L_out).symm ?_
  refine v_eqL (L2 := [(0, va_rf p0), (1, .int p1), (2, va_rf p2)]) (by simp [lv_args, va_rf_cat, cat_i, cat_l]) ?_
  refine v_aload_n (x := p2) dL_out_0 rfl 2 rfl ?_
  refine v_iconst (v := 0) dL_out_1 (by decide) ?_
  refine v_aload_n (x := p0) dL_out_2 rfl 0 rfl ?_
  refine v_iload_n (x := p1) dL_out_3 rfl 1 rfl ?_
  obtain ⟨a1, rfl, hf⟩ := nn_of hf
  obtain ⟨hk_a1, hf⟩ := gt_of hf
  rcases bc_of hf with ⟨x2, s3, hcs3, hf⟩ | ⟨q6, s7, hc9, hf⟩
  · have hts3 := c_X11_out (l := l) (D := D) (cy := cy) (ka := ka) hl9 hcs3
    refine v_callV cb_12 hk_a1 (As := [.int p1]) (rest := [.int (0 : Int32), va_rf p2]) hts3 yb_X11_out kw_1347 kw_1348 kw_1349 rfl ⟨Nat.le_of_ble_eq_true rfl, Nat.le_of_ble_eq_true rfl⟩ rfl (cat_len (Nat.le_of_ble_eq_true rfl)) dL_out_4 ?_
    have hk_a1 := tk_ hts3.1 hk_a1
    show v_ l D cy ka cL_out RL 4 (some FieldType.int) "out" 7 121 (qf_ D cy σ z (some (.int r))) σ z _ 7 [(0, va_rf (some a1)), (1, .int p1), (2, va_rf p2)] [.int x2, .int (0 : Int32), va_rf p2]
    refine v_i2l dL_out_7 ?_
    obtain ⟨a4, rfl, hf⟩ := nn_of hf
    obtain ⟨hk_a4, hf⟩ := gt_of hf
    refine v_last2 hk_a4 hf dL_out_8 (fun s5 hts5 hf => ?_)
    have hk_a1 := tk_ hts5 hk_a1
    have hk_a4 := tk_ hts5 hk_a4
    refine v_goto (tgt := 15) dL_out_9 (by decide) ?_
    refine v_iconst (v := 0) dL_out_15 (by decide) ?_
    exact v_iret hf dL_out_16
  · obtain ⟨hk_q6, hf⟩ := gt_of hf
    have ht9 := c_X11_out (l := l) (D := D) (cy := cy) (ka := ka) hl9 hc9
    refine v_caughtV cb_12 hk_a1 (As := [.int p1]) (rest := [.int (0 : Int32), va_rf p2]) ht9 yb_X11_out kw_1347 kw_1348 kw_1349 rfl ⟨Nat.le_of_ble_eq_true rfl, Nat.le_of_ble_eq_true rfl⟩ rfl (cat_len (Nat.le_of_ble_eq_true rfl)) tb_L_out (by decide) (by decide) kw_1346 (if_neg hk_q6) dL_out_4 12 rfl ?_
    have hk_a1 := tk_ ht9.1 hk_a1
    refine v_astore_n (i := 3) [(3, va_rf (some q6)), (0, va_rf (some a1)), (1, .int p1), (2, va_rf p2)] dL_out_12 rfl (by decide) (by simp [va_rf_cat, cat_i, cat_l]) ?_
    refine v_iconst (v := 1) dL_out_13 (by decide) ?_
    exact v_iret hf dL_out_14
theorem dX15_isText_0 : decode cX15_isText 0 = .ok (.aload_n 0, 1) := by decide +kernel
theorem dX15_isText_1 : decode cX15_isText 1 = .ok (.iconst 0, 1) := by decide +kernel
theorem dX15_isText_2 : decode cX15_isText 2 = .ok (.putfield 466, 3) := by decide +kernel
theorem dX15_isText_5 : decode cX15_isText 5 = .ok (.aload_n 0, 1) := by decide +kernel
theorem dX15_isText_6 : decode cX15_isText 6 = .ok (.iconst 0, 1) := by decide +kernel
theorem dX15_isText_7 : decode cX15_isText 7 = .ok (.putfield 476, 3) := by decide +kernel
theorem dX15_isText_10 : decode cX15_isText 10 = .ok (.aload_n 0, 1) := by decide +kernel
theorem dX15_isText_11 : decode cX15_isText 11 = .ok (.aload_n 0, 1) := by decide +kernel
theorem dX15_isText_12 : decode cX15_isText 12 = .ok (.getfield 79, 3) := by decide +kernel
theorem dX15_isText_15 : decode cX15_isText 15 = .ok (.iload_n 2, 1) := by decide +kernel
theorem dX15_isText_16 : decode cX15_isText 16 = .ok (.iload_n 1, 1) := by decide +kernel
theorem dX15_isText_17 : decode cX15_isText 17 = .ok (.iconst 0, 1) := by decide +kernel
theorem dX15_isText_18 : decode cX15_isText 18 = .ok (.invokevirtual 479, 3) := by decide +kernel
theorem dX15_isText_21 : decode cX15_isText 21 = .ok (.goto 27, 3) := by decide +kernel
theorem dX15_isText_24 : decode cX15_isText 24 = .ok (.astore_n 3, 1) := by decide +kernel
theorem dX15_isText_25 : decode cX15_isText 25 = .ok (.aload_n 0, 1) := by decide +kernel
theorem dX15_isText_26 : decode cX15_isText 26 = .ok (.aload_n 3, 1) := by decide +kernel
theorem dX15_isText_27 : decode cX15_isText 27 = .ok (.getfield 269, 3) := by decide +kernel
theorem dX15_isText_30 : decode cX15_isText 30 = .ok (.putfield 476, 3) := by decide +kernel
theorem dX15_isText_33 : decode cX15_isText 33 = .ok (.aload_n 0, 1) := by decide +kernel
theorem dX15_isText_34 : decode cX15_isText 34 = .ok (.iconst 4, 1) := by decide +kernel
theorem dX15_isText_35 : decode cX15_isText 35 = .ok (.putfield 7, 3) := by decide +kernel
theorem dX15_isText_38 : decode cX15_isText 38 = .ok (.aload_n 0, 1) := by decide +kernel
theorem dX15_isText_39 : decode cX15_isText 39 = .ok (.aload_n 3, 1) := by decide +kernel
theorem dX15_isText_40 : decode cX15_isText 40 = .ok (.getfield 272, 3) := by decide +kernel
theorem dX15_isText_43 : decode cX15_isText 43 = .ok (.putfield 10, 3) := by decide +kernel
theorem dX15_isText_46 : decode cX15_isText 46 = .ok (.iconst 0, 1) := by decide +kernel
theorem dX15_isText_47 : decode cX15_isText 47 = .ok (.ireturn, 1) := by decide +kernel
theorem dX15_isText_48 : decode cX15_isText 48 = .ok (.iconst 1, 1) := by decide +kernel
theorem dX15_isText_49 : decode cX15_isText 49 = .ok (.ireturn, 1) := by decide +kernel
/-- LivesAheadModel.isText(II)Z -/
def f_X15_isText (σ : TH) (p0 : Nat) (p1 : Int32) (p2 : Int32) : Option (Int32 × TH) :=
  gt_ (kd_ σ p0 = 17) <| lt_ (si_ σ 1630 p0 (0 : Int32)) fun s1 => lt_ (si_ s1 1603 p0 (0 : Int32)) fun s2 => lt_ (fr_ s2 1626 p0) fun r3 => bc_ (f_X15_goes s2 p0 r3 p2 p1 (0 : Int32)) (fun x4 s5 => some ((1 : Int32), s5)) (fun q6 s7 => gt_ (kd_ s7 q6 = 16) <| lt_ (fi_ s7 1506 q6) fun x8 => lt_ (si_ s7 1603 p0 x8) fun s9 => lt_ (si_ s9 1601 p0 (4 : Int32)) fun s10 => lt_ (fi_ s10 1507 q6) fun x11 => lt_ (si_ s10 1602 p0 x11) fun s12 => some ((0 : Int32), s12))
set_option maxHeartbeats 4000000 in
set_option maxRecDepth 100000 in
theorem c_X15_isText {l : Launch} {D : va_G} {cy : Nat → ClassId} {ka : Nat → Nat} {σ z : TH} {p0 : Nat} {p1 : Int32} {p2 : Int32} {r : Int32} (hf : f_X15_isText σ p0 p1 p2 = some (r, z)) : ct_ l D cy ka yX15_isText 40 917 [va_rf (some p0), .int p1, .int p2] σ (some (.int r)) z := by
  unfold f_X15_isText at hf
  refine w_start (cc := cX15_isText) (own := RX15) (maxL := 4) (ret := (some FieldType.boolean)) (nm := "isText") (by decide +kernel) kc_X15_isText rfl rfl (by simp [lg_sl, va_rf_cat, cat_i, cat_l]) (tb_X15_isText).symm ?_
  refine v_eqL (L2 := [(0, va_rf (some p0)), (1, .int p1), (2, .int p2)]) (by simp [lv_args, va_rf_cat, cat_i, cat_l]) ?_
  refine v_aload_n (x := (some p0)) dX15_isText_0 rfl 0 rfl ?_
  refine v_iconst (v := 0) dX15_isText_1 (by decide) ?_
  obtain ⟨hk_p0, hf⟩ := gt_of hf
  refine v_puti2 cb_16 hk_p0 30 1630 rfl (by decide) rfl (lk_n kw_1487 rfl) (Or.inl rfl) rfl rfl hf dX15_isText_2 (fun s1 hts1 hf => ?_)
  have hk_p0 := tk_ hts1 hk_p0
  refine v_aload_n (x := (some p0)) dX15_isText_5 rfl 0 rfl ?_
  refine v_iconst (v := 0) dX15_isText_6 (by decide) ?_
  refine v_puti2 cb_16 hk_p0 3 1603 rfl (by decide) rfl (lk_n kw_1460 rfl) (Or.inl rfl) rfl rfl hf dX15_isText_7 (fun s2 hts2 hf => ?_)
  have hk_p0 := tk_ hts2 hk_p0
  refine v_aload_n (x := (some p0)) dX15_isText_10 rfl 0 rfl ?_
  refine v_aload_n (x := (some p0)) dX15_isText_11 rfl 0 rfl ?_
  refine v_getr cb_16 hk_p0 26 1626 rfl (by decide) rfl (lk_n kw_1483 rfl) hf dX15_isText_12 (fun r3 hf => ?_)
  refine v_iload_n (x := p2) dX15_isText_15 rfl 2 rfl ?_
  refine v_iload_n (x := p1) dX15_isText_16 rfl 1 rfl ?_
  refine v_iconst (v := 0) dX15_isText_17 (by decide) ?_
  rcases bc_of hf with ⟨x4, s5, hcs5, hf⟩ | ⟨q6, s7, hc9, hf⟩
  · have hts5 := c_X15_goes (l := l) (D := D) (cy := cy) (ka := ka) hcs5
    refine v_callV cb_16 hk_p0 (As := [va_rf r3, .int p2, .int p1, .int (0 : Int32)]) (rest := []) hts5 yb_X15_goes kw_1869 kw_1871 kp_95 rfl ⟨Nat.le_of_ble_eq_true rfl, Nat.le_of_ble_eq_true rfl⟩ rfl (cat_len (Nat.le_of_ble_eq_true rfl)) dX15_isText_18 ?_
    have hk_p0 := tk_ hts5.1 hk_p0
    show v_ l D cy ka cX15_isText RX15 4 (some FieldType.boolean) "isText" 40 917 (qf_ D cy σ z (some (.int r))) σ z _ 21 [(0, va_rf (some p0)), (1, .int p1), (2, .int p2)] []
    refine v_goto (tgt := 48) dX15_isText_21 (by decide) ?_
    refine v_iconst (v := 1) dX15_isText_48 (by decide) ?_
    exact v_zret hf rfl dX15_isText_49
  · obtain ⟨hk_q6, hf⟩ := gt_of hf
    have ht9 := c_X15_goes (l := l) (D := D) (cy := cy) (ka := ka) hc9
    refine v_caughtV cb_16 hk_p0 (As := [va_rf r3, .int p2, .int p1, .int (0 : Int32)]) (rest := []) ht9 yb_X15_goes kw_1869 kw_1871 kp_95 rfl ⟨Nat.le_of_ble_eq_true rfl, Nat.le_of_ble_eq_true rfl⟩ rfl (cat_len (Nat.le_of_ble_eq_true rfl)) tb_X15_isText (by decide) (by decide) kw_1424 (if_pos hk_q6) dX15_isText_18 24 rfl ?_
    have hk_p0 := tk_ ht9.1 hk_p0
    refine v_astore_n [(3, va_rf (some q6)), (0, va_rf (some p0)), (1, .int p1), (2, .int p2)] dX15_isText_24 rfl (by decide) rfl ?_
    refine v_aload_n (x := (some p0)) dX15_isText_25 rfl 1 rfl ?_
    refine v_aload_n (x := (some q6)) dX15_isText_26 rfl 0 rfl ?_
    refine v_geti cb_15 hk_q6 6 1506 rfl (by decide) rfl (lk_N kw_1445 rfl) hf dX15_isText_27 (fun x8 hf => ?_)
    refine v_puti2 cb_16 hk_p0 3 1603 rfl (by decide) rfl (lk_n kw_1460 rfl) (Or.inl rfl) rfl rfl hf dX15_isText_30 (fun s9 hts9 hf => ?_)
    have hk_p0 := tk_ hts9 hk_p0
    have hk_q6 := tk_ hts9 hk_q6
    refine v_aload_n (x := (some p0)) dX15_isText_33 rfl 1 rfl ?_
    refine v_iconst (v := 4) dX15_isText_34 (by decide) ?_
    refine v_puti2 cb_16 hk_p0 1 1601 rfl (by decide) rfl (lk_n kw_1458 rfl) (Or.inl rfl) rfl rfl hf dX15_isText_35 (fun s10 hts10 hf => ?_)
    have hk_p0 := tk_ hts10 hk_p0
    have hk_q6 := tk_ hts10 hk_q6
    refine v_aload_n (x := (some p0)) dX15_isText_38 rfl 1 rfl ?_
    refine v_aload_n (x := (some q6)) dX15_isText_39 rfl 0 rfl ?_
    refine v_geti cb_15 hk_q6 7 1507 rfl (by decide) rfl (lk_N kw_1446 rfl) hf dX15_isText_40 (fun x11 hf => ?_)
    refine v_puti2 cb_16 hk_p0 2 1602 rfl (by decide) rfl (lk_n kw_1459 rfl) (Or.inl rfl) rfl rfl hf dX15_isText_43 (fun s12 hts12 hf => ?_)
    have hk_p0 := tk_ hts12 hk_p0
    have hk_q6 := tk_ hts12 hk_q6
    refine v_iconst (v := 0) dX15_isText_46 (by decide) ?_
    exact v_zret hf rfl dX15_isText_47
theorem dX15_rule_0 : decode cX15_rule 0 = .ok (.aload_n 0, 1) := by decide +kernel
theorem dX15_rule_1 : decode cX15_rule 1 = .ok (.iconst 0, 1) := by decide +kernel
theorem dX15_rule_2 : decode cX15_rule 2 = .ok (.putfield 1, 3) := by decide +kernel
theorem dX15_rule_5 : decode cX15_rule 5 = .ok (.aload_n 0, 1) := by decide +kernel
theorem dX15_rule_6 : decode cX15_rule 6 = .ok (.iload_n 1, 1) := by decide +kernel
theorem dX15_rule_7 : decode cX15_rule 7 = .ok (.invokevirtual 490, 3) := by decide +kernel
theorem dX15_rule_10 : decode cX15_rule 10 = .ok (.ifCond .ne 9, 3) := by decide +kernel
theorem dX15_rule_13 : decode cX15_rule 13 = .ok (.aload_n 0, 1) := by decide +kernel
theorem dX15_rule_14 : decode cX15_rule 14 = .ok (.iconst 2, 1) := by decide +kernel
theorem dX15_rule_15 : decode cX15_rule 15 = .ok (.invokevirtual 201, 3) := by decide +kernel
theorem dX15_rule_18 : decode cX15_rule 18 = .ok (.ireturn, 1) := by decide +kernel
theorem dX15_rule_19 : decode cX15_rule 19 = .ok (.aload_n 0, 1) := by decide +kernel
theorem dX15_rule_20 : decode cX15_rule 20 = .ok (.iconst 0, 1) := by decide +kernel
theorem dX15_rule_21 : decode cX15_rule 21 = .ok (.putfield 466, 3) := by decide +kernel
theorem dX15_rule_24 : decode cX15_rule 24 = .ok (.aload_n 0, 1) := by decide +kernel
theorem dX15_rule_25 : decode cX15_rule 25 = .ok (.iconst 0, 1) := by decide +kernel
theorem dX15_rule_26 : decode cX15_rule 26 = .ok (.putfield 476, 3) := by decide +kernel
theorem dX15_rule_29 : decode cX15_rule 29 = .ok (.aload_n 0, 1) := by decide +kernel
theorem dX15_rule_30 : decode cX15_rule 30 = .ok (.aload_n 0, 1) := by decide +kernel
theorem dX15_rule_31 : decode cX15_rule 31 = .ok (.getfield 79, 3) := by decide +kernel
theorem dX15_rule_34 : decode cX15_rule 34 = .ok (.iload_n 1, 1) := by decide +kernel
theorem dX15_rule_35 : decode cX15_rule 35 = .ok (.iconst 0, 1) := by decide +kernel
theorem dX15_rule_36 : decode cX15_rule 36 = .ok (.invokevirtual 533, 3) := by decide +kernel
theorem dX15_rule_39 : decode cX15_rule 39 = .ok (.istore_n 2, 1) := by decide +kernel
theorem dX15_rule_40 : decode cX15_rule 40 = .ok (.goto 27, 3) := by decide +kernel
theorem dX15_rule_43 : decode cX15_rule 43 = .ok (.astore_n 2, 1) := by decide +kernel
theorem dX15_rule_44 : decode cX15_rule 44 = .ok (.aload_n 0, 1) := by decide +kernel
theorem dX15_rule_45 : decode cX15_rule 45 = .ok (.aload_n 2, 1) := by decide +kernel
theorem dX15_rule_46 : decode cX15_rule 46 = .ok (.getfield 269, 3) := by decide +kernel
theorem dX15_rule_49 : decode cX15_rule 49 = .ok (.putfield 476, 3) := by decide +kernel
theorem dX15_rule_52 : decode cX15_rule 52 = .ok (.aload_n 0, 1) := by decide +kernel
theorem dX15_rule_53 : decode cX15_rule 53 = .ok (.iconst 4, 1) := by decide +kernel
theorem dX15_rule_54 : decode cX15_rule 54 = .ok (.putfield 7, 3) := by decide +kernel
theorem dX15_rule_57 : decode cX15_rule 57 = .ok (.aload_n 0, 1) := by decide +kernel
theorem dX15_rule_58 : decode cX15_rule 58 = .ok (.aload_n 2, 1) := by decide +kernel
theorem dX15_rule_59 : decode cX15_rule 59 = .ok (.getfield 272, 3) := by decide +kernel
theorem dX15_rule_62 : decode cX15_rule 62 = .ok (.putfield 10, 3) := by decide +kernel
theorem dX15_rule_65 : decode cX15_rule 65 = .ok (.iconst (-1), 1) := by decide +kernel
theorem dX15_rule_66 : decode cX15_rule 66 = .ok (.ireturn, 1) := by decide +kernel
theorem dX15_rule_67 : decode cX15_rule 67 = .ok (.aload_n 0, 1) := by decide +kernel
theorem dX15_rule_68 : decode cX15_rule 68 = .ok (.getfield 537, 3) := by decide +kernel
theorem dX15_rule_71 : decode cX15_rule 71 = .ok (.bipush 12, 2) := by decide +kernel
theorem dX15_rule_73 : decode cX15_rule 73 = .ok (.if_icmp .ne 9, 3) := by decide +kernel
theorem dX15_rule_76 : decode cX15_rule 76 = .ok (.aload_n 0, 1) := by decide +kernel
theorem dX15_rule_77 : decode cX15_rule 77 = .ok (.iconst 3, 1) := by decide +kernel
theorem dX15_rule_78 : decode cX15_rule 78 = .ok (.invokevirtual 201, 3) := by decide +kernel
theorem dX15_rule_81 : decode cX15_rule 81 = .ok (.ireturn, 1) := by decide +kernel
theorem dX15_rule_82 : decode cX15_rule 82 = .ok (.aload_n 0, 1) := by decide +kernel
theorem dX15_rule_83 : decode cX15_rule 83 = .ok (.getfield 116, 3) := by decide +kernel
theorem dX15_rule_86 : decode cX15_rule 86 = .ok (.aload_n 0, 1) := by decide +kernel
theorem dX15_rule_87 : decode cX15_rule 87 = .ok (.getfield 537, 3) := by decide +kernel
theorem dX15_rule_90 : decode cX15_rule 90 = .ok (.new 92, 3) := by decide +kernel
theorem dX15_rule_93 : decode cX15_rule 93 = .ok (.dup, 1) := by decide +kernel
theorem dX15_rule_94 : decode cX15_rule 94 = .ok (.invokespecial 496, 3) := by decide +kernel
theorem dX15_rule_97 : decode cX15_rule 97 = .ok (.aastore, 1) := by decide +kernel
theorem dX15_rule_98 : decode cX15_rule 98 = .ok (.aload_n 0, 1) := by decide +kernel
theorem dX15_rule_99 : decode cX15_rule 99 = .ok (.aload_n 0, 1) := by decide +kernel
theorem dX15_rule_100 : decode cX15_rule 100 = .ok (.getfield 116, 3) := by decide +kernel
theorem dX15_rule_103 : decode cX15_rule 103 = .ok (.aload_n 0, 1) := by decide +kernel
theorem dX15_rule_104 : decode cX15_rule 104 = .ok (.getfield 537, 3) := by decide +kernel
theorem dX15_rule_107 : decode cX15_rule 107 = .ok (.aaload, 1) := by decide +kernel
theorem dX15_rule_108 : decode cX15_rule 108 = .ok (.iload_n 1, 1) := by decide +kernel
theorem dX15_rule_109 : decode cX15_rule 109 = .ok (.invokevirtual 502, 3) := by decide +kernel
theorem dX15_rule_112 : decode cX15_rule 112 = .ok (.aload_n 0, 1) := by decide +kernel
theorem dX15_rule_113 : decode cX15_rule 113 = .ok (.dup, 1) := by decide +kernel
theorem dX15_rule_114 : decode cX15_rule 114 = .ok (.getfield 537, 3) := by decide +kernel
theorem dX15_rule_117 : decode cX15_rule 117 = .ok (.iconst 1, 1) := by decide +kernel
theorem dX15_rule_118 : decode cX15_rule 118 = .ok (.iadd, 1) := by decide +kernel
theorem dX15_rule_119 : decode cX15_rule 119 = .ok (.putfield 537, 3) := by decide +kernel
theorem dX15_rule_122 : decode cX15_rule 122 = .ok (.aload_n 0, 1) := by decide +kernel
theorem dX15_rule_123 : decode cX15_rule 123 = .ok (.aload_n 0, 1) := by decide +kernel
theorem dX15_rule_124 : decode cX15_rule 124 = .ok (.getfield 537, 3) := by decide +kernel
theorem dX15_rule_127 : decode cX15_rule 127 = .ok (.invokevirtual 205, 3) := by decide +kernel
theorem dX15_rule_130 : decode cX15_rule 130 = .ok (.ireturn, 1) := by decide +kernel
/-- LivesAheadModel.rule(I)I -/
def f_X15_rule (σ : TH) (p0 : Nat) (p1 : Int32) : Option (Int32 × TH) :=
  gt_ (kd_ σ p0 = 17) <| lt_ (si_ σ 1600 p0 (0 : Int32)) fun s1 => bd_ (f_X15_isTaped s1 p0 p1) fun x2 s3 => if x2 = 0 then (bd_ (f_X15_refused s3 p0 (2 : Int32)) fun x4 s5 => some (x4, s5)) else (lt_ (si_ s3 1630 p0 (0 : Int32)) fun s6 => lt_ (si_ s6 1603 p0 (0 : Int32)) fun s7 => lt_ (fr_ s7 1626 p0) fun r8 => bc_ (f_X15_ruleHolds s7 p0 r8 p1 (0 : Int32)) (fun x9 s10 => lt_ (fi_ s10 1658 p0) fun x11 => if x11 = (12 : Int32) then (bd_ (f_X15_refused s10 p0 (3 : Int32)) fun x12 s13 => some (x12, s13)) else (lt_ (fr_ s10 1660 p0) fun r14 => lt_ (fi_ s10 1658 p0) fun x15 => gt_ (kd_ s10 (nx_ s10) = 0) <| lt_ (nx_ s10) fun a16 => lt_ (nw_ s10 15 0 7) fun s17 => bd_ (f_X13_init s17 a16) fun x18 s19 => nn_ r14 fun a20 => gt_ (kd_ s19 a20 = 27) <| gt_ (¬ (x15 < 0 ∨ ln_ s19 a20 ≤ x15.toNatClampNeg)) <| lt_ (sq_ s19 a20 x15.toNatClampNeg (some a16)) fun s21 => lt_ (fr_ s21 1660 p0) fun r22 => lt_ (fi_ s21 1658 p0) fun x23 => nn_ r22 fun a24 => gt_ (kd_ s21 a24 = 27) <| gt_ (¬ (x23 < 0 ∨ ln_ s21 a24 ≤ x23.toNatClampNeg)) <| lt_ (ar_ s21 a24 x23.toNatClampNeg) fun r25 => bd_ (f_X15_takesText s21 p0 r25 p1) fun x26 s27 => lt_ (fi_ s27 1658 p0) fun x28 => lt_ (si_ s27 1658 p0 (x28 + (1 : Int32))) fun s29 => lt_ (fi_ s29 1658 p0) fun x30 => bd_ (f_X15_done s29 p0 x30) fun x31 s32 => some (x31, s32))) (fun q33 s34 => gt_ (kd_ s34 q33 = 16) <| lt_ (fi_ s34 1506 q33) fun x35 => lt_ (si_ s34 1603 p0 x35) fun s36 => lt_ (si_ s36 1601 p0 (4 : Int32)) fun s37 => lt_ (fi_ s37 1507 q33) fun x38 => lt_ (si_ s37 1602 p0 x38) fun s39 => some ((-1 : Int32), s39)))
set_option maxHeartbeats 4000000 in
set_option maxRecDepth 100000 in
theorem c_X15_rule {l : Launch} {D : va_G} {cy : Nat → ClassId} {ka : Nat → Nat} {σ z : TH} {p0 : Nat} {p1 : Int32} {r : Int32} (hf : f_X15_rule σ p0 p1 = some (r, z)) : ct_ l D cy ka yX15_rule 14 306 [va_rf (some p0), .int p1] σ (some (.int r)) z := by
  unfold f_X15_rule at hf
  refine w_start (cc := cX15_rule) (own := RX15) (maxL := 3) (ret := (some FieldType.int)) (nm := "rule") (by decide +kernel) kc_X15_rule rfl rfl (by simp [lg_sl, va_rf_cat, cat_i, cat_l]) (tb_X15_rule).symm ?_
  refine v_eqL (L2 := [(0, va_rf (some p0)), (1, .int p1)]) (by simp [lv_args, va_rf_cat, cat_i, cat_l]) ?_
  refine v_aload_n (x := (some p0)) dX15_rule_0 rfl 0 rfl ?_
  refine v_iconst (v := 0) dX15_rule_1 (by decide) ?_
  obtain ⟨hk_p0, hf⟩ := gt_of hf
  refine v_puti2 cb_16 hk_p0 0 1600 rfl (by decide) rfl (lk_n kw_1457 rfl) (Or.inl rfl) rfl rfl hf dX15_rule_2 (fun s1 hts1 hf => ?_)
  have hk_p0 := tk_ hts1 hk_p0
  refine v_aload_n (x := (some p0)) dX15_rule_5 rfl 0 rfl ?_
  refine v_iload_n (x := p1) dX15_rule_6 rfl 1 rfl ?_
  obtain ⟨x2, s3, hcs3, hf⟩ := bd_of hf
  have hts3 := c_X15_isTaped (l := l) (D := D) (cy := cy) (ka := ka) hcs3
  refine v_callV cb_16 hk_p0 (As := [.int p1]) (rest := []) hts3 yb_X15_isTaped kw_1861 kw_1863 kp_93 rfl ⟨Nat.le_of_ble_eq_true rfl, Nat.le_of_ble_eq_true rfl⟩ rfl (cat_len (Nat.le_of_ble_eq_true rfl)) dX15_rule_7 ?_
  have hk_p0 := tk_ hts3.1 hk_p0
  show v_ l D cy ka cX15_rule RX15 3 (some FieldType.int) "rule" 14 306 (qf_ D cy σ z (some (.int r))) σ z _ 10 [(0, va_rf (some p0)), (1, .int p1)] [.int x2]
  refine v_if_ne (tgt := 19) hf dX15_rule_10 (by decide) (fun hq hf => ?_) (fun hq hf => ?_)
  · refine v_aload_n (x := (some p0)) dX15_rule_13 rfl 0 rfl ?_
    refine v_iconst (v := 2) dX15_rule_14 (by decide) ?_
    obtain ⟨x4, s5, hcs5, hf⟩ := bd_of hf
    have hts5 := c_X15_refused (l := l) (D := D) (cy := cy) (ka := ka) hcs5
    refine v_callV cb_16 hk_p0 (As := [.int (2 : Int32)]) (rest := []) hts5 yb_X15_refused kw_1729 kw_1731 kp_77 rfl ⟨Nat.le_of_ble_eq_true rfl, Nat.le_of_ble_eq_true rfl⟩ rfl (cat_len (Nat.le_of_ble_eq_true rfl)) dX15_rule_15 ?_
    have hk_p0 := tk_ hts5.1 hk_p0
    show v_ l D cy ka cX15_rule RX15 3 (some FieldType.int) "rule" 14 306 (qf_ D cy σ z (some (.int r))) σ z _ 18 [(0, va_rf (some p0)), (1, .int p1)] [.int x4]
    exact v_iret hf dX15_rule_18
  · refine v_aload_n (x := (some p0)) dX15_rule_19 rfl 0 rfl ?_
    refine v_iconst (v := 0) dX15_rule_20 (by decide) ?_
    refine v_puti2 cb_16 hk_p0 30 1630 rfl (by decide) rfl (lk_n kw_1487 rfl) (Or.inl rfl) rfl rfl hf dX15_rule_21 (fun s6 hts6 hf => ?_)
    have hk_p0 := tk_ hts6 hk_p0
    refine v_aload_n (x := (some p0)) dX15_rule_24 rfl 0 rfl ?_
    refine v_iconst (v := 0) dX15_rule_25 (by decide) ?_
    refine v_puti2 cb_16 hk_p0 3 1603 rfl (by decide) rfl (lk_n kw_1460 rfl) (Or.inl rfl) rfl rfl hf dX15_rule_26 (fun s7 hts7 hf => ?_)
    have hk_p0 := tk_ hts7 hk_p0
    refine v_aload_n (x := (some p0)) dX15_rule_29 rfl 0 rfl ?_
    refine v_aload_n (x := (some p0)) dX15_rule_30 rfl 0 rfl ?_
    refine v_getr cb_16 hk_p0 26 1626 rfl (by decide) rfl (lk_n kw_1483 rfl) hf dX15_rule_31 (fun r8 hf => ?_)
    refine v_iload_n (x := p1) dX15_rule_34 rfl 1 rfl ?_
    refine v_iconst (v := 0) dX15_rule_35 (by decide) ?_
    rcases bc_of hf with ⟨x9, s10, hcs10, hf⟩ | ⟨q33, s34, hc9, hf⟩
    · have hts10 := c_X15_ruleHolds (l := l) (D := D) (cy := cy) (ka := ka) hcs10
      refine v_callV cb_16 hk_p0 (As := [va_rf r8, .int p1, .int (0 : Int32)]) (rest := []) hts10 yb_X15_ruleHolds kw_2110 kw_2112 kp_129 rfl ⟨Nat.le_of_ble_eq_true rfl, Nat.le_of_ble_eq_true rfl⟩ rfl (cat_len (Nat.le_of_ble_eq_true rfl)) dX15_rule_36 ?_
      have hk_p0 := tk_ hts10.1 hk_p0
      show v_ l D cy ka cX15_rule RX15 3 (some FieldType.int) "rule" 14 306 (qf_ D cy σ z (some (.int r))) σ z _ 39 [(0, va_rf (some p0)), (1, .int p1)] [.int x9]
      refine v_istore_n [(2, .int x9), (0, va_rf (some p0)), (1, .int p1)] dX15_rule_39 rfl (by decide) rfl ?_
      refine v_goto (tgt := 67) dX15_rule_40 (by decide) ?_
      refine v_aload_n (x := (some p0)) dX15_rule_67 rfl 1 rfl ?_
      refine v_geti cb_16 hk_p0 58 1658 rfl (by decide) rfl (lk_n kw_1515 rfl) hf dX15_rule_68 (fun x11 hf => ?_)
      refine v_bipush (v := 12) dX15_rule_71 (by decide) ?_
      refine v_icmp_ne (tgt := 82) hf dX15_rule_73 (by decide) (fun hq hf => ?_) (fun hq hf => ?_)
      · refine v_aload_n (x := (some p0)) dX15_rule_76 rfl 1 rfl ?_
        refine v_iconst (v := 3) dX15_rule_77 (by decide) ?_
        obtain ⟨x12, s13, hcs13, hf⟩ := bd_of hf
        have hts13 := c_X15_refused (l := l) (D := D) (cy := cy) (ka := ka) hcs13
        refine v_callV cb_16 hk_p0 (As := [.int (3 : Int32)]) (rest := []) hts13 yb_X15_refused kw_1729 kw_1731 kp_77 rfl ⟨Nat.le_of_ble_eq_true rfl, Nat.le_of_ble_eq_true rfl⟩ rfl (cat_len (Nat.le_of_ble_eq_true rfl)) dX15_rule_78 ?_
        have hk_p0 := tk_ hts13.1 hk_p0
        show v_ l D cy ka cX15_rule RX15 3 (some FieldType.int) "rule" 14 306 (qf_ D cy σ z (some (.int r))) σ z _ 81 [(2, .int x9), (0, va_rf (some p0)), (1, .int p1)] [.int x12]
        exact v_iret hf dX15_rule_81
      · refine v_aload_n (x := (some p0)) dX15_rule_82 rfl 1 rfl ?_
        refine v_getr cb_16 hk_p0 60 1660 rfl (by decide) rfl (lk_n kw_1517 rfl) hf dX15_rule_83 (fun r14 hf => ?_)
        refine v_aload_n (x := (some p0)) dX15_rule_86 rfl 1 rfl ?_
        refine v_geti cb_16 hk_p0 58 1658 rfl (by decide) rfl (lk_n kw_1515 rfl) hf dX15_rule_87 (fun x15 hf => ?_)
        refine v_new2 cb_14 df_14 kw_1453 kw_2023 kw_27 15 rfl hf dX15_rule_90 (fun a16 s17 hts17 hk_a16 hf => ?_)
        have hk_p0 := tk_ hts17 hk_p0
        refine v_dup dX15_rule_93 (va_rf_cat _) ?_
        obtain ⟨x18, s19, hcs19, hf⟩ := bd_of hf
        have hts19 := c_X13_init (l := l) (D := D) (cy := cy) (ka := ka) hcs19
        refine v_callIN (As := []) (rest := [va_rf (some a16), .int x15, va_rf r14]) hts19 yb_X13_init kw_2024 kw_2025 rfl rfl ⟨Nat.le_of_ble_eq_true rfl, Nat.le_of_ble_eq_true rfl⟩ rfl (cat_len (Nat.le_of_ble_eq_true rfl)) dX15_rule_94 ?_
        have hk_p0 := tk_ hts19.1 hk_p0
        have hk_a16 := tk_ hts19.1 hk_a16
        show v_ l D cy ka cX15_rule RX15 3 (some FieldType.int) "rule" 14 306 (qf_ D cy σ z (some (.int r))) σ z _ 97 [(2, .int x9), (0, va_rf (some p0)), (1, .int p1)] [va_rf (some a16), .int x15, va_rf r14]
        obtain ⟨a20, rfl, hf⟩ := nn_of hf
        obtain ⟨hk_a20, hf⟩ := gt_of hf
        refine v_aast2 cb_14 hk_a16 26 7 RX13 hk_a20 (by decide) rfl (Or.inl rfl) hf dX15_rule_97 (fun s21 hts21 hf => ?_)
        have hk_p0 := tk_ hts21 hk_p0
        refine v_aload_n (x := (some p0)) dX15_rule_98 rfl 1 rfl ?_
        refine v_aload_n (x := (some p0)) dX15_rule_99 rfl 1 rfl ?_
        refine v_getr cb_16 hk_p0 60 1660 rfl (by decide) rfl (lk_n kw_1517 rfl) hf dX15_rule_100 (fun r22 hf => ?_)
        refine v_aload_n (x := (some p0)) dX15_rule_103 rfl 1 rfl ?_
        refine v_geti cb_16 hk_p0 58 1658 rfl (by decide) rfl (lk_n kw_1515 rfl) hf dX15_rule_104 (fun x23 hf => ?_)
        obtain ⟨a24, rfl, hf⟩ := nn_of hf
        obtain ⟨hk_a24, hf⟩ := gt_of hf
        refine v_aald 26 7 RX13 hk_a24 (by decide) rfl hf dX15_rule_107 (fun r25 hf => ?_)
        refine v_iload_n (x := p1) dX15_rule_108 rfl 2 rfl ?_
        obtain ⟨x26, s27, hcs27, hf⟩ := bd_of hf
        have hts27 := c_X15_takesText (l := l) (D := D) (cy := cy) (ka := ka) hcs27
        refine v_callV cb_16 hk_p0 (As := [va_rf r25, .int p1]) (rest := []) hts27 yb_X15_takesText kw_2050 kw_2052 kp_124 rfl ⟨Nat.le_of_ble_eq_true rfl, Nat.le_of_ble_eq_true rfl⟩ rfl (cat_len (Nat.le_of_ble_eq_true rfl)) dX15_rule_109 ?_
        have hk_p0 := tk_ hts27.1 hk_p0
        show v_ l D cy ka cX15_rule RX15 3 (some FieldType.int) "rule" 14 306 (qf_ D cy σ z (some (.int r))) σ z _ 112 [(2, .int x9), (0, va_rf (some p0)), (1, .int p1)] []
        refine v_aload_n (x := (some p0)) dX15_rule_112 rfl 1 rfl ?_
        refine v_dup dX15_rule_113 (va_rf_cat _) ?_
        refine v_geti cb_16 hk_p0 58 1658 rfl (by decide) rfl (lk_n kw_1515 rfl) hf dX15_rule_114 (fun x28 hf => ?_)
        refine v_iconst (v := 1) dX15_rule_117 (by decide) ?_
        refine v_iadd dX15_rule_118 ?_
        refine v_puti2 cb_16 hk_p0 58 1658 rfl (by decide) rfl (lk_n kw_1515 rfl) (Or.inl rfl) rfl rfl hf dX15_rule_119 (fun s29 hts29 hf => ?_)
        have hk_p0 := tk_ hts29 hk_p0
        refine v_aload_n (x := (some p0)) dX15_rule_122 rfl 1 rfl ?_
        refine v_aload_n (x := (some p0)) dX15_rule_123 rfl 1 rfl ?_
        refine v_geti cb_16 hk_p0 58 1658 rfl (by decide) rfl (lk_n kw_1515 rfl) hf dX15_rule_124 (fun x30 hf => ?_)
        obtain ⟨x31, s32, hcs32, hf⟩ := bd_of hf
        have hts32 := c_X15_done (l := l) (D := D) (cy := cy) (ka := ka) hcs32
        refine v_callV cb_16 hk_p0 (As := [.int x30]) (rest := []) hts32 yb_X15_done kw_1733 kw_1735 kp_78 rfl ⟨Nat.le_of_ble_eq_true rfl, Nat.le_of_ble_eq_true rfl⟩ rfl (cat_len (Nat.le_of_ble_eq_true rfl)) dX15_rule_127 ?_
        have hk_p0 := tk_ hts32.1 hk_p0
        show v_ l D cy ka cX15_rule RX15 3 (some FieldType.int) "rule" 14 306 (qf_ D cy σ z (some (.int r))) σ z _ 130 [(2, .int x9), (0, va_rf (some p0)), (1, .int p1)] [.int x31]
        exact v_iret hf dX15_rule_130
    · obtain ⟨hk_q33, hf⟩ := gt_of hf
      have ht9 := c_X15_ruleHolds (l := l) (D := D) (cy := cy) (ka := ka) hc9
      refine v_caughtV cb_16 hk_p0 (As := [va_rf r8, .int p1, .int (0 : Int32)]) (rest := []) ht9 yb_X15_ruleHolds kw_2110 kw_2112 kp_129 rfl ⟨Nat.le_of_ble_eq_true rfl, Nat.le_of_ble_eq_true rfl⟩ rfl (cat_len (Nat.le_of_ble_eq_true rfl)) tb_X15_rule (by decide) (by decide) kw_1424 (if_pos hk_q33) dX15_rule_36 43 rfl ?_
      have hk_p0 := tk_ ht9.1 hk_p0
      refine v_astore_n [(2, va_rf (some q33)), (0, va_rf (some p0)), (1, .int p1)] dX15_rule_43 rfl (by decide) rfl ?_
      refine v_aload_n (x := (some p0)) dX15_rule_44 rfl 1 rfl ?_
      refine v_aload_n (x := (some q33)) dX15_rule_45 rfl 0 rfl ?_
      refine v_geti cb_15 hk_q33 6 1506 rfl (by decide) rfl (lk_N kw_1445 rfl) hf dX15_rule_46 (fun x35 hf => ?_)
      refine v_puti2 cb_16 hk_p0 3 1603 rfl (by decide) rfl (lk_n kw_1460 rfl) (Or.inl rfl) rfl rfl hf dX15_rule_49 (fun s36 hts36 hf => ?_)
      have hk_p0 := tk_ hts36 hk_p0
      have hk_q33 := tk_ hts36 hk_q33
      refine v_aload_n (x := (some p0)) dX15_rule_52 rfl 1 rfl ?_
      refine v_iconst (v := 4) dX15_rule_53 (by decide) ?_
      refine v_puti2 cb_16 hk_p0 1 1601 rfl (by decide) rfl (lk_n kw_1458 rfl) (Or.inl rfl) rfl rfl hf dX15_rule_54 (fun s37 hts37 hf => ?_)
      have hk_p0 := tk_ hts37 hk_p0
      have hk_q33 := tk_ hts37 hk_q33
      refine v_aload_n (x := (some p0)) dX15_rule_57 rfl 1 rfl ?_
      refine v_aload_n (x := (some q33)) dX15_rule_58 rfl 0 rfl ?_
      refine v_geti cb_15 hk_q33 7 1507 rfl (by decide) rfl (lk_N kw_1446 rfl) hf dX15_rule_59 (fun x38 hf => ?_)
      refine v_puti2 cb_16 hk_p0 2 1602 rfl (by decide) rfl (lk_n kw_1459 rfl) (Or.inl rfl) rfl rfl hf dX15_rule_62 (fun s39 hts39 hf => ?_)
      have hk_p0 := tk_ hts39 hk_p0
      have hk_q33 := tk_ hts39 hk_q33
      refine v_iconst (v := (-1)) dX15_rule_65 (by decide) ?_
      exact v_iret hf dX15_rule_66
theorem dX15_paragraph_0 : decode cX15_paragraph 0 = .ok (.aload_n 0, 1) := by decide +kernel
theorem dX15_paragraph_1 : decode cX15_paragraph 1 = .ok (.iconst 0, 1) := by decide +kernel
theorem dX15_paragraph_2 : decode cX15_paragraph 2 = .ok (.putfield 1, 3) := by decide +kernel
theorem dX15_paragraph_5 : decode cX15_paragraph 5 = .ok (.aload_n 0, 1) := by decide +kernel
theorem dX15_paragraph_6 : decode cX15_paragraph 6 = .ok (.iload_n 1, 1) := by decide +kernel
theorem dX15_paragraph_7 : decode cX15_paragraph 7 = .ok (.invokevirtual 227, 3) := by decide +kernel
theorem dX15_paragraph_10 : decode cX15_paragraph 10 = .ok (.ifCond .ne 9, 3) := by decide +kernel
theorem dX15_paragraph_13 : decode cX15_paragraph 13 = .ok (.aload_n 0, 1) := by decide +kernel
theorem dX15_paragraph_14 : decode cX15_paragraph 14 = .ok (.iconst 1, 1) := by decide +kernel
theorem dX15_paragraph_15 : decode cX15_paragraph 15 = .ok (.invokevirtual 201, 3) := by decide +kernel
theorem dX15_paragraph_18 : decode cX15_paragraph 18 = .ok (.ireturn, 1) := by decide +kernel
theorem dX15_paragraph_19 : decode cX15_paragraph 19 = .ok (.aload_n 0, 1) := by decide +kernel
theorem dX15_paragraph_20 : decode cX15_paragraph 20 = .ok (.iload_n 1, 1) := by decide +kernel
theorem dX15_paragraph_21 : decode cX15_paragraph 21 = .ok (.invokevirtual 238, 3) := by decide +kernel
theorem dX15_paragraph_24 : decode cX15_paragraph 24 = .ok (.istore 5, 2) := by decide +kernel
theorem dX15_paragraph_26 : decode cX15_paragraph 26 = .ok (.iload_n 2, 1) := by decide +kernel
theorem dX15_paragraph_27 : decode cX15_paragraph 27 = .ok (.iconst 0, 1) := by decide +kernel
theorem dX15_paragraph_28 : decode cX15_paragraph 28 = .ok (.sipush 999, 3) := by decide +kernel
theorem dX15_paragraph_31 : decode cX15_paragraph 31 = .ok (.invokestatic 197, 3) := by decide +kernel
theorem dX15_paragraph_34 : decode cX15_paragraph 34 = .ok (.ifCond .eq 24, 3) := by decide +kernel
theorem dX15_paragraph_37 : decode cX15_paragraph 37 = .ok (.iload_n 3, 1) := by decide +kernel
theorem dX15_paragraph_38 : decode cX15_paragraph 38 = .ok (.iconst (-1), 1) := by decide +kernel
theorem dX15_paragraph_39 : decode cX15_paragraph 39 = .ok (.iload 5, 2) := by decide +kernel
theorem dX15_paragraph_41 : decode cX15_paragraph 41 = .ok (.iconst 1, 1) := by decide +kernel
theorem dX15_paragraph_42 : decode cX15_paragraph 42 = .ok (.isub, 1) := by decide +kernel
theorem dX15_paragraph_43 : decode cX15_paragraph 43 = .ok (.invokestatic 197, 3) := by decide +kernel
theorem dX15_paragraph_46 : decode cX15_paragraph 46 = .ok (.ifCond .eq 12, 3) := by decide +kernel
theorem dX15_paragraph_49 : decode cX15_paragraph 49 = .ok (.aload_n 0, 1) := by decide +kernel
theorem dX15_paragraph_50 : decode cX15_paragraph 50 = .ok (.iload 4, 2) := by decide +kernel
theorem dX15_paragraph_52 : decode cX15_paragraph 52 = .ok (.invokevirtual 490, 3) := by decide +kernel
theorem dX15_paragraph_55 : decode cX15_paragraph 55 = .ok (.ifCond .ne 9, 3) := by decide +kernel
theorem dX15_paragraph_58 : decode cX15_paragraph 58 = .ok (.aload_n 0, 1) := by decide +kernel
theorem dX15_paragraph_59 : decode cX15_paragraph 59 = .ok (.iconst 2, 1) := by decide +kernel
theorem dX15_paragraph_60 : decode cX15_paragraph 60 = .ok (.invokevirtual 201, 3) := by decide +kernel
theorem dX15_paragraph_63 : decode cX15_paragraph 63 = .ok (.ireturn, 1) := by decide +kernel
theorem dX15_paragraph_64 : decode cX15_paragraph 64 = .ok (.aload_n 0, 1) := by decide +kernel
theorem dX15_paragraph_65 : decode cX15_paragraph 65 = .ok (.iload_n 1, 1) := by decide +kernel
theorem dX15_paragraph_66 : decode cX15_paragraph 66 = .ok (.iload 4, 2) := by decide +kernel
theorem dX15_paragraph_68 : decode cX15_paragraph 68 = .ok (.invokevirtual 493, 3) := by decide +kernel
theorem dX15_paragraph_71 : decode cX15_paragraph 71 = .ok (.ifCond .ne 5, 3) := by decide +kernel
theorem dX15_paragraph_74 : decode cX15_paragraph 74 = .ok (.iconst (-1), 1) := by decide +kernel
theorem dX15_paragraph_75 : decode cX15_paragraph 75 = .ok (.ireturn, 1) := by decide +kernel
theorem dX15_paragraph_76 : decode cX15_paragraph 76 = .ok (.iload 5, 2) := by decide +kernel
theorem dX15_paragraph_78 : decode cX15_paragraph 78 = .ok (.bipush 14, 2) := by decide +kernel
theorem dX15_paragraph_80 : decode cX15_paragraph 80 = .ok (.if_icmp .eq 13, 3) := by decide +kernel
theorem dX15_paragraph_83 : decode cX15_paragraph 83 = .ok (.aload_n 0, 1) := by decide +kernel
theorem dX15_paragraph_84 : decode cX15_paragraph 84 = .ok (.getfield 469, 3) := by decide +kernel
theorem dX15_paragraph_87 : decode cX15_paragraph 87 = .ok (.sipush 150, 3) := by decide +kernel
theorem dX15_paragraph_90 : decode cX15_paragraph 90 = .ok (.if_icmp .ne 9, 3) := by decide +kernel
theorem dX15_paragraph_93 : decode cX15_paragraph 93 = .ok (.aload_n 0, 1) := by decide +kernel
theorem dX15_paragraph_94 : decode cX15_paragraph 94 = .ok (.iconst 3, 1) := by decide +kernel
theorem dX15_paragraph_95 : decode cX15_paragraph 95 = .ok (.invokevirtual 201, 3) := by decide +kernel
theorem dX15_paragraph_98 : decode cX15_paragraph 98 = .ok (.ireturn, 1) := by decide +kernel
theorem dX15_paragraph_99 : decode cX15_paragraph 99 = .ok (.new 92, 3) := by decide +kernel
theorem dX15_paragraph_102 : decode cX15_paragraph 102 = .ok (.dup, 1) := by decide +kernel
theorem dX15_paragraph_103 : decode cX15_paragraph 103 = .ok (.invokespecial 496, 3) := by decide +kernel
theorem dX15_paragraph_106 : decode cX15_paragraph 106 = .ok (.astore 6, 2) := by decide +kernel
theorem dX15_paragraph_108 : decode cX15_paragraph 108 = .ok (.aload 6, 2) := by decide +kernel
theorem dX15_paragraph_110 : decode cX15_paragraph 110 = .ok (.iload_n 1, 1) := by decide +kernel
theorem dX15_paragraph_111 : decode cX15_paragraph 111 = .ok (.putfield 472, 3) := by decide +kernel
theorem dX15_paragraph_114 : decode cX15_paragraph 114 = .ok (.aload 6, 2) := by decide +kernel
theorem dX15_paragraph_116 : decode cX15_paragraph 116 = .ok (.iload 5, 2) := by decide +kernel
theorem dX15_paragraph_118 : decode cX15_paragraph 118 = .ok (.putfield 475, 3) := by decide +kernel
theorem dX15_paragraph_121 : decode cX15_paragraph 121 = .ok (.aload 6, 2) := by decide +kernel
theorem dX15_paragraph_123 : decode cX15_paragraph 123 = .ok (.iload_n 2, 1) := by decide +kernel
theorem dX15_paragraph_124 : decode cX15_paragraph 124 = .ok (.putfield 497, 3) := by decide +kernel
theorem dX15_paragraph_127 : decode cX15_paragraph 127 = .ok (.aload 6, 2) := by decide +kernel
theorem dX15_paragraph_129 : decode cX15_paragraph 129 = .ok (.iload_n 3, 1) := by decide +kernel
theorem dX15_paragraph_130 : decode cX15_paragraph 130 = .ok (.putfield 499, 3) := by decide +kernel
theorem dX15_paragraph_133 : decode cX15_paragraph 133 = .ok (.aload_n 0, 1) := by decide +kernel
theorem dX15_paragraph_134 : decode cX15_paragraph 134 = .ok (.aload 6, 2) := by decide +kernel
theorem dX15_paragraph_136 : decode cX15_paragraph 136 = .ok (.iload 4, 2) := by decide +kernel
theorem dX15_paragraph_138 : decode cX15_paragraph 138 = .ok (.invokevirtual 502, 3) := by decide +kernel
theorem dX15_paragraph_141 : decode cX15_paragraph 141 = .ok (.aload_n 0, 1) := by decide +kernel
theorem dX15_paragraph_142 : decode cX15_paragraph 142 = .ok (.getfield 94, 3) := by decide +kernel
theorem dX15_paragraph_145 : decode cX15_paragraph 145 = .ok (.aload_n 0, 1) := by decide +kernel
theorem dX15_paragraph_146 : decode cX15_paragraph 146 = .ok (.getfield 469, 3) := by decide +kernel
theorem dX15_paragraph_149 : decode cX15_paragraph 149 = .ok (.aload 6, 2) := by decide +kernel
theorem dX15_paragraph_151 : decode cX15_paragraph 151 = .ok (.aastore, 1) := by decide +kernel
theorem dX15_paragraph_152 : decode cX15_paragraph 152 = .ok (.aload_n 0, 1) := by decide +kernel
theorem dX15_paragraph_153 : decode cX15_paragraph 153 = .ok (.dup, 1) := by decide +kernel
theorem dX15_paragraph_154 : decode cX15_paragraph 154 = .ok (.getfield 469, 3) := by decide +kernel
theorem dX15_paragraph_157 : decode cX15_paragraph 157 = .ok (.iconst 1, 1) := by decide +kernel
theorem dX15_paragraph_158 : decode cX15_paragraph 158 = .ok (.iadd, 1) := by decide +kernel
theorem dX15_paragraph_159 : decode cX15_paragraph 159 = .ok (.putfield 469, 3) := by decide +kernel
theorem dX15_paragraph_162 : decode cX15_paragraph 162 = .ok (.aload_n 0, 1) := by decide +kernel
theorem dX15_paragraph_163 : decode cX15_paragraph 163 = .ok (.iload 5, 2) := by decide +kernel
theorem dX15_paragraph_165 : decode cX15_paragraph 165 = .ok (.invokevirtual 205, 3) := by decide +kernel
theorem dX15_paragraph_168 : decode cX15_paragraph 168 = .ok (.ireturn, 1) := by decide +kernel
def f_X15_paragraph_b58 (σ : TH) (l0 : Nat) : Option (Int32 × TH) :=
  gt_ (kd_ σ l0 = 17) <| bd_ (f_X15_refused σ l0 (2 : Int32)) fun x10 s11 => some (x10, s11)
set_option maxHeartbeats 4000000 in
set_option maxRecDepth 100000 in
theorem t_X15_paragraph_b58 {l : Launch} {D : va_G} {cy : Nat → ClassId} {ka : Nat → Nat} {σ0 z : TH} {r : Int32}  {σ : TH} {l0 : Nat} (hf : f_X15_paragraph_b58 σ l0 = some (r, z)) : v_ l D cy ka cX15_paragraph RX15 7 (some FieldType.int) "paragraph" 41 940 (qf_ D cy σ0 z (some (.int r))) σ0 z σ 58 [(0, va_rf (some l0))] [] := by
  unfold f_X15_paragraph_b58 at hf
  refine v_aload_n (x := (some l0)) dX15_paragraph_58 rfl 0 rfl ?_
  refine v_iconst (v := 2) dX15_paragraph_59 (by decide) ?_
  obtain ⟨hk_l0, hf⟩ := gt_of hf
  obtain ⟨x10, s11, hcs11, hf⟩ := bd_of hf
  have hts11 := c_X15_refused (l := l) (D := D) (cy := cy) (ka := ka) hcs11
  refine v_callV cb_16 hk_l0 (As := [.int (2 : Int32)]) (rest := []) hts11 yb_X15_refused kw_1729 kw_1731 kp_77 rfl ⟨Nat.le_of_ble_eq_true rfl, Nat.le_of_ble_eq_true rfl⟩ rfl (cat_len (Nat.le_of_ble_eq_true rfl)) dX15_paragraph_60 ?_
  have hk_l0 := tk_ hts11.1 hk_l0
  show v_ l D cy ka cX15_paragraph RX15 7 (some FieldType.int) "paragraph" 41 940 (qf_ D cy σ0 z (some (.int r))) σ0 z _ 63 [(0, va_rf (some l0))] [.int x10]
  exact v_iret hf dX15_paragraph_63
def f_X15_paragraph_b93 (σ : TH) (l0 : Nat) : Option (Int32 × TH) :=
  gt_ (kd_ σ l0 = 17) <| bd_ (f_X15_refused σ l0 (3 : Int32)) fun x18 s19 => some (x18, s19)
set_option maxHeartbeats 4000000 in
set_option maxRecDepth 100000 in
theorem t_X15_paragraph_b93 {l : Launch} {D : va_G} {cy : Nat → ClassId} {ka : Nat → Nat} {σ0 z : TH} {r : Int32}  {σ : TH} {l0 : Nat} (hf : f_X15_paragraph_b93 σ l0 = some (r, z)) : v_ l D cy ka cX15_paragraph RX15 7 (some FieldType.int) "paragraph" 41 940 (qf_ D cy σ0 z (some (.int r))) σ0 z σ 93 [(0, va_rf (some l0))] [] := by
  unfold f_X15_paragraph_b93 at hf
  refine v_aload_n (x := (some l0)) dX15_paragraph_93 rfl 0 rfl ?_
  refine v_iconst (v := 3) dX15_paragraph_94 (by decide) ?_
  obtain ⟨hk_l0, hf⟩ := gt_of hf
  obtain ⟨x18, s19, hcs19, hf⟩ := bd_of hf
  have hts19 := c_X15_refused (l := l) (D := D) (cy := cy) (ka := ka) hcs19
  refine v_callV cb_16 hk_l0 (As := [.int (3 : Int32)]) (rest := []) hts19 yb_X15_refused kw_1729 kw_1731 kp_77 rfl ⟨Nat.le_of_ble_eq_true rfl, Nat.le_of_ble_eq_true rfl⟩ rfl (cat_len (Nat.le_of_ble_eq_true rfl)) dX15_paragraph_95 ?_
  have hk_l0 := tk_ hts19.1 hk_l0
  show v_ l D cy ka cX15_paragraph RX15 7 (some FieldType.int) "paragraph" 41 940 (qf_ D cy σ0 z (some (.int r))) σ0 z _ 98 [(0, va_rf (some l0))] [.int x18]
  exact v_iret hf dX15_paragraph_98
/-- LivesAheadModel.paragraph(IIII)I -/
def f_X15_paragraph (σ : TH) (p0 : Nat) (p1 : Int32) (p2 : Int32) (p3 : Int32) (p4 : Int32) : Option (Int32 × TH) :=
  gt_ (kd_ σ p0 = 17) <| lt_ (si_ σ 1600 p0 (0 : Int32)) fun s1 => bd_ (f_X15_isPerson s1 p0 p1) fun x2 s3 => if x2 = 0 then (bd_ (f_X15_refused s3 p0 (1 : Int32)) fun x4 s5 => some (x4, s5)) else (bd_ (f_X15_storySize s3 p0 p1) fun x6 s7 => bd_ (f_X15_in s7 p2 (0 : Int32) (999 : Int32)) fun x8 s9 => if x8 = 0 then (f_X15_paragraph_b58 s9 p0) else (bd_ (f_X15_in s9 p3 (-1 : Int32) (x6 - (1 : Int32))) fun x12 s13 => if x12 = 0 then (f_X15_paragraph_b58 s13 p0) else (bd_ (f_X15_isTaped s13 p0 p4) fun x14 s15 => if x14 = 0 then (f_X15_paragraph_b58 s15 p0) else (bd_ (f_X15_isText s15 p0 p1 p4) fun x16 s17 => if x16 = 0 then (some ((-1 : Int32), s17)) else (if x6 = (14 : Int32) then (f_X15_paragraph_b93 s17 p0) else (lt_ (fi_ s17 1647 p0) fun x20 => if x20 = (150 : Int32) then (f_X15_paragraph_b93 s17 p0) else (gt_ (kd_ s17 (nx_ s17) = 0) <| lt_ (nx_ s17) fun a21 => lt_ (nw_ s17 15 0 7) fun s22 => bd_ (f_X13_init s22 a21) fun x23 s24 => lt_ (si_ s24 1400 a21 p1) fun s25 => lt_ (si_ s25 1401 a21 x6) fun s26 => lt_ (si_ s26 1402 a21 p2) fun s27 => lt_ (si_ s27 1403 a21 p3) fun s28 => bd_ (f_X15_takesText s28 p0 (some a21) p4) fun x29 s30 => lt_ (fr_ s30 1648 p0) fun r31 => lt_ (fi_ s30 1647 p0) fun x32 => nn_ r31 fun a33 => gt_ (kd_ s30 a33 = 27) <| gt_ (¬ (x32 < 0 ∨ ln_ s30 a33 ≤ x32.toNatClampNeg)) <| lt_ (sq_ s30 a33 x32.toNatClampNeg (some a21)) fun s34 => lt_ (fi_ s34 1647 p0) fun x35 => lt_ (si_ s34 1647 p0 (x35 + (1 : Int32))) fun s36 => bd_ (f_X15_done s36 p0 x6) fun x37 s38 => some (x37, s38))))))))
set_option maxHeartbeats 4000000 in
set_option maxRecDepth 100000 in
theorem c_X15_paragraph {l : Launch} {D : va_G} {cy : Nat → ClassId} {ka : Nat → Nat} {σ z : TH} {p0 : Nat} {p1 : Int32} {p2 : Int32} {p3 : Int32} {p4 : Int32} {r : Int32} (hf : f_X15_paragraph σ p0 p1 p2 p3 p4 = some (r, z)) : ct_ l D cy ka yX15_paragraph 41 940 [va_rf (some p0), .int p1, .int p2, .int p3, .int p4] σ (some (.int r)) z := by
  unfold f_X15_paragraph at hf
  refine v_start (cc := cX15_paragraph) (own := RX15) (maxL := 7) (ret := (some FieldType.int)) (nm := "paragraph") (by decide +kernel) kw_1860 rfl rfl (by simp [lg_sl, va_rf_cat, cat_i, cat_l]) ?_
  refine v_eqL (L2 := [(0, va_rf (some p0)), (1, .int p1), (2, .int p2), (3, .int p3), (4, .int p4)]) (by simp [lv_args, va_rf_cat, cat_i, cat_l]) ?_
  refine v_aload_n (x := (some p0)) dX15_paragraph_0 rfl 0 rfl ?_
  refine v_iconst (v := 0) dX15_paragraph_1 (by decide) ?_
  obtain ⟨hk_p0, hf⟩ := gt_of hf
  refine v_puti2 cb_16 hk_p0 0 1600 rfl (by decide) rfl (lk_n kw_1457 rfl) (Or.inl rfl) rfl rfl hf dX15_paragraph_2 (fun s1 hts1 hf => ?_)
  have hk_p0 := tk_ hts1 hk_p0
  refine v_aload_n (x := (some p0)) dX15_paragraph_5 rfl 0 rfl ?_
  refine v_iload_n (x := p1) dX15_paragraph_6 rfl 1 rfl ?_
  obtain ⟨x2, s3, hcs3, hf⟩ := bd_of hf
  have hts3 := c_X15_isPerson (l := l) (D := D) (cy := cy) (ka := ka) hcs3
  refine v_callV cb_16 hk_p0 (As := [.int p1]) (rest := []) hts3 yb_X15_isPerson kw_1770 kw_1772 kp_83 rfl ⟨Nat.le_of_ble_eq_true rfl, Nat.le_of_ble_eq_true rfl⟩ rfl (cat_len (Nat.le_of_ble_eq_true rfl)) dX15_paragraph_7 ?_
  have hk_p0 := tk_ hts3.1 hk_p0
  show v_ l D cy ka cX15_paragraph RX15 7 (some FieldType.int) "paragraph" 41 940 (qf_ D cy σ z (some (.int r))) σ z _ 10 [(0, va_rf (some p0)), (1, .int p1), (2, .int p2), (3, .int p3), (4, .int p4)] [.int x2]
  refine v_if_ne (tgt := 19) hf dX15_paragraph_10 (by decide) (fun hq hf => ?_) (fun hq hf => ?_)
  · refine v_aload_n (x := (some p0)) dX15_paragraph_13 rfl 0 rfl ?_
    refine v_iconst (v := 1) dX15_paragraph_14 (by decide) ?_
    obtain ⟨x4, s5, hcs5, hf⟩ := bd_of hf
    have hts5 := c_X15_refused (l := l) (D := D) (cy := cy) (ka := ka) hcs5
    refine v_callV cb_16 hk_p0 (As := [.int (1 : Int32)]) (rest := []) hts5 yb_X15_refused kw_1729 kw_1731 kp_77 rfl ⟨Nat.le_of_ble_eq_true rfl, Nat.le_of_ble_eq_true rfl⟩ rfl (cat_len (Nat.le_of_ble_eq_true rfl)) dX15_paragraph_15 ?_
    have hk_p0 := tk_ hts5.1 hk_p0
    show v_ l D cy ka cX15_paragraph RX15 7 (some FieldType.int) "paragraph" 41 940 (qf_ D cy σ z (some (.int r))) σ z _ 18 [(0, va_rf (some p0)), (1, .int p1), (2, .int p2), (3, .int p3), (4, .int p4)] [.int x4]
    exact v_iret hf dX15_paragraph_18
  · refine v_aload_n (x := (some p0)) dX15_paragraph_19 rfl 0 rfl ?_
    refine v_iload_n (x := p1) dX15_paragraph_20 rfl 1 rfl ?_
    obtain ⟨x6, s7, hcs7, hf⟩ := bd_of hf
    have hts7 := c_X15_storySize (l := l) (D := D) (cy := cy) (ka := ka) hcs7
    refine v_callV cb_16 hk_p0 (As := [.int p1]) (rest := []) hts7 yb_X15_storySize kw_1786 kw_1788 kp_87 rfl ⟨Nat.le_of_ble_eq_true rfl, Nat.le_of_ble_eq_true rfl⟩ rfl (cat_len (Nat.le_of_ble_eq_true rfl)) dX15_paragraph_21 ?_
    have hk_p0 := tk_ hts7.1 hk_p0
    show v_ l D cy ka cX15_paragraph RX15 7 (some FieldType.int) "paragraph" 41 940 (qf_ D cy σ z (some (.int r))) σ z _ 24 [(0, va_rf (some p0)), (1, .int p1), (2, .int p2), (3, .int p3), (4, .int p4)] [.int x6]
    refine v_istore [(5, .int x6), (0, va_rf (some p0)), (1, .int p1), (2, .int p2), (3, .int p3), (4, .int p4)] dX15_paragraph_24 (by decide) rfl ?_
    refine v_iload_n (x := p2) dX15_paragraph_26 rfl 3 rfl ?_
    refine v_iconst (v := 0) dX15_paragraph_27 (by decide) ?_
    refine v_sipush (v := 999) dX15_paragraph_28 (by decide) ?_
    obtain ⟨x8, s9, hcs9, hf⟩ := bd_of hf
    have hts9 := c_X15_in (l := l) (D := D) (cy := cy) (ka := ka) hcs9
    refine v_callS (As := [.int p2, .int (0 : Int32), .int (999 : Int32)]) (rest := []) hts9 yb_X15_in kw_1726 kw_1727 rfl ⟨Nat.le_of_ble_eq_true rfl, Nat.le_of_ble_eq_true rfl⟩ rfl (cat_len (Nat.le_of_ble_eq_true rfl)) dX15_paragraph_31 ?_
    have hk_p0 := tk_ hts9.1 hk_p0
    show v_ l D cy ka cX15_paragraph RX15 7 (some FieldType.int) "paragraph" 41 940 (qf_ D cy σ z (some (.int r))) σ z _ 34 [(5, .int x6), (0, va_rf (some p0)), (1, .int p1), (2, .int p2), (3, .int p3), (4, .int p4)] [.int x8]
    refine v_if_eq (tgt := 58) hf dX15_paragraph_34 (by decide) (fun hq hf => ?_) (fun hq hf => ?_)
    · refine v_sub [1] (L2 := [(0, va_rf (some p0))]) rfl ?_
      exact t_X15_paragraph_b58  hf
    · refine v_iload_n (x := p3) dX15_paragraph_37 rfl 4 rfl ?_
      refine v_iconst (v := (-1)) dX15_paragraph_38 (by decide) ?_
      refine v_iload (x := x6) dX15_paragraph_39 0 rfl ?_
      refine v_iconst (v := 1) dX15_paragraph_41 (by decide) ?_
      refine v_isub dX15_paragraph_42 ?_
      obtain ⟨x12, s13, hcs13, hf⟩ := bd_of hf
      have hts13 := c_X15_in (l := l) (D := D) (cy := cy) (ka := ka) hcs13
      refine v_callS (As := [.int p3, .int (-1 : Int32), .int (x6 - (1 : Int32))]) (rest := []) hts13 yb_X15_in kw_1726 kw_1727 rfl ⟨Nat.le_of_ble_eq_true rfl, Nat.le_of_ble_eq_true rfl⟩ rfl (cat_len (Nat.le_of_ble_eq_true rfl)) dX15_paragraph_43 ?_
      have hk_p0 := tk_ hts13.1 hk_p0
      show v_ l D cy ka cX15_paragraph RX15 7 (some FieldType.int) "paragraph" 41 940 (qf_ D cy σ z (some (.int r))) σ z _ 46 [(5, .int x6), (0, va_rf (some p0)), (1, .int p1), (2, .int p2), (3, .int p3), (4, .int p4)] [.int x12]
      refine v_if_eq (tgt := 58) hf dX15_paragraph_46 (by decide) (fun hq hf => ?_) (fun hq hf => ?_)
      · refine v_sub [1] (L2 := [(0, va_rf (some p0))]) rfl ?_
        exact t_X15_paragraph_b58  hf
      · refine v_aload_n (x := (some p0)) dX15_paragraph_49 rfl 1 rfl ?_
        refine v_iload (x := p4) dX15_paragraph_50 5 rfl ?_
        obtain ⟨x14, s15, hcs15, hf⟩ := bd_of hf
        have hts15 := c_X15_isTaped (l := l) (D := D) (cy := cy) (ka := ka) hcs15
        refine v_callV cb_16 hk_p0 (As := [.int p4]) (rest := []) hts15 yb_X15_isTaped kw_1861 kw_1863 kp_93 rfl ⟨Nat.le_of_ble_eq_true rfl, Nat.le_of_ble_eq_true rfl⟩ rfl (cat_len (Nat.le_of_ble_eq_true rfl)) dX15_paragraph_52 ?_
        have hk_p0 := tk_ hts15.1 hk_p0
        show v_ l D cy ka cX15_paragraph RX15 7 (some FieldType.int) "paragraph" 41 940 (qf_ D cy σ z (some (.int r))) σ z _ 55 [(5, .int x6), (0, va_rf (some p0)), (1, .int p1), (2, .int p2), (3, .int p3), (4, .int p4)] [.int x14]
        refine v_if_ne (tgt := 64) hf dX15_paragraph_55 (by decide) (fun hq hf => ?_) (fun hq hf => ?_)
        · refine v_sub [1] (L2 := [(0, va_rf (some p0))]) rfl ?_
          exact t_X15_paragraph_b58  hf
        · refine v_aload_n (x := (some p0)) dX15_paragraph_64 rfl 1 rfl ?_
          refine v_iload_n (x := p1) dX15_paragraph_65 rfl 2 rfl ?_
          refine v_iload (x := p4) dX15_paragraph_66 5 rfl ?_
          obtain ⟨x16, s17, hcs17, hf⟩ := bd_of hf
          have hts17 := c_X15_isText (l := l) (D := D) (cy := cy) (ka := ka) hcs17
          refine v_callVW cb_16 hk_p0 (As := [.int p1, .int p4]) (rest := []) hts17 yw_X15_isText kw_1865 kw_1867 kp_94 rfl ⟨Nat.le_of_ble_eq_true rfl, Nat.le_of_ble_eq_true rfl⟩ rfl (cat_len (Nat.le_of_ble_eq_true rfl)) dX15_paragraph_68 ?_
          have hk_p0 := tk_ hts17.1 hk_p0
          show v_ l D cy ka cX15_paragraph RX15 7 (some FieldType.int) "paragraph" 41 940 (qf_ D cy σ z (some (.int r))) σ z _ 71 [(5, .int x6), (0, va_rf (some p0)), (1, .int p1), (2, .int p2), (3, .int p3), (4, .int p4)] [.int x16]
          refine v_if_ne (tgt := 76) hf dX15_paragraph_71 (by decide) (fun hq hf => ?_) (fun hq hf => ?_)
          · refine v_iconst (v := (-1)) dX15_paragraph_74 (by decide) ?_
            exact v_iret hf dX15_paragraph_75
          · refine v_iload (x := x6) dX15_paragraph_76 0 rfl ?_
            refine v_bipush (v := 14) dX15_paragraph_78 (by decide) ?_
            refine v_icmp_eq (tgt := 93) hf dX15_paragraph_80 (by decide) (fun hq hf => ?_) (fun hq hf => ?_)
            · refine v_sub [1] (L2 := [(0, va_rf (some p0))]) rfl ?_
              exact t_X15_paragraph_b93  hf
            · refine v_aload_n (x := (some p0)) dX15_paragraph_83 rfl 1 rfl ?_
              refine v_geti cb_16 hk_p0 47 1647 rfl (by decide) rfl (lk_n kw_1504 rfl) hf dX15_paragraph_84 (fun x20 hf => ?_)
              refine v_sipush (v := 150) dX15_paragraph_87 (by decide) ?_
              refine v_icmp_ne (tgt := 99) hf dX15_paragraph_90 (by decide) (fun hq hf => ?_) (fun hq hf => ?_)
              · refine v_sub [1] (L2 := [(0, va_rf (some p0))]) rfl ?_
                exact t_X15_paragraph_b93  hf
              · refine v_new2 cb_14 df_14 kw_1453 kw_2023 kw_27 15 rfl hf dX15_paragraph_99 (fun a21 s22 hts22 hk_a21 hf => ?_)
                have hk_p0 := tk_ hts22 hk_p0
                refine v_dup dX15_paragraph_102 (va_rf_cat _) ?_
                obtain ⟨x23, s24, hcs24, hf⟩ := bd_of hf
                have hts24 := c_X13_init (l := l) (D := D) (cy := cy) (ka := ka) hcs24
                refine v_callIN (As := []) (rest := [va_rf (some a21)]) hts24 yb_X13_init kw_2024 kw_2025 rfl rfl ⟨Nat.le_of_ble_eq_true rfl, Nat.le_of_ble_eq_true rfl⟩ rfl (cat_len (Nat.le_of_ble_eq_true rfl)) dX15_paragraph_103 ?_
                have hk_p0 := tk_ hts24.1 hk_p0
                have hk_a21 := tk_ hts24.1 hk_a21
                show v_ l D cy ka cX15_paragraph RX15 7 (some FieldType.int) "paragraph" 41 940 (qf_ D cy σ z (some (.int r))) σ z _ 106 [(5, .int x6), (0, va_rf (some p0)), (1, .int p1), (2, .int p2), (3, .int p3), (4, .int p4)] [va_rf (some a21)]
                refine v_astore [(6, va_rf (some a21)), (5, .int x6), (0, va_rf (some p0)), (1, .int p1), (2, .int p2), (3, .int p3), (4, .int p4)] dX15_paragraph_106 (by decide) rfl ?_
                refine v_aload (x := (some a21)) dX15_paragraph_108 0 rfl ?_
                refine v_iload_n (x := p1) dX15_paragraph_110 rfl 3 rfl ?_
                refine v_puti2 cb_14 hk_a21 0 1400 rfl (by decide) rfl (lk_N kw_2028 rfl) (Or.inl rfl) rfl rfl hf dX15_paragraph_111 (fun s25 hts25 hf => ?_)
                have hk_p0 := tk_ hts25 hk_p0
                have hk_a21 := tk_ hts25 hk_a21
                refine v_aload (x := (some a21)) dX15_paragraph_114 0 rfl ?_
                refine v_iload (x := x6) dX15_paragraph_116 1 rfl ?_
                refine v_puti2 cb_14 hk_a21 1 1401 rfl (by decide) rfl (lk_N kw_2029 rfl) (Or.inl rfl) rfl rfl hf dX15_paragraph_118 (fun s26 hts26 hf => ?_)
                have hk_p0 := tk_ hts26 hk_p0
                have hk_a21 := tk_ hts26 hk_a21
                refine v_aload (x := (some a21)) dX15_paragraph_121 0 rfl ?_
                refine v_iload_n (x := p2) dX15_paragraph_123 rfl 4 rfl ?_
                refine v_puti2 cb_14 hk_a21 2 1402 rfl (by decide) rfl (lk_N kw_2030 rfl) (Or.inl rfl) rfl rfl hf dX15_paragraph_124 (fun s27 hts27 hf => ?_)
                have hk_p0 := tk_ hts27 hk_p0
                have hk_a21 := tk_ hts27 hk_a21
                refine v_aload (x := (some a21)) dX15_paragraph_127 0 rfl ?_
                refine v_iload_n (x := p3) dX15_paragraph_129 rfl 5 rfl ?_
                refine v_puti2 cb_14 hk_a21 3 1403 rfl (by decide) rfl (lk_N kw_2031 rfl) (Or.inl rfl) rfl rfl hf dX15_paragraph_130 (fun s28 hts28 hf => ?_)
                have hk_p0 := tk_ hts28 hk_p0
                have hk_a21 := tk_ hts28 hk_a21
                refine v_aload_n (x := (some p0)) dX15_paragraph_133 rfl 2 rfl ?_
                refine v_aload (x := (some a21)) dX15_paragraph_134 0 rfl ?_
                refine v_iload (x := p4) dX15_paragraph_136 6 rfl ?_
                obtain ⟨x29, s30, hcs30, hf⟩ := bd_of hf
                have hts30 := c_X15_takesText (l := l) (D := D) (cy := cy) (ka := ka) hcs30
                refine v_callV cb_16 hk_p0 (As := [va_rf (some a21), .int p4]) (rest := []) hts30 yb_X15_takesText kw_2050 kw_2052 kp_124 rfl ⟨Nat.le_of_ble_eq_true rfl, Nat.le_of_ble_eq_true rfl⟩ rfl (cat_len (Nat.le_of_ble_eq_true rfl)) dX15_paragraph_138 ?_
                have hk_p0 := tk_ hts30.1 hk_p0
                have hk_a21 := tk_ hts30.1 hk_a21
                show v_ l D cy ka cX15_paragraph RX15 7 (some FieldType.int) "paragraph" 41 940 (qf_ D cy σ z (some (.int r))) σ z _ 141 [(6, va_rf (some a21)), (5, .int x6), (0, va_rf (some p0)), (1, .int p1), (2, .int p2), (3, .int p3), (4, .int p4)] []
                refine v_aload_n (x := (some p0)) dX15_paragraph_141 rfl 2 rfl ?_
                refine v_getr cb_16 hk_p0 48 1648 rfl (by decide) rfl (lk_n kw_1505 rfl) hf dX15_paragraph_142 (fun r31 hf => ?_)
                refine v_aload_n (x := (some p0)) dX15_paragraph_145 rfl 2 rfl ?_
                refine v_geti cb_16 hk_p0 47 1647 rfl (by decide) rfl (lk_n kw_1504 rfl) hf dX15_paragraph_146 (fun x32 hf => ?_)
                refine v_aload (x := (some a21)) dX15_paragraph_149 0 rfl ?_
                obtain ⟨a33, rfl, hf⟩ := nn_of hf
                obtain ⟨hk_a33, hf⟩ := gt_of hf
                refine v_aast2 cb_14 hk_a21 26 7 RX13 hk_a33 (by decide) rfl (Or.inl rfl) hf dX15_paragraph_151 (fun s34 hts34 hf => ?_)
                have hk_p0 := tk_ hts34 hk_p0
                have hk_a21 := tk_ hts34 hk_a21
                refine v_aload_n (x := (some p0)) dX15_paragraph_152 rfl 2 rfl ?_
                refine v_dup dX15_paragraph_153 (va_rf_cat _) ?_
                refine v_geti cb_16 hk_p0 47 1647 rfl (by decide) rfl (lk_n kw_1504 rfl) hf dX15_paragraph_154 (fun x35 hf => ?_)
                refine v_iconst (v := 1) dX15_paragraph_157 (by decide) ?_
                refine v_iadd dX15_paragraph_158 ?_
                refine v_puti2 cb_16 hk_p0 47 1647 rfl (by decide) rfl (lk_n kw_1504 rfl) (Or.inl rfl) rfl rfl hf dX15_paragraph_159 (fun s36 hts36 hf => ?_)
                have hk_p0 := tk_ hts36 hk_p0
                have hk_a21 := tk_ hts36 hk_a21
                refine v_aload_n (x := (some p0)) dX15_paragraph_162 rfl 2 rfl ?_
                refine v_iload (x := x6) dX15_paragraph_163 1 rfl ?_
                obtain ⟨x37, s38, hcs38, hf⟩ := bd_of hf
                have hts38 := c_X15_done (l := l) (D := D) (cy := cy) (ka := ka) hcs38
                refine v_callV cb_16 hk_p0 (As := [.int x6]) (rest := []) hts38 yb_X15_done kw_1733 kw_1735 kp_78 rfl ⟨Nat.le_of_ble_eq_true rfl, Nat.le_of_ble_eq_true rfl⟩ rfl (cat_len (Nat.le_of_ble_eq_true rfl)) dX15_paragraph_165 ?_
                have hk_p0 := tk_ hts38.1 hk_p0
                have hk_a21 := tk_ hts38.1 hk_a21
                show v_ l D cy ka cX15_paragraph RX15 7 (some FieldType.int) "paragraph" 41 940 (qf_ D cy σ z (some (.int r))) σ z _ 168 [(6, va_rf (some a21)), (5, .int x6), (0, va_rf (some p0)), (1, .int p1), (2, .int p2), (3, .int p3), (4, .int p4)] [.int x37]
                exact v_iret hf dX15_paragraph_168
theorem dX15_rewrite_0 : decode cX15_rewrite 0 = .ok (.aload_n 0, 1) := by decide +kernel
theorem dX15_rewrite_1 : decode cX15_rewrite 1 = .ok (.iconst 0, 1) := by decide +kernel
theorem dX15_rewrite_2 : decode cX15_rewrite 2 = .ok (.putfield 1, 3) := by decide +kernel
theorem dX15_rewrite_5 : decode cX15_rewrite 5 = .ok (.aload_n 0, 1) := by decide +kernel
theorem dX15_rewrite_6 : decode cX15_rewrite 6 = .ok (.iload_n 1, 1) := by decide +kernel
theorem dX15_rewrite_7 : decode cX15_rewrite 7 = .ok (.invokevirtual 227, 3) := by decide +kernel
theorem dX15_rewrite_10 : decode cX15_rewrite 10 = .ok (.ifCond .eq 12, 3) := by decide +kernel
theorem dX15_rewrite_13 : decode cX15_rewrite 13 = .ok (.aload_n 0, 1) := by decide +kernel
theorem dX15_rewrite_14 : decode cX15_rewrite 14 = .ok (.iload_n 1, 1) := by decide +kernel
theorem dX15_rewrite_15 : decode cX15_rewrite 15 = .ok (.iload_n 2, 1) := by decide +kernel
theorem dX15_rewrite_16 : decode cX15_rewrite 16 = .ok (.invokevirtual 506, 3) := by decide +kernel
theorem dX15_rewrite_19 : decode cX15_rewrite 19 = .ok (.goto 4, 3) := by decide +kernel
theorem dX15_rewrite_22 : decode cX15_rewrite 22 = .ok (.aconst_null, 1) := by decide +kernel
theorem dX15_rewrite_23 : decode cX15_rewrite 23 = .ok (.astore 4, 2) := by decide +kernel
theorem dX15_rewrite_25 : decode cX15_rewrite 25 = .ok (.aload 4, 2) := by decide +kernel
theorem dX15_rewrite_27 : decode cX15_rewrite 27 = .ok (.ifnonnull 9, 3) := by decide +kernel
theorem dX15_rewrite_30 : decode cX15_rewrite 30 = .ok (.aload_n 0, 1) := by decide +kernel
theorem dX15_rewrite_31 : decode cX15_rewrite 31 = .ok (.iconst 1, 1) := by decide +kernel
theorem dX15_rewrite_32 : decode cX15_rewrite 32 = .ok (.invokevirtual 212, 3) := by decide +kernel
theorem dX15_rewrite_35 : decode cX15_rewrite 35 = .ok (.ireturn, 1) := by decide +kernel
theorem dX15_rewrite_36 : decode cX15_rewrite 36 = .ok (.aload_n 0, 1) := by decide +kernel
theorem dX15_rewrite_37 : decode cX15_rewrite 37 = .ok (.iload_n 3, 1) := by decide +kernel
theorem dX15_rewrite_38 : decode cX15_rewrite 38 = .ok (.invokevirtual 490, 3) := by decide +kernel
theorem dX15_rewrite_41 : decode cX15_rewrite 41 = .ok (.ifCond .ne 9, 3) := by decide +kernel
theorem dX15_rewrite_44 : decode cX15_rewrite 44 = .ok (.aload_n 0, 1) := by decide +kernel
theorem dX15_rewrite_45 : decode cX15_rewrite 45 = .ok (.iconst 2, 1) := by decide +kernel
theorem dX15_rewrite_46 : decode cX15_rewrite 46 = .ok (.invokevirtual 212, 3) := by decide +kernel
theorem dX15_rewrite_49 : decode cX15_rewrite 49 = .ok (.ireturn, 1) := by decide +kernel
theorem dX15_rewrite_50 : decode cX15_rewrite 50 = .ok (.aload_n 0, 1) := by decide +kernel
theorem dX15_rewrite_51 : decode cX15_rewrite 51 = .ok (.iload_n 1, 1) := by decide +kernel
theorem dX15_rewrite_52 : decode cX15_rewrite 52 = .ok (.iload_n 3, 1) := by decide +kernel
theorem dX15_rewrite_53 : decode cX15_rewrite 53 = .ok (.invokevirtual 493, 3) := by decide +kernel
theorem dX15_rewrite_56 : decode cX15_rewrite 56 = .ok (.ifCond .ne 5, 3) := by decide +kernel
theorem dX15_rewrite_59 : decode cX15_rewrite 59 = .ok (.iconst 0, 1) := by decide +kernel
theorem dX15_rewrite_60 : decode cX15_rewrite 60 = .ok (.ireturn, 1) := by decide +kernel
theorem dX15_rewrite_61 : decode cX15_rewrite 61 = .ok (.aload_n 0, 1) := by decide +kernel
theorem dX15_rewrite_62 : decode cX15_rewrite 62 = .ok (.aload 4, 2) := by decide +kernel
theorem dX15_rewrite_64 : decode cX15_rewrite 64 = .ok (.iload_n 3, 1) := by decide +kernel
theorem dX15_rewrite_65 : decode cX15_rewrite 65 = .ok (.invokevirtual 502, 3) := by decide +kernel
theorem dX15_rewrite_68 : decode cX15_rewrite 68 = .ok (.aload_n 0, 1) := by decide +kernel
theorem dX15_rewrite_69 : decode cX15_rewrite 69 = .ok (.invokevirtual 215, 3) := by decide +kernel
theorem dX15_rewrite_72 : decode cX15_rewrite 72 = .ok (.ireturn, 1) := by decide +kernel
def f_X15_rewrite_b23 (σ : TH) (l0 : Nat) (l1 : Int32) (l3 : Int32) (t0 : Option Nat) : Option (Int32 × TH) :=
  oc_ t0 (gt_ (kd_ σ l0 = 17) <| bd_ (f_X15_denied σ l0 (1 : Int32)) fun x5 s6 => gt_ (x5 = 0 ∨ x5 = 1) <| some (x5, s6)) (fun a4 => gt_ (kd_ σ l0 = 17) <| bd_ (f_X15_isTaped σ l0 l3) fun x7 s8 => if x7 = 0 then (bd_ (f_X15_denied s8 l0 (2 : Int32)) fun x9 s10 => gt_ (x9 = 0 ∨ x9 = 1) <| some (x9, s10)) else (bd_ (f_X15_isText s8 l0 l1 l3) fun x11 s12 => if x11 = 0 then (some ((0 : Int32), s12)) else (bd_ (f_X15_takesText s12 l0 (some a4) l3) fun x13 s14 => bd_ (f_X15_granted s14 l0) fun x15 s16 => gt_ (x15 = 0 ∨ x15 = 1) <| some (x15, s16))))
set_option maxHeartbeats 4000000 in
set_option maxRecDepth 100000 in
theorem t_X15_rewrite_b23 {l : Launch} {D : va_G} {cy : Nat → ClassId} {ka : Nat → Nat} {σ0 z : TH} {r : Int32}  {σ : TH} {l0 : Nat} {l1 : Int32} {l3 : Int32} {t0 : Option Nat} (hf : f_X15_rewrite_b23 σ l0 l1 l3 t0 = some (r, z)) : v_ l D cy ka cX15_rewrite RX15 5 (some FieldType.boolean) "rewrite" 41 940 (qf_ D cy σ0 z (some (.int r))) σ0 z σ 23 [(0, va_rf (some l0)), (1, .int l1), (3, .int l3)] [va_rf t0] := by
  unfold f_X15_rewrite_b23 at hf
  refine v_astore [(4, va_rf t0), (0, va_rf (some l0)), (1, .int l1), (3, .int l3)] dX15_rewrite_23 (by decide) rfl ?_
  refine v_aload (x := t0) dX15_rewrite_25 0 rfl ?_
  refine v_ifnonnull2 (tgt := 36) hf dX15_rewrite_27 (by decide) (fun e9 hf9 => ?_) (fun a4 e9 hf9 => ?_)
  · subst e9
    replace hf := hf9
    clear hf9
    refine v_aload_n (x := (some l0)) dX15_rewrite_30 rfl 1 rfl ?_
    refine v_iconst (v := 1) dX15_rewrite_31 (by decide) ?_
    obtain ⟨hk_l0, hf⟩ := gt_of hf
    obtain ⟨x5, s6, hcs6, hf⟩ := bd_of hf
    have hts6 := c_X15_denied (l := l) (D := D) (cy := cy) (ka := ka) hcs6
    refine v_callV cb_16 hk_l0 (As := [.int (1 : Int32)]) (rest := []) hts6 yb_X15_denied kw_1745 kw_1747 kp_80 rfl ⟨Nat.le_of_ble_eq_true rfl, Nat.le_of_ble_eq_true rfl⟩ rfl (cat_len (Nat.le_of_ble_eq_true rfl)) dX15_rewrite_32 ?_
    have hk_l0 := tk_ hts6.1 hk_l0
    show v_ l D cy ka cX15_rewrite RX15 5 (some FieldType.boolean) "rewrite" 41 940 (qf_ D cy σ0 z (some (.int r))) σ0 z _ 35 [(4, va_rf none), (0, va_rf (some l0)), (1, .int l1), (3, .int l3)] [.int x5]
    obtain ⟨hb9, hf⟩ := gt_of hf
    exact v_zret hf (nz_ hb9) dX15_rewrite_35
  · subst e9
    replace hf := hf9
    clear hf9
    refine v_aload_n (x := (some l0)) dX15_rewrite_36 rfl 1 rfl ?_
    refine v_iload_n (x := l3) dX15_rewrite_37 rfl 3 rfl ?_
    obtain ⟨hk_l0, hf⟩ := gt_of hf
    obtain ⟨x7, s8, hcs8, hf⟩ := bd_of hf
    have hts8 := c_X15_isTaped (l := l) (D := D) (cy := cy) (ka := ka) hcs8
    refine v_callV cb_16 hk_l0 (As := [.int l3]) (rest := []) hts8 yb_X15_isTaped kw_1861 kw_1863 kp_93 rfl ⟨Nat.le_of_ble_eq_true rfl, Nat.le_of_ble_eq_true rfl⟩ rfl (cat_len (Nat.le_of_ble_eq_true rfl)) dX15_rewrite_38 ?_
    have hk_l0 := tk_ hts8.1 hk_l0
    show v_ l D cy ka cX15_rewrite RX15 5 (some FieldType.boolean) "rewrite" 41 940 (qf_ D cy σ0 z (some (.int r))) σ0 z _ 41 [(4, va_rf (some a4)), (0, va_rf (some l0)), (1, .int l1), (3, .int l3)] [.int x7]
    refine v_if_ne (tgt := 50) hf dX15_rewrite_41 (by decide) (fun hq hf => ?_) (fun hq hf => ?_)
    · refine v_aload_n (x := (some l0)) dX15_rewrite_44 rfl 1 rfl ?_
      refine v_iconst (v := 2) dX15_rewrite_45 (by decide) ?_
      obtain ⟨x9, s10, hcs10, hf⟩ := bd_of hf
      have hts10 := c_X15_denied (l := l) (D := D) (cy := cy) (ka := ka) hcs10
      refine v_callV cb_16 hk_l0 (As := [.int (2 : Int32)]) (rest := []) hts10 yb_X15_denied kw_1745 kw_1747 kp_80 rfl ⟨Nat.le_of_ble_eq_true rfl, Nat.le_of_ble_eq_true rfl⟩ rfl (cat_len (Nat.le_of_ble_eq_true rfl)) dX15_rewrite_46 ?_
      have hk_l0 := tk_ hts10.1 hk_l0
      show v_ l D cy ka cX15_rewrite RX15 5 (some FieldType.boolean) "rewrite" 41 940 (qf_ D cy σ0 z (some (.int r))) σ0 z _ 49 [(4, va_rf (some a4)), (0, va_rf (some l0)), (1, .int l1), (3, .int l3)] [.int x9]
      obtain ⟨hb9, hf⟩ := gt_of hf
      exact v_zret hf (nz_ hb9) dX15_rewrite_49
    · refine v_aload_n (x := (some l0)) dX15_rewrite_50 rfl 1 rfl ?_
      refine v_iload_n (x := l1) dX15_rewrite_51 rfl 2 rfl ?_
      refine v_iload_n (x := l3) dX15_rewrite_52 rfl 3 rfl ?_
      obtain ⟨x11, s12, hcs12, hf⟩ := bd_of hf
      have hts12 := c_X15_isText (l := l) (D := D) (cy := cy) (ka := ka) hcs12
      refine v_callVW cb_16 hk_l0 (As := [.int l1, .int l3]) (rest := []) hts12 yw_X15_isText kw_1865 kw_1867 kp_94 rfl ⟨Nat.le_of_ble_eq_true rfl, Nat.le_of_ble_eq_true rfl⟩ rfl (cat_len (Nat.le_of_ble_eq_true rfl)) dX15_rewrite_53 ?_
      have hk_l0 := tk_ hts12.1 hk_l0
      show v_ l D cy ka cX15_rewrite RX15 5 (some FieldType.boolean) "rewrite" 41 940 (qf_ D cy σ0 z (some (.int r))) σ0 z _ 56 [(4, va_rf (some a4)), (0, va_rf (some l0)), (1, .int l1), (3, .int l3)] [.int x11]
      refine v_if_ne (tgt := 61) hf dX15_rewrite_56 (by decide) (fun hq hf => ?_) (fun hq hf => ?_)
      · refine v_iconst (v := 0) dX15_rewrite_59 (by decide) ?_
        exact v_zret hf rfl dX15_rewrite_60
      · refine v_aload_n (x := (some l0)) dX15_rewrite_61 rfl 1 rfl ?_
        refine v_aload (x := (some a4)) dX15_rewrite_62 0 rfl ?_
        refine v_iload_n (x := l3) dX15_rewrite_64 rfl 3 rfl ?_
        obtain ⟨x13, s14, hcs14, hf⟩ := bd_of hf
        have hts14 := c_X15_takesText (l := l) (D := D) (cy := cy) (ka := ka) hcs14
        refine v_callV cb_16 hk_l0 (As := [va_rf (some a4), .int l3]) (rest := []) hts14 yb_X15_takesText kw_2050 kw_2052 kp_124 rfl ⟨Nat.le_of_ble_eq_true rfl, Nat.le_of_ble_eq_true rfl⟩ rfl (cat_len (Nat.le_of_ble_eq_true rfl)) dX15_rewrite_65 ?_
        have hk_l0 := tk_ hts14.1 hk_l0
        show v_ l D cy ka cX15_rewrite RX15 5 (some FieldType.boolean) "rewrite" 41 940 (qf_ D cy σ0 z (some (.int r))) σ0 z _ 68 [(4, va_rf (some a4)), (0, va_rf (some l0)), (1, .int l1), (3, .int l3)] []
        refine v_aload_n (x := (some l0)) dX15_rewrite_68 rfl 1 rfl ?_
        obtain ⟨x15, s16, hcs16, hf⟩ := bd_of hf
        have hts16 := c_X15_granted (l := l) (D := D) (cy := cy) (ka := ka) hcs16
        refine v_callV cb_16 hk_l0 (As := []) (rest := []) hts16 yb_X15_granted kw_1749 kw_1751 kp_81 rfl ⟨Nat.le_of_ble_eq_true rfl, Nat.le_of_ble_eq_true rfl⟩ rfl (cat_len (Nat.le_of_ble_eq_true rfl)) dX15_rewrite_69 ?_
        have hk_l0 := tk_ hts16.1 hk_l0
        show v_ l D cy ka cX15_rewrite RX15 5 (some FieldType.boolean) "rewrite" 41 940 (qf_ D cy σ0 z (some (.int r))) σ0 z _ 72 [(4, va_rf (some a4)), (0, va_rf (some l0)), (1, .int l1), (3, .int l3)] [.int x15]
        obtain ⟨hb9, hf⟩ := gt_of hf
        exact v_zret hf (nz_ hb9) dX15_rewrite_72
/-- LivesAheadModel.rewrite(III)Z -/
def f_X15_rewrite (σ : TH) (p0 : Nat) (p1 : Int32) (p2 : Int32) (p3 : Int32) : Option (Int32 × TH) :=
  gt_ (kd_ σ p0 = 17) <| lt_ (si_ σ 1600 p0 (0 : Int32)) fun s1 => bd_ (f_X15_isPerson s1 p0 p1) fun x2 s3 => if x2 = 0 then (f_X15_rewrite_b23 s3 p0 p1 p3 none) else (bd_ (f_X15_at s3 p0 p1 p2) fun r17 s18 => f_X15_rewrite_b23 s18 p0 p1 p3 r17)
set_option maxHeartbeats 4000000 in
set_option maxRecDepth 100000 in
theorem c_X15_rewrite {l : Launch} {D : va_G} {cy : Nat → ClassId} {ka : Nat → Nat} {σ z : TH} {p0 : Nat} {p1 : Int32} {p2 : Int32} {p3 : Int32} {r : Int32} (hf : f_X15_rewrite σ p0 p1 p2 p3 = some (r, z)) : ct_ l D cy ka yX15_rewrite 41 940 [va_rf (some p0), .int p1, .int p2, .int p3] σ (some (.int r)) z := by
  unfold f_X15_rewrite at hf
  refine v_start (cc := cX15_rewrite) (own := RX15) (maxL := 5) (ret := (some FieldType.boolean)) (nm := "rewrite") (by decide +kernel) kw_2057 rfl rfl (by simp [lg_sl, va_rf_cat, cat_i, cat_l]) ?_
  refine v_eqL (L2 := [(0, va_rf (some p0)), (1, .int p1), (2, .int p2), (3, .int p3)]) (by simp [lv_args, va_rf_cat, cat_i, cat_l]) ?_
  refine v_aload_n (x := (some p0)) dX15_rewrite_0 rfl 0 rfl ?_
  refine v_iconst (v := 0) dX15_rewrite_1 (by decide) ?_
  obtain ⟨hk_p0, hf⟩ := gt_of hf
  refine v_puti2 cb_16 hk_p0 0 1600 rfl (by decide) rfl (lk_n kw_1457 rfl) (Or.inl rfl) rfl rfl hf dX15_rewrite_2 (fun s1 hts1 hf => ?_)
  have hk_p0 := tk_ hts1 hk_p0
  refine v_aload_n (x := (some p0)) dX15_rewrite_5 rfl 0 rfl ?_
  refine v_iload_n (x := p1) dX15_rewrite_6 rfl 1 rfl ?_
  obtain ⟨x2, s3, hcs3, hf⟩ := bd_of hf
  have hts3 := c_X15_isPerson (l := l) (D := D) (cy := cy) (ka := ka) hcs3
  refine v_callV cb_16 hk_p0 (As := [.int p1]) (rest := []) hts3 yb_X15_isPerson kw_1770 kw_1772 kp_83 rfl ⟨Nat.le_of_ble_eq_true rfl, Nat.le_of_ble_eq_true rfl⟩ rfl (cat_len (Nat.le_of_ble_eq_true rfl)) dX15_rewrite_7 ?_
  have hk_p0 := tk_ hts3.1 hk_p0
  show v_ l D cy ka cX15_rewrite RX15 5 (some FieldType.boolean) "rewrite" 41 940 (qf_ D cy σ z (some (.int r))) σ z _ 10 [(0, va_rf (some p0)), (1, .int p1), (2, .int p2), (3, .int p3)] [.int x2]
  refine v_if_eq (tgt := 22) hf dX15_rewrite_10 (by decide) (fun hq hf => ?_) (fun hq hf => ?_)
  · refine v_null dX15_rewrite_22 ?_
    refine v_sub [0, 1, 3] (L2 := [(0, va_rf (some p0)), (1, .int p1), (3, .int p3)]) rfl ?_
    exact t_X15_rewrite_b23  hf
  · refine v_aload_n (x := (some p0)) dX15_rewrite_13 rfl 0 rfl ?_
    refine v_iload_n (x := p1) dX15_rewrite_14 rfl 1 rfl ?_
    refine v_iload_n (x := p2) dX15_rewrite_15 rfl 2 rfl ?_
    obtain ⟨r17, s18, hcs18, hf⟩ := bd_of hf
    have hts18 := c_X15_at (l := l) (D := D) (cy := cy) (ka := ka) hcs18
    refine v_callV cb_16 hk_p0 (As := [.int p1, .int p2]) (rest := []) hts18 yb_X15_at kw_2058 kw_2060 kp_125 rfl ⟨Nat.le_of_ble_eq_true rfl, Nat.le_of_ble_eq_true rfl⟩ rfl (cat_len (Nat.le_of_ble_eq_true rfl)) dX15_rewrite_16 ?_
    have hk_p0 := tk_ hts18.1 hk_p0
    show v_ l D cy ka cX15_rewrite RX15 5 (some FieldType.boolean) "rewrite" 41 940 (qf_ D cy σ z (some (.int r))) σ z _ 19 [(0, va_rf (some p0)), (1, .int p1), (2, .int p2), (3, .int p3)] [va_rf r17]
    refine v_goto (tgt := 23) dX15_rewrite_19 (by decide) ?_
    refine v_sub [0, 1, 3] (L2 := [(0, va_rf (some p0)), (1, .int p1), (3, .int p3)]) rfl ?_
    exact t_X15_rewrite_b23  hf
theorem dX15_init_0 : decode cX15_init 0 = .ok (.aload_n 0, 1) := by decide +kernel
theorem dX15_init_1 : decode cX15_init 1 = .ok (.invokespecial 13, 3) := by decide +kernel
theorem dX15_init_4 : decode cX15_init 4 = .ok (.aload_n 0, 1) := by decide +kernel
theorem dX15_init_5 : decode cX15_init 5 = .ok (.iconst (-1), 1) := by decide +kernel
theorem dX15_init_6 : decode cX15_init 6 = .ok (.putfield 10, 3) := by decide +kernel
theorem dX15_init_9 : decode cX15_init 9 = .ok (.aload_n 0, 1) := by decide +kernel
theorem dX15_init_10 : decode cX15_init 10 = .ok (.bipush 6, 2) := by decide +kernel
theorem dX15_init_12 : decode cX15_init 12 = .ok (.newarray .int, 2) := by decide +kernel
theorem dX15_init_14 : decode cX15_init 14 = .ok (.putfield 19, 3) := by decide +kernel
theorem dX15_init_17 : decode cX15_init 17 = .ok (.aload_n 0, 1) := by decide +kernel
theorem dX15_init_18 : decode cX15_init 18 = .ok (.bipush 30, 2) := by decide +kernel
theorem dX15_init_20 : decode cX15_init 20 = .ok (.newarray .int, 2) := by decide +kernel
theorem dX15_init_22 : decode cX15_init 22 = .ok (.putfield 23, 3) := by decide +kernel
theorem dX15_init_25 : decode cX15_init 25 = .ok (.aload_n 0, 1) := by decide +kernel
theorem dX15_init_26 : decode cX15_init 26 = .ok (.bipush 30, 2) := by decide +kernel
theorem dX15_init_28 : decode cX15_init 28 = .ok (.newarray .int, 2) := by decide +kernel
theorem dX15_init_30 : decode cX15_init 30 = .ok (.putfield 26, 3) := by decide +kernel
theorem dX15_init_33 : decode cX15_init 33 = .ok (.aload_n 0, 1) := by decide +kernel
theorem dX15_init_34 : decode cX15_init 34 = .ok (.bipush 30, 2) := by decide +kernel
theorem dX15_init_36 : decode cX15_init 36 = .ok (.newarray .int, 2) := by decide +kernel
theorem dX15_init_38 : decode cX15_init 38 = .ok (.putfield 29, 3) := by decide +kernel
theorem dX15_init_41 : decode cX15_init 41 = .ok (.aload_n 0, 1) := by decide +kernel
theorem dX15_init_42 : decode cX15_init 42 = .ok (.bipush 30, 2) := by decide +kernel
theorem dX15_init_44 : decode cX15_init 44 = .ok (.newarray .int, 2) := by decide +kernel
theorem dX15_init_46 : decode cX15_init 46 = .ok (.putfield 32, 3) := by decide +kernel
theorem dX15_init_49 : decode cX15_init 49 = .ok (.aload_n 0, 1) := by decide +kernel
theorem dX15_init_50 : decode cX15_init 50 = .ok (.bipush 30, 2) := by decide +kernel
theorem dX15_init_52 : decode cX15_init 52 = .ok (.newarray .int, 2) := by decide +kernel
theorem dX15_init_54 : decode cX15_init 54 = .ok (.putfield 35, 3) := by decide +kernel
theorem dX15_init_57 : decode cX15_init 57 = .ok (.aload_n 0, 1) := by decide +kernel
theorem dX15_init_58 : decode cX15_init 58 = .ok (.bipush 30, 2) := by decide +kernel
theorem dX15_init_60 : decode cX15_init 60 = .ok (.newarray .int, 2) := by decide +kernel
theorem dX15_init_62 : decode cX15_init 62 = .ok (.putfield 38, 3) := by decide +kernel
theorem dX15_init_65 : decode cX15_init 65 = .ok (.aload_n 0, 1) := by decide +kernel
theorem dX15_init_66 : decode cX15_init 66 = .ok (.bipush 6, 2) := by decide +kernel
theorem dX15_init_68 : decode cX15_init 68 = .ok (.newarray .boolean, 2) := by decide +kernel
theorem dX15_init_70 : decode cX15_init 70 = .ok (.putfield 41, 3) := by decide +kernel
theorem dX15_init_73 : decode cX15_init 73 = .ok (.aload_n 0, 1) := by decide +kernel
theorem dX15_init_74 : decode cX15_init 74 = .ok (.bipush 30, 2) := by decide +kernel
theorem dX15_init_76 : decode cX15_init 76 = .ok (.newarray .boolean, 2) := by decide +kernel
theorem dX15_init_78 : decode cX15_init 78 = .ok (.putfield 45, 3) := by decide +kernel
theorem dX15_init_81 : decode cX15_init 81 = .ok (.aload_n 0, 1) := by decide +kernel
theorem dX15_init_82 : decode cX15_init 82 = .ok (.bipush 30, 2) := by decide +kernel
theorem dX15_init_84 : decode cX15_init 84 = .ok (.newarray .boolean, 2) := by decide +kernel
theorem dX15_init_86 : decode cX15_init 86 = .ok (.putfield 48, 3) := by decide +kernel
theorem dX15_init_89 : decode cX15_init 89 = .ok (.aload_n 0, 1) := by decide +kernel
theorem dX15_init_90 : decode cX15_init 90 = .ok (.bipush 10, 2) := by decide +kernel
theorem dX15_init_92 : decode cX15_init 92 = .ok (.newarray .int, 2) := by decide +kernel
theorem dX15_init_94 : decode cX15_init 94 = .ok (.putfield 51, 3) := by decide +kernel
theorem dX15_init_97 : decode cX15_init 97 = .ok (.aload_n 0, 1) := by decide +kernel
theorem dX15_init_98 : decode cX15_init 98 = .ok (.sipush 300, 3) := by decide +kernel
theorem dX15_init_101 : decode cX15_init 101 = .ok (.newarray .int, 2) := by decide +kernel
theorem dX15_init_103 : decode cX15_init 103 = .ok (.putfield 54, 3) := by decide +kernel
theorem dX15_init_106 : decode cX15_init 106 = .ok (.aload_n 0, 1) := by decide +kernel
theorem dX15_init_107 : decode cX15_init 107 = .ok (.sipush 240, 3) := by decide +kernel
theorem dX15_init_110 : decode cX15_init 110 = .ok (.newarray .int, 2) := by decide +kernel
theorem dX15_init_112 : decode cX15_init 112 = .ok (.putfield 57, 3) := by decide +kernel
theorem dX15_init_115 : decode cX15_init 115 = .ok (.aload_n 0, 1) := by decide +kernel
theorem dX15_init_116 : decode cX15_init 116 = .ok (.sipush 240, 3) := by decide +kernel
theorem dX15_init_119 : decode cX15_init 119 = .ok (.newarray .int, 2) := by decide +kernel
theorem dX15_init_121 : decode cX15_init 121 = .ok (.putfield 60, 3) := by decide +kernel
theorem dX15_init_124 : decode cX15_init 124 = .ok (.aload_n 0, 1) := by decide +kernel
theorem dX15_init_125 : decode cX15_init 125 = .ok (.sipush 240, 3) := by decide +kernel
theorem dX15_init_128 : decode cX15_init 128 = .ok (.newarray .int, 2) := by decide +kernel
theorem dX15_init_130 : decode cX15_init 130 = .ok (.putfield 63, 3) := by decide +kernel
theorem dX15_init_133 : decode cX15_init 133 = .ok (.aload_n 0, 1) := by decide +kernel
theorem dX15_init_134 : decode cX15_init 134 = .ok (.sipush 240, 3) := by decide +kernel
theorem dX15_init_137 : decode cX15_init 137 = .ok (.newarray .int, 2) := by decide +kernel
theorem dX15_init_139 : decode cX15_init 139 = .ok (.putfield 66, 3) := by decide +kernel
theorem dX15_init_142 : decode cX15_init 142 = .ok (.aload_n 0, 1) := by decide +kernel
theorem dX15_init_143 : decode cX15_init 143 = .ok (.sipush 240, 3) := by decide +kernel
theorem dX15_init_146 : decode cX15_init 146 = .ok (.newarray .boolean, 2) := by decide +kernel
theorem dX15_init_148 : decode cX15_init 148 = .ok (.putfield 69, 3) := by decide +kernel
theorem dX15_init_151 : decode cX15_init 151 = .ok (.aload_n 0, 1) := by decide +kernel
theorem dX15_init_152 : decode cX15_init 152 = .ok (.new 72, 3) := by decide +kernel
theorem dX15_init_155 : decode cX15_init 155 = .ok (.dup, 1) := by decide +kernel
theorem dX15_init_156 : decode cX15_init 156 = .ok (.invokespecial 74, 3) := by decide +kernel
theorem dX15_init_159 : decode cX15_init 159 = .ok (.putfield 75, 3) := by decide +kernel
theorem dX15_init_162 : decode cX15_init 162 = .ok (.aload_n 0, 1) := by decide +kernel
theorem dX15_init_163 : decode cX15_init 163 = .ok (.sipush 400, 3) := by decide +kernel
theorem dX15_init_166 : decode cX15_init 166 = .ok (.newarray .byte, 2) := by decide +kernel
theorem dX15_init_168 : decode cX15_init 168 = .ok (.putfield 79, 3) := by decide +kernel
theorem dX15_init_171 : decode cX15_init 171 = .ok (.aload_n 0, 1) := by decide +kernel
theorem dX15_init_172 : decode cX15_init 172 = .ok (.sipush 1200, 3) := by decide +kernel
theorem dX15_init_175 : decode cX15_init 175 = .ok (.newarray .byte, 2) := by decide +kernel
theorem dX15_init_177 : decode cX15_init 177 = .ok (.putfield 83, 3) := by decide +kernel
theorem dX15_init_180 : decode cX15_init 180 = .ok (.aload_n 0, 1) := by decide +kernel
theorem dX15_init_181 : decode cX15_init 181 = .ok (.sipush 1200, 3) := by decide +kernel
theorem dX15_init_184 : decode cX15_init 184 = .ok (.newarray .byte, 2) := by decide +kernel
theorem dX15_init_186 : decode cX15_init 186 = .ok (.putfield 86, 3) := by decide +kernel
theorem dX15_init_189 : decode cX15_init 189 = .ok (.aload_n 0, 1) := by decide +kernel
theorem dX15_init_190 : decode cX15_init 190 = .ok (.aload_n 0, 1) := by decide +kernel
theorem dX15_init_191 : decode cX15_init 191 = .ok (.getfield 79, 3) := by decide +kernel
theorem dX15_init_194 : decode cX15_init 194 = .ok (.putfield 89, 3) := by decide +kernel
theorem dX15_init_197 : decode cX15_init 197 = .ok (.aload_n 0, 1) := by decide +kernel
theorem dX15_init_198 : decode cX15_init 198 = .ok (.sipush 150, 3) := by decide +kernel
theorem dX15_init_201 : decode cX15_init 201 = .ok (.anewarray 92, 3) := by decide +kernel
theorem dX15_init_204 : decode cX15_init 204 = .ok (.putfield 94, 3) := by decide +kernel
theorem dX15_init_207 : decode cX15_init 207 = .ok (.aload_n 0, 1) := by decide +kernel
theorem dX15_init_208 : decode cX15_init 208 = .ok (.bipush 14, 2) := by decide +kernel
theorem dX15_init_210 : decode cX15_init 210 = .ok (.newarray .int, 2) := by decide +kernel
theorem dX15_init_212 : decode cX15_init 212 = .ok (.putfield 98, 3) := by decide +kernel
theorem dX15_init_215 : decode cX15_init 215 = .ok (.aload_n 0, 1) := by decide +kernel
theorem dX15_init_216 : decode cX15_init 216 = .ok (.bipush 14, 2) := by decide +kernel
theorem dX15_init_218 : decode cX15_init 218 = .ok (.newarray .int, 2) := by decide +kernel
theorem dX15_init_220 : decode cX15_init 220 = .ok (.putfield 101, 3) := by decide +kernel
theorem dX15_init_223 : decode cX15_init 223 = .ok (.aload_n 0, 1) := by decide +kernel
theorem dX15_init_224 : decode cX15_init 224 = .ok (.bipush 14, 2) := by decide +kernel
theorem dX15_init_226 : decode cX15_init 226 = .ok (.newarray .int, 2) := by decide +kernel
theorem dX15_init_228 : decode cX15_init 228 = .ok (.putfield 104, 3) := by decide +kernel
theorem dX15_init_231 : decode cX15_init 231 = .ok (.aload_n 0, 1) := by decide +kernel
theorem dX15_init_232 : decode cX15_init 232 = .ok (.bipush 14, 2) := by decide +kernel
theorem dX15_init_234 : decode cX15_init 234 = .ok (.newarray .boolean, 2) := by decide +kernel
theorem dX15_init_236 : decode cX15_init 236 = .ok (.putfield 107, 3) := by decide +kernel
theorem dX15_init_239 : decode cX15_init 239 = .ok (.aload_n 0, 1) := by decide +kernel
theorem dX15_init_240 : decode cX15_init 240 = .ok (.iconst (-1), 1) := by decide +kernel
theorem dX15_init_241 : decode cX15_init 241 = .ok (.putfield 110, 3) := by decide +kernel
theorem dX15_init_244 : decode cX15_init 244 = .ok (.aload_n 0, 1) := by decide +kernel
theorem dX15_init_245 : decode cX15_init 245 = .ok (.iconst (-1), 1) := by decide +kernel
theorem dX15_init_246 : decode cX15_init 246 = .ok (.putfield 113, 3) := by decide +kernel
theorem dX15_init_249 : decode cX15_init 249 = .ok (.aload_n 0, 1) := by decide +kernel
theorem dX15_init_250 : decode cX15_init 250 = .ok (.bipush 12, 2) := by decide +kernel
theorem dX15_init_252 : decode cX15_init 252 = .ok (.anewarray 92, 3) := by decide +kernel
theorem dX15_init_255 : decode cX15_init 255 = .ok (.putfield 116, 3) := by decide +kernel
theorem dX15_init_258 : decode cX15_init 258 = .ok (.aload_n 0, 1) := by decide +kernel
theorem dX15_init_259 : decode cX15_init 259 = .ok (.bipush 120, 2) := by decide +kernel
theorem dX15_init_261 : decode cX15_init 261 = .ok (.newarray .int, 2) := by decide +kernel
theorem dX15_init_263 : decode cX15_init 263 = .ok (.putfield 119, 3) := by decide +kernel
theorem dX15_init_266 : decode cX15_init 266 = .ok (.aload_n 0, 1) := by decide +kernel
theorem dX15_init_267 : decode cX15_init 267 = .ok (.bipush 120, 2) := by decide +kernel
theorem dX15_init_269 : decode cX15_init 269 = .ok (.newarray .int, 2) := by decide +kernel
theorem dX15_init_271 : decode cX15_init 271 = .ok (.putfield 122, 3) := by decide +kernel
theorem dX15_init_274 : decode cX15_init 274 = .ok (.aload_n 0, 1) := by decide +kernel
theorem dX15_init_275 : decode cX15_init 275 = .ok (.bipush 120, 2) := by decide +kernel
theorem dX15_init_277 : decode cX15_init 277 = .ok (.newarray .int, 2) := by decide +kernel
theorem dX15_init_279 : decode cX15_init 279 = .ok (.putfield 125, 3) := by decide +kernel
theorem dX15_init_282 : decode cX15_init 282 = .ok (.aload_n 0, 1) := by decide +kernel
theorem dX15_init_283 : decode cX15_init 283 = .ok (.bipush 120, 2) := by decide +kernel
theorem dX15_init_285 : decode cX15_init 285 = .ok (.newarray .int, 2) := by decide +kernel
theorem dX15_init_287 : decode cX15_init 287 = .ok (.putfield 128, 3) := by decide +kernel
theorem dX15_init_290 : decode cX15_init 290 = .ok (.aload_n 0, 1) := by decide +kernel
theorem dX15_init_291 : decode cX15_init 291 = .ok (.bipush 120, 2) := by decide +kernel
theorem dX15_init_293 : decode cX15_init 293 = .ok (.newarray .int, 2) := by decide +kernel
theorem dX15_init_295 : decode cX15_init 295 = .ok (.putfield 131, 3) := by decide +kernel
theorem dX15_init_298 : decode cX15_init 298 = .ok (.aload_n 0, 1) := by decide +kernel
theorem dX15_init_299 : decode cX15_init 299 = .ok (.sipush 360, 3) := by decide +kernel
theorem dX15_init_302 : decode cX15_init 302 = .ok (.newarray .int, 2) := by decide +kernel
theorem dX15_init_304 : decode cX15_init 304 = .ok (.putfield 134, 3) := by decide +kernel
theorem dX15_init_307 : decode cX15_init 307 = .ok (.aload_n 0, 1) := by decide +kernel
theorem dX15_init_308 : decode cX15_init 308 = .ok (.sipush 360, 3) := by decide +kernel
theorem dX15_init_311 : decode cX15_init 311 = .ok (.newarray .int, 2) := by decide +kernel
theorem dX15_init_313 : decode cX15_init 313 = .ok (.putfield 137, 3) := by decide +kernel
theorem dX15_init_316 : decode cX15_init 316 = .ok (.aload_n 0, 1) := by decide +kernel
theorem dX15_init_317 : decode cX15_init 317 = .ok (.bipush 120, 2) := by decide +kernel
theorem dX15_init_319 : decode cX15_init 319 = .ok (.newarray .boolean, 2) := by decide +kernel
theorem dX15_init_321 : decode cX15_init 321 = .ok (.putfield 140, 3) := by decide +kernel
theorem dX15_init_324 : decode cX15_init 324 = .ok (.aload_n 0, 1) := by decide +kernel
theorem dX15_init_325 : decode cX15_init 325 = .ok (.bipush 40, 2) := by decide +kernel
theorem dX15_init_327 : decode cX15_init 327 = .ok (.newarray .int, 2) := by decide +kernel
theorem dX15_init_329 : decode cX15_init 329 = .ok (.putfield 143, 3) := by decide +kernel
theorem dX15_init_332 : decode cX15_init 332 = .ok (.aload_n 0, 1) := by decide +kernel
theorem dX15_init_333 : decode cX15_init 333 = .ok (.bipush 40, 2) := by decide +kernel
theorem dX15_init_335 : decode cX15_init 335 = .ok (.newarray .int, 2) := by decide +kernel
theorem dX15_init_337 : decode cX15_init 337 = .ok (.putfield 146, 3) := by decide +kernel
theorem dX15_init_340 : decode cX15_init 340 = .ok (.aload_n 0, 1) := by decide +kernel
theorem dX15_init_341 : decode cX15_init 341 = .ok (.bipush 40, 2) := by decide +kernel
theorem dX15_init_343 : decode cX15_init 343 = .ok (.newarray .int, 2) := by decide +kernel
theorem dX15_init_345 : decode cX15_init 345 = .ok (.putfield 149, 3) := by decide +kernel
theorem dX15_init_348 : decode cX15_init 348 = .ok (.aload_n 0, 1) := by decide +kernel
theorem dX15_init_349 : decode cX15_init 349 = .ok (.bipush 40, 2) := by decide +kernel
theorem dX15_init_351 : decode cX15_init 351 = .ok (.newarray .int, 2) := by decide +kernel
theorem dX15_init_353 : decode cX15_init 353 = .ok (.putfield 152, 3) := by decide +kernel
theorem dX15_init_356 : decode cX15_init 356 = .ok (.aload_n 0, 1) := by decide +kernel
theorem dX15_init_357 : decode cX15_init 357 = .ok (.bipush 40, 2) := by decide +kernel
theorem dX15_init_359 : decode cX15_init 359 = .ok (.newarray .int, 2) := by decide +kernel
theorem dX15_init_361 : decode cX15_init 361 = .ok (.putfield 155, 3) := by decide +kernel
theorem dX15_init_364 : decode cX15_init 364 = .ok (.aload_n 0, 1) := by decide +kernel
theorem dX15_init_365 : decode cX15_init 365 = .ok (.bipush 40, 2) := by decide +kernel
theorem dX15_init_367 : decode cX15_init 367 = .ok (.newarray .int, 2) := by decide +kernel
theorem dX15_init_369 : decode cX15_init 369 = .ok (.putfield 158, 3) := by decide +kernel
theorem dX15_init_372 : decode cX15_init 372 = .ok (.aload_n 0, 1) := by decide +kernel
theorem dX15_init_373 : decode cX15_init 373 = .ok (.bipush 60, 2) := by decide +kernel
theorem dX15_init_375 : decode cX15_init 375 = .ok (.newarray .int, 2) := by decide +kernel
theorem dX15_init_377 : decode cX15_init 377 = .ok (.putfield 161, 3) := by decide +kernel
theorem dX15_init_380 : decode cX15_init 380 = .ok (.aload_n 0, 1) := by decide +kernel
theorem dX15_init_381 : decode cX15_init 381 = .ok (.bipush 60, 2) := by decide +kernel
theorem dX15_init_383 : decode cX15_init 383 = .ok (.newarray .int, 2) := by decide +kernel
theorem dX15_init_385 : decode cX15_init 385 = .ok (.putfield 164, 3) := by decide +kernel
theorem dX15_init_388 : decode cX15_init 388 = .ok (.aload_n 0, 1) := by decide +kernel
theorem dX15_init_389 : decode cX15_init 389 = .ok (.bipush 60, 2) := by decide +kernel
theorem dX15_init_391 : decode cX15_init 391 = .ok (.newarray .int, 2) := by decide +kernel
theorem dX15_init_393 : decode cX15_init 393 = .ok (.putfield 167, 3) := by decide +kernel
theorem dX15_init_396 : decode cX15_init 396 = .ok (.aload_n 0, 1) := by decide +kernel
theorem dX15_init_397 : decode cX15_init 397 = .ok (.bipush 60, 2) := by decide +kernel
theorem dX15_init_399 : decode cX15_init 399 = .ok (.newarray .boolean, 2) := by decide +kernel
theorem dX15_init_401 : decode cX15_init 401 = .ok (.putfield 170, 3) := by decide +kernel
theorem dX15_init_404 : decode cX15_init 404 = .ok (.aload_n 0, 1) := by decide +kernel
theorem dX15_init_405 : decode cX15_init 405 = .ok (.bipush 80, 2) := by decide +kernel
theorem dX15_init_407 : decode cX15_init 407 = .ok (.anewarray 173, 3) := by decide +kernel
theorem dX15_init_410 : decode cX15_init 410 = .ok (.putfield 175, 3) := by decide +kernel
theorem dX15_init_413 : decode cX15_init 413 = .ok (.aload_n 0, 1) := by decide +kernel
theorem dX15_init_414 : decode cX15_init 414 = .ok (.bipush 30, 2) := by decide +kernel
theorem dX15_init_416 : decode cX15_init 416 = .ok (.newarray .int, 2) := by decide +kernel
theorem dX15_init_418 : decode cX15_init 418 = .ok (.putfield 179, 3) := by decide +kernel
theorem dX15_init_421 : decode cX15_init 421 = .ok (.aload_n 0, 1) := by decide +kernel
theorem dX15_init_422 : decode cX15_init 422 = .ok (.bipush 12, 2) := by decide +kernel
theorem dX15_init_424 : decode cX15_init 424 = .ok (.newarray .int, 2) := by decide +kernel
theorem dX15_init_426 : decode cX15_init 426 = .ok (.putfield 182, 3) := by decide +kernel
theorem dX15_init_429 : decode cX15_init 429 = .ok (.aload_n 0, 1) := by decide +kernel
theorem dX15_init_430 : decode cX15_init 430 = .ok (.iconst (-1), 1) := by decide +kernel
theorem dX15_init_431 : decode cX15_init 431 = .ok (.putfield 185, 3) := by decide +kernel
theorem dX15_init_434 : decode cX15_init 434 = .ok (.iconst 0, 1) := by decide +kernel
theorem dX15_init_435 : decode cX15_init 435 = .ok (.istore_n 1, 1) := by decide +kernel
theorem dX15_init_436 : decode cX15_init 436 = .ok (.iload_n 1, 1) := by decide +kernel
theorem dX15_init_437 : decode cX15_init 437 = .ok (.bipush 10, 2) := by decide +kernel
theorem dX15_init_439 : decode cX15_init 439 = .ok (.if_icmp .ge 18, 3) := by decide +kernel
theorem dX15_init_442 : decode cX15_init 442 = .ok (.aload_n 0, 1) := by decide +kernel
theorem dX15_init_443 : decode cX15_init 443 = .ok (.getfield 51, 3) := by decide +kernel
theorem dX15_init_446 : decode cX15_init 446 = .ok (.iload_n 1, 1) := by decide +kernel
theorem dX15_init_447 : decode cX15_init 447 = .ok (.sipush 365, 3) := by decide +kernel
theorem dX15_init_450 : decode cX15_init 450 = .ok (.iastore, 1) := by decide +kernel
theorem dX15_init_451 : decode cX15_init 451 = .ok (.iinc 1 1, 3) := by decide +kernel
theorem dX15_init_454 : decode cX15_init 454 = .ok (.goto (-18), 3) := by decide +kernel
theorem dX15_init_457 : decode cX15_init 457 = .ok (.iconst 0, 1) := by decide +kernel
theorem dX15_init_458 : decode cX15_init 458 = .ok (.istore_n 1, 1) := by decide +kernel
theorem dX15_init_459 : decode cX15_init 459 = .ok (.iload_n 1, 1) := by decide +kernel
theorem dX15_init_460 : decode cX15_init 460 = .ok (.sipush 300, 3) := by decide +kernel
theorem dX15_init_463 : decode cX15_init 463 = .ok (.if_icmp .ge 16, 3) := by decide +kernel
theorem dX15_init_466 : decode cX15_init 466 = .ok (.aload_n 0, 1) := by decide +kernel
theorem dX15_init_467 : decode cX15_init 467 = .ok (.getfield 54, 3) := by decide +kernel
theorem dX15_init_470 : decode cX15_init 470 = .ok (.iload_n 1, 1) := by decide +kernel
theorem dX15_init_471 : decode cX15_init 471 = .ok (.iconst (-1), 1) := by decide +kernel
theorem dX15_init_472 : decode cX15_init 472 = .ok (.iastore, 1) := by decide +kernel
theorem dX15_init_473 : decode cX15_init 473 = .ok (.iinc 1 1, 3) := by decide +kernel
theorem dX15_init_476 : decode cX15_init 476 = .ok (.goto (-17), 3) := by decide +kernel
theorem dX15_init_479 : decode cX15_init 479 = .ok (.return_, 1) := by decide +kernel
def f_X15_init_b459 : Nat → TH → Nat → Int32 → Option (Unit × TH)
  | 0, _, _, _ => none
  | n + 1, σ, l0, l1 => if (300 : Int32) ≤ l1 then (some ((), σ)) else (gt_ (kd_ σ l0 = 17) <| lt_ (fr_ σ 1619 l0) fun r153 => nn_ r153 fun a154 => gt_ (kd_ σ a154 = 20) <| gt_ (¬ (l1 < 0 ∨ ln_ σ a154 ≤ l1.toNatClampNeg)) <| lt_ (sa_ σ a154 l1.toNatClampNeg (-1 : Int32)) fun s155 => lt_ (l1 + 1) fun x156 => (f_X15_init_b459 n) s155 l0 x156)
set_option maxHeartbeats 4000000 in
set_option maxRecDepth 100000 in
theorem t_X15_init_b459 {l : Launch} {D : va_G} {cy : Nat → ClassId} {ka : Nat → Nat} {σ0 z : TH} {r : Unit}  : ∀ (n : Nat) (σ : TH) (l0 : Nat) (l1 : Int32), f_X15_init_b459 n σ l0 l1 = some (r, z) → v_ l D cy ka cX15_init RX15 2 none "<init>" 5 112 (qf_ D cy σ0 z none) σ0 z σ 459 [(0, va_rf (some l0)), (1, .int l1)] [] := by
  intro n
  induction n with
  | zero => intro σ l0 l1 hf; unfold f_X15_init_b459 at hf; cases hf
  | succ n ih =>
    intro σ l0 l1 hf
    unfold f_X15_init_b459 at hf
    have hrec_459 := ih
    refine v_iload_n (x := l1) dX15_init_459 rfl 1 rfl ?_
    refine v_sipush (v := 300) dX15_init_460 (by decide) ?_
    refine v_icmp_ge (tgt := 479) hf dX15_init_463 (by decide) (fun hq hf => ?_) (fun hq hf => ?_)
    · exact v_vret hf dX15_init_479
    · refine v_aload_n (x := (some l0)) dX15_init_466 rfl 0 rfl ?_
      obtain ⟨hk_l0, hf⟩ := gt_of hf
      refine v_getr cb_16 hk_l0 19 1619 rfl (by decide) rfl (lk_n kw_1476 rfl) hf dX15_init_467 (fun r153 hf => ?_)
      refine v_iload_n (x := l1) dX15_init_470 rfl 1 rfl ?_
      refine v_iconst (v := (-1)) dX15_init_471 (by decide) ?_
      obtain ⟨a154, rfl, hf⟩ := nn_of hf
      obtain ⟨hk_a154, hf⟩ := gt_of hf
      refine v_iast2 hk_a154 hf dX15_init_472 (fun s155 hts155 hf => ?_)
      have hk_l0 := tk_ hts155 hk_l0
      obtain ⟨x156, ex156⟩ : ∃ y : Int32, y = l1 + 1 := ⟨_, rfl⟩
      rw [lt_e, ← ex156] at hf
      refine v_iinc (v := x156) [(1, .int x156), (0, va_rf (some l0))] dX15_init_473 1 rfl (by rw [ex156]; rfl) (by decide) rfl ?_
      refine v_goto (tgt := 459) dX15_init_476 (by decide) ?_
      refine v_sub [1, 0] (L2 := [(0, va_rf (some l0)), (1, .int x156)]) rfl ?_
      exact hrec_459 _ _ _ hf
def f_X15_init_b436 : Nat → TH → Nat → Int32 → Option (Unit × TH)
  | 0, _, _, _ => none
  | n + 1, σ, l0, l1 => if (10 : Int32) ≤ l1 then (f_X15_init_b459 fu_ σ l0 (0 : Int32)) else (gt_ (kd_ σ l0 = 17) <| lt_ (fr_ σ 1618 l0) fun r157 => nn_ r157 fun a158 => gt_ (kd_ σ a158 = 20) <| gt_ (¬ (l1 < 0 ∨ ln_ σ a158 ≤ l1.toNatClampNeg)) <| lt_ (sa_ σ a158 l1.toNatClampNeg (365 : Int32)) fun s159 => lt_ (l1 + 1) fun x160 => (f_X15_init_b436 n) s159 l0 x160)
set_option maxHeartbeats 4000000 in
set_option maxRecDepth 100000 in
theorem t_X15_init_b436 {l : Launch} {D : va_G} {cy : Nat → ClassId} {ka : Nat → Nat} {σ0 z : TH} {r : Unit}  : ∀ (n : Nat) (σ : TH) (l0 : Nat) (l1 : Int32), f_X15_init_b436 n σ l0 l1 = some (r, z) → v_ l D cy ka cX15_init RX15 2 none "<init>" 5 112 (qf_ D cy σ0 z none) σ0 z σ 436 [(0, va_rf (some l0)), (1, .int l1)] [] := by
  intro n
  induction n with
  | zero => intro σ l0 l1 hf; unfold f_X15_init_b436 at hf; cases hf
  | succ n ih =>
    intro σ l0 l1 hf
    unfold f_X15_init_b436 at hf
    have hrec_436 := ih
    refine v_iload_n (x := l1) dX15_init_436 rfl 1 rfl ?_
    refine v_bipush (v := 10) dX15_init_437 (by decide) ?_
    refine v_icmp_ge (tgt := 457) hf dX15_init_439 (by decide) (fun hq hf => ?_) (fun hq hf => ?_)
    · refine v_iconst (v := 0) dX15_init_457 (by decide) ?_
      refine v_istore_n [(1, .int (0 : Int32)), (0, va_rf (some l0))] dX15_init_458 rfl (by decide) rfl ?_
      refine v_sub [1, 0] (L2 := [(0, va_rf (some l0)), (1, .int (0 : Int32))]) rfl ?_
      exact t_X15_init_b459  _ _ _ _ hf
    · refine v_aload_n (x := (some l0)) dX15_init_442 rfl 0 rfl ?_
      obtain ⟨hk_l0, hf⟩ := gt_of hf
      refine v_getr cb_16 hk_l0 18 1618 rfl (by decide) rfl (lk_n kw_1475 rfl) hf dX15_init_443 (fun r157 hf => ?_)
      refine v_iload_n (x := l1) dX15_init_446 rfl 1 rfl ?_
      refine v_sipush (v := 365) dX15_init_447 (by decide) ?_
      obtain ⟨a158, rfl, hf⟩ := nn_of hf
      obtain ⟨hk_a158, hf⟩ := gt_of hf
      refine v_iast2 hk_a158 hf dX15_init_450 (fun s159 hts159 hf => ?_)
      have hk_l0 := tk_ hts159 hk_l0
      obtain ⟨x160, ex160⟩ : ∃ y : Int32, y = l1 + 1 := ⟨_, rfl⟩
      rw [lt_e, ← ex160] at hf
      refine v_iinc (v := x160) [(1, .int x160), (0, va_rf (some l0))] dX15_init_451 1 rfl (by rw [ex160]; rfl) (by decide) rfl ?_
      refine v_goto (tgt := 436) dX15_init_454 (by decide) ?_
      refine v_sub [1, 0] (L2 := [(0, va_rf (some l0)), (1, .int x160)]) rfl ?_
      exact hrec_436 _ _ _ hf
/-- LivesAheadModel.<init>()V -/
def f_X15_init (σ : TH) (p0 : Nat) : Option (Unit × TH) :=
  gt_ (kd_ σ p0 = 17) <| lt_ (si_ σ 1602 p0 (-1 : Int32)) fun s1 => gt_ (¬ (6 : Int32) < 0 ∧ (6 : Int32).toNatClampNeg ≤ 100000 ∧ kd_ s1 (nx_ s1) = 0) <| lt_ (nx_ s1) fun a2 => lt_ (nw_ s1 20 ((6 : Int32).toNatClampNeg) ((6 : Int32).toNatClampNeg)) fun s3 => lt_ (sr_ s3 1607 p0 ((some a2))) fun s4 => gt_ (¬ (30 : Int32) < 0 ∧ (30 : Int32).toNatClampNeg ≤ 100000 ∧ kd_ s4 (nx_ s4) = 0) <| lt_ (nx_ s4) fun a5 => lt_ (nw_ s4 20 ((30 : Int32).toNatClampNeg) ((30 : Int32).toNatClampNeg)) fun s6 => lt_ (sr_ s6 1608 p0 ((some a5))) fun s7 => gt_ (¬ (30 : Int32) < 0 ∧ (30 : Int32).toNatClampNeg ≤ 100000 ∧ kd_ s7 (nx_ s7) = 0) <| lt_ (nx_ s7) fun a8 => lt_ (nw_ s7 20 ((30 : Int32).toNatClampNeg) ((30 : Int32).toNatClampNeg)) fun s9 => lt_ (sr_ s9 1609 p0 ((some a8))) fun s10 => gt_ (¬ (30 : Int32) < 0 ∧ (30 : Int32).toNatClampNeg ≤ 100000 ∧ kd_ s10 (nx_ s10) = 0) <| lt_ (nx_ s10) fun a11 => lt_ (nw_ s10 20 ((30 : Int32).toNatClampNeg) ((30 : Int32).toNatClampNeg)) fun s12 => lt_ (sr_ s12 1610 p0 ((some a11))) fun s13 => gt_ (¬ (30 : Int32) < 0 ∧ (30 : Int32).toNatClampNeg ≤ 100000 ∧ kd_ s13 (nx_ s13) = 0) <| lt_ (nx_ s13) fun a14 => lt_ (nw_ s13 20 ((30 : Int32).toNatClampNeg) ((30 : Int32).toNatClampNeg)) fun s15 => lt_ (sr_ s15 1611 p0 ((some a14))) fun s16 => gt_ (¬ (30 : Int32) < 0 ∧ (30 : Int32).toNatClampNeg ≤ 100000 ∧ kd_ s16 (nx_ s16) = 0) <| lt_ (nx_ s16) fun a17 => lt_ (nw_ s16 20 ((30 : Int32).toNatClampNeg) ((30 : Int32).toNatClampNeg)) fun s18 => lt_ (sr_ s18 1612 p0 ((some a17))) fun s19 => gt_ (¬ (30 : Int32) < 0 ∧ (30 : Int32).toNatClampNeg ≤ 100000 ∧ kd_ s19 (nx_ s19) = 0) <| lt_ (nx_ s19) fun a20 => lt_ (nw_ s19 20 ((30 : Int32).toNatClampNeg) ((30 : Int32).toNatClampNeg)) fun s21 => lt_ (sr_ s21 1613 p0 ((some a20))) fun s22 => gt_ (¬ (6 : Int32) < 0 ∧ (6 : Int32).toNatClampNeg ≤ 100000 ∧ kd_ s22 (nx_ s22) = 0) <| lt_ (nx_ s22) fun a23 => lt_ (nw_ s22 22 ((6 : Int32).toNatClampNeg) ((6 : Int32).toNatClampNeg)) fun s24 => lt_ (sr_ s24 1614 p0 ((some a23))) fun s25 => gt_ (¬ (30 : Int32) < 0 ∧ (30 : Int32).toNatClampNeg ≤ 100000 ∧ kd_ s25 (nx_ s25) = 0) <| lt_ (nx_ s25) fun a26 => lt_ (nw_ s25 22 ((30 : Int32).toNatClampNeg) ((30 : Int32).toNatClampNeg)) fun s27 => lt_ (sr_ s27 1615 p0 ((some a26))) fun s28 => gt_ (¬ (30 : Int32) < 0 ∧ (30 : Int32).toNatClampNeg ≤ 100000 ∧ kd_ s28 (nx_ s28) = 0) <| lt_ (nx_ s28) fun a29 => lt_ (nw_ s28 22 ((30 : Int32).toNatClampNeg) ((30 : Int32).toNatClampNeg)) fun s30 => lt_ (sr_ s30 1616 p0 ((some a29))) fun s31 => gt_ (¬ (10 : Int32) < 0 ∧ (10 : Int32).toNatClampNeg ≤ 100000 ∧ kd_ s31 (nx_ s31) = 0) <| lt_ (nx_ s31) fun a32 => lt_ (nw_ s31 20 ((10 : Int32).toNatClampNeg) ((10 : Int32).toNatClampNeg)) fun s33 => lt_ (sr_ s33 1618 p0 ((some a32))) fun s34 => gt_ (¬ (300 : Int32) < 0 ∧ (300 : Int32).toNatClampNeg ≤ 100000 ∧ kd_ s34 (nx_ s34) = 0) <| lt_ (nx_ s34) fun a35 => lt_ (nw_ s34 20 ((300 : Int32).toNatClampNeg) ((300 : Int32).toNatClampNeg)) fun s36 => lt_ (sr_ s36 1619 p0 ((some a35))) fun s37 => gt_ (¬ (240 : Int32) < 0 ∧ (240 : Int32).toNatClampNeg ≤ 100000 ∧ kd_ s37 (nx_ s37) = 0) <| lt_ (nx_ s37) fun a38 => lt_ (nw_ s37 20 ((240 : Int32).toNatClampNeg) ((240 : Int32).toNatClampNeg)) fun s39 => lt_ (sr_ s39 1620 p0 ((some a38))) fun s40 => gt_ (¬ (240 : Int32) < 0 ∧ (240 : Int32).toNatClampNeg ≤ 100000 ∧ kd_ s40 (nx_ s40) = 0) <| lt_ (nx_ s40) fun a41 => lt_ (nw_ s40 20 ((240 : Int32).toNatClampNeg) ((240 : Int32).toNatClampNeg)) fun s42 => lt_ (sr_ s42 1621 p0 ((some a41))) fun s43 => gt_ (¬ (240 : Int32) < 0 ∧ (240 : Int32).toNatClampNeg ≤ 100000 ∧ kd_ s43 (nx_ s43) = 0) <| lt_ (nx_ s43) fun a44 => lt_ (nw_ s43 20 ((240 : Int32).toNatClampNeg) ((240 : Int32).toNatClampNeg)) fun s45 => lt_ (sr_ s45 1622 p0 ((some a44))) fun s46 => gt_ (¬ (240 : Int32) < 0 ∧ (240 : Int32).toNatClampNeg ≤ 100000 ∧ kd_ s46 (nx_ s46) = 0) <| lt_ (nx_ s46) fun a47 => lt_ (nw_ s46 20 ((240 : Int32).toNatClampNeg) ((240 : Int32).toNatClampNeg)) fun s48 => lt_ (sr_ s48 1623 p0 ((some a47))) fun s49 => gt_ (¬ (240 : Int32) < 0 ∧ (240 : Int32).toNatClampNeg ≤ 100000 ∧ kd_ s49 (nx_ s49) = 0) <| lt_ (nx_ s49) fun a50 => lt_ (nw_ s49 22 ((240 : Int32).toNatClampNeg) ((240 : Int32).toNatClampNeg)) fun s51 => lt_ (sr_ s51 1624 p0 ((some a50))) fun s52 => gt_ (kd_ s52 (nx_ s52) = 0) <| lt_ (nx_ s52) fun a53 => lt_ (nw_ s52 16 0 8) fun s54 => bd_ (f_X14_init s54 a53) fun x55 s56 => lt_ (sr_ s56 1625 p0 ((some a53))) fun s57 => gt_ (¬ (400 : Int32) < 0 ∧ (400 : Int32).toNatClampNeg ≤ 100000 ∧ kd_ s57 (nx_ s57) = 0) <| lt_ (nx_ s57) fun a58 => lt_ (nw_ s57 21 ((400 : Int32).toNatClampNeg) ((400 : Int32).toNatClampNeg)) fun s59 => lt_ (sr_ s59 1626 p0 ((some a58))) fun s60 => gt_ (¬ (1200 : Int32) < 0 ∧ (1200 : Int32).toNatClampNeg ≤ 100000 ∧ kd_ s60 (nx_ s60) = 0) <| lt_ (nx_ s60) fun a61 => lt_ (nw_ s60 21 ((1200 : Int32).toNatClampNeg) ((1200 : Int32).toNatClampNeg)) fun s62 => lt_ (sr_ s62 1627 p0 ((some a61))) fun s63 => gt_ (¬ (1200 : Int32) < 0 ∧ (1200 : Int32).toNatClampNeg ≤ 100000 ∧ kd_ s63 (nx_ s63) = 0) <| lt_ (nx_ s63) fun a64 => lt_ (nw_ s63 21 ((1200 : Int32).toNatClampNeg) ((1200 : Int32).toNatClampNeg)) fun s65 => lt_ (sr_ s65 1628 p0 ((some a64))) fun s66 => lt_ (fr_ s66 1626 p0) fun r67 => lt_ (sr_ s66 1629 p0 r67) fun s68 => gt_ (¬ (150 : Int32) < 0 ∧ (150 : Int32).toNatClampNeg ≤ 100000 ∧ kd_ s68 (nx_ s68) = 0) <| lt_ (nx_ s68) fun a69 => lt_ (nw_ s68 27 ((150 : Int32).toNatClampNeg) ((150 : Int32).toNatClampNeg)) fun s70 => lt_ (sr_ s70 1648 p0 ((some a69))) fun s71 => gt_ (¬ (14 : Int32) < 0 ∧ (14 : Int32).toNatClampNeg ≤ 100000 ∧ kd_ s71 (nx_ s71) = 0) <| lt_ (nx_ s71) fun a72 => lt_ (nw_ s71 20 ((14 : Int32).toNatClampNeg) ((14 : Int32).toNatClampNeg)) fun s73 => lt_ (sr_ s73 1649 p0 ((some a72))) fun s74 => gt_ (¬ (14 : Int32) < 0 ∧ (14 : Int32).toNatClampNeg ≤ 100000 ∧ kd_ s74 (nx_ s74) = 0) <| lt_ (nx_ s74) fun a75 => lt_ (nw_ s74 20 ((14 : Int32).toNatClampNeg) ((14 : Int32).toNatClampNeg)) fun s76 => lt_ (sr_ s76 1650 p0 ((some a75))) fun s77 => gt_ (¬ (14 : Int32) < 0 ∧ (14 : Int32).toNatClampNeg ≤ 100000 ∧ kd_ s77 (nx_ s77) = 0) <| lt_ (nx_ s77) fun a78 => lt_ (nw_ s77 20 ((14 : Int32).toNatClampNeg) ((14 : Int32).toNatClampNeg)) fun s79 => lt_ (sr_ s79 1651 p0 ((some a78))) fun s80 => gt_ (¬ (14 : Int32) < 0 ∧ (14 : Int32).toNatClampNeg ≤ 100000 ∧ kd_ s80 (nx_ s80) = 0) <| lt_ (nx_ s80) fun a81 => lt_ (nw_ s80 22 ((14 : Int32).toNatClampNeg) ((14 : Int32).toNatClampNeg)) fun s82 => lt_ (sr_ s82 1652 p0 ((some a81))) fun s83 => lt_ (si_ s83 1656 p0 (-1 : Int32)) fun s84 => lt_ (si_ s84 1657 p0 (-1 : Int32)) fun s85 => gt_ (¬ (12 : Int32) < 0 ∧ (12 : Int32).toNatClampNeg ≤ 100000 ∧ kd_ s85 (nx_ s85) = 0) <| lt_ (nx_ s85) fun a86 => lt_ (nw_ s85 27 ((12 : Int32).toNatClampNeg) ((12 : Int32).toNatClampNeg)) fun s87 => lt_ (sr_ s87 1660 p0 ((some a86))) fun s88 => gt_ (¬ (120 : Int32) < 0 ∧ (120 : Int32).toNatClampNeg ≤ 100000 ∧ kd_ s88 (nx_ s88) = 0) <| lt_ (nx_ s88) fun a89 => lt_ (nw_ s88 20 ((120 : Int32).toNatClampNeg) ((120 : Int32).toNatClampNeg)) fun s90 => lt_ (sr_ s90 1661 p0 ((some a89))) fun s91 => gt_ (¬ (120 : Int32) < 0 ∧ (120 : Int32).toNatClampNeg ≤ 100000 ∧ kd_ s91 (nx_ s91) = 0) <| lt_ (nx_ s91) fun a92 => lt_ (nw_ s91 20 ((120 : Int32).toNatClampNeg) ((120 : Int32).toNatClampNeg)) fun s93 => lt_ (sr_ s93 1662 p0 ((some a92))) fun s94 => gt_ (¬ (120 : Int32) < 0 ∧ (120 : Int32).toNatClampNeg ≤ 100000 ∧ kd_ s94 (nx_ s94) = 0) <| lt_ (nx_ s94) fun a95 => lt_ (nw_ s94 20 ((120 : Int32).toNatClampNeg) ((120 : Int32).toNatClampNeg)) fun s96 => lt_ (sr_ s96 1663 p0 ((some a95))) fun s97 => gt_ (¬ (120 : Int32) < 0 ∧ (120 : Int32).toNatClampNeg ≤ 100000 ∧ kd_ s97 (nx_ s97) = 0) <| lt_ (nx_ s97) fun a98 => lt_ (nw_ s97 20 ((120 : Int32).toNatClampNeg) ((120 : Int32).toNatClampNeg)) fun s99 => lt_ (sr_ s99 1664 p0 ((some a98))) fun s100 => gt_ (¬ (120 : Int32) < 0 ∧ (120 : Int32).toNatClampNeg ≤ 100000 ∧ kd_ s100 (nx_ s100) = 0) <| lt_ (nx_ s100) fun a101 => lt_ (nw_ s100 20 ((120 : Int32).toNatClampNeg) ((120 : Int32).toNatClampNeg)) fun s102 => lt_ (sr_ s102 1665 p0 ((some a101))) fun s103 => gt_ (¬ (360 : Int32) < 0 ∧ (360 : Int32).toNatClampNeg ≤ 100000 ∧ kd_ s103 (nx_ s103) = 0) <| lt_ (nx_ s103) fun a104 => lt_ (nw_ s103 20 ((360 : Int32).toNatClampNeg) ((360 : Int32).toNatClampNeg)) fun s105 => lt_ (sr_ s105 1666 p0 ((some a104))) fun s106 => gt_ (¬ (360 : Int32) < 0 ∧ (360 : Int32).toNatClampNeg ≤ 100000 ∧ kd_ s106 (nx_ s106) = 0) <| lt_ (nx_ s106) fun a107 => lt_ (nw_ s106 20 ((360 : Int32).toNatClampNeg) ((360 : Int32).toNatClampNeg)) fun s108 => lt_ (sr_ s108 1667 p0 ((some a107))) fun s109 => gt_ (¬ (120 : Int32) < 0 ∧ (120 : Int32).toNatClampNeg ≤ 100000 ∧ kd_ s109 (nx_ s109) = 0) <| lt_ (nx_ s109) fun a110 => lt_ (nw_ s109 22 ((120 : Int32).toNatClampNeg) ((120 : Int32).toNatClampNeg)) fun s111 => lt_ (sr_ s111 1668 p0 ((some a110))) fun s112 => gt_ (¬ (40 : Int32) < 0 ∧ (40 : Int32).toNatClampNeg ≤ 100000 ∧ kd_ s112 (nx_ s112) = 0) <| lt_ (nx_ s112) fun a113 => lt_ (nw_ s112 20 ((40 : Int32).toNatClampNeg) ((40 : Int32).toNatClampNeg)) fun s114 => lt_ (sr_ s114 1672 p0 ((some a113))) fun s115 => gt_ (¬ (40 : Int32) < 0 ∧ (40 : Int32).toNatClampNeg ≤ 100000 ∧ kd_ s115 (nx_ s115) = 0) <| lt_ (nx_ s115) fun a116 => lt_ (nw_ s115 20 ((40 : Int32).toNatClampNeg) ((40 : Int32).toNatClampNeg)) fun s117 => lt_ (sr_ s117 1673 p0 ((some a116))) fun s118 => gt_ (¬ (40 : Int32) < 0 ∧ (40 : Int32).toNatClampNeg ≤ 100000 ∧ kd_ s118 (nx_ s118) = 0) <| lt_ (nx_ s118) fun a119 => lt_ (nw_ s118 20 ((40 : Int32).toNatClampNeg) ((40 : Int32).toNatClampNeg)) fun s120 => lt_ (sr_ s120 1674 p0 ((some a119))) fun s121 => gt_ (¬ (40 : Int32) < 0 ∧ (40 : Int32).toNatClampNeg ≤ 100000 ∧ kd_ s121 (nx_ s121) = 0) <| lt_ (nx_ s121) fun a122 => lt_ (nw_ s121 20 ((40 : Int32).toNatClampNeg) ((40 : Int32).toNatClampNeg)) fun s123 => lt_ (sr_ s123 1675 p0 ((some a122))) fun s124 => gt_ (¬ (40 : Int32) < 0 ∧ (40 : Int32).toNatClampNeg ≤ 100000 ∧ kd_ s124 (nx_ s124) = 0) <| lt_ (nx_ s124) fun a125 => lt_ (nw_ s124 20 ((40 : Int32).toNatClampNeg) ((40 : Int32).toNatClampNeg)) fun s126 => lt_ (sr_ s126 1676 p0 ((some a125))) fun s127 => gt_ (¬ (40 : Int32) < 0 ∧ (40 : Int32).toNatClampNeg ≤ 100000 ∧ kd_ s127 (nx_ s127) = 0) <| lt_ (nx_ s127) fun a128 => lt_ (nw_ s127 20 ((40 : Int32).toNatClampNeg) ((40 : Int32).toNatClampNeg)) fun s129 => lt_ (sr_ s129 1677 p0 ((some a128))) fun s130 => gt_ (¬ (60 : Int32) < 0 ∧ (60 : Int32).toNatClampNeg ≤ 100000 ∧ kd_ s130 (nx_ s130) = 0) <| lt_ (nx_ s130) fun a131 => lt_ (nw_ s130 20 ((60 : Int32).toNatClampNeg) ((60 : Int32).toNatClampNeg)) fun s132 => lt_ (sr_ s132 1678 p0 ((some a131))) fun s133 => gt_ (¬ (60 : Int32) < 0 ∧ (60 : Int32).toNatClampNeg ≤ 100000 ∧ kd_ s133 (nx_ s133) = 0) <| lt_ (nx_ s133) fun a134 => lt_ (nw_ s133 20 ((60 : Int32).toNatClampNeg) ((60 : Int32).toNatClampNeg)) fun s135 => lt_ (sr_ s135 1679 p0 ((some a134))) fun s136 => gt_ (¬ (60 : Int32) < 0 ∧ (60 : Int32).toNatClampNeg ≤ 100000 ∧ kd_ s136 (nx_ s136) = 0) <| lt_ (nx_ s136) fun a137 => lt_ (nw_ s136 20 ((60 : Int32).toNatClampNeg) ((60 : Int32).toNatClampNeg)) fun s138 => lt_ (sr_ s138 1680 p0 ((some a137))) fun s139 => gt_ (¬ (60 : Int32) < 0 ∧ (60 : Int32).toNatClampNeg ≤ 100000 ∧ kd_ s139 (nx_ s139) = 0) <| lt_ (nx_ s139) fun a140 => lt_ (nw_ s139 22 ((60 : Int32).toNatClampNeg) ((60 : Int32).toNatClampNeg)) fun s141 => lt_ (sr_ s141 1681 p0 ((some a140))) fun s142 => gt_ (¬ (80 : Int32) < 0 ∧ (80 : Int32).toNatClampNeg ≤ 100000 ∧ kd_ s142 (nx_ s142) = 0) <| lt_ (nx_ s142) fun a143 => lt_ (nw_ s142 28 ((80 : Int32).toNatClampNeg) ((80 : Int32).toNatClampNeg)) fun s144 => lt_ (sr_ s144 1682 p0 ((some a143))) fun s145 => gt_ (¬ (30 : Int32) < 0 ∧ (30 : Int32).toNatClampNeg ≤ 100000 ∧ kd_ s145 (nx_ s145) = 0) <| lt_ (nx_ s145) fun a146 => lt_ (nw_ s145 20 ((30 : Int32).toNatClampNeg) ((30 : Int32).toNatClampNeg)) fun s147 => lt_ (sr_ s147 1683 p0 ((some a146))) fun s148 => gt_ (¬ (12 : Int32) < 0 ∧ (12 : Int32).toNatClampNeg ≤ 100000 ∧ kd_ s148 (nx_ s148) = 0) <| lt_ (nx_ s148) fun a149 => lt_ (nw_ s148 20 ((12 : Int32).toNatClampNeg) ((12 : Int32).toNatClampNeg)) fun s150 => lt_ (sr_ s150 1684 p0 ((some a149))) fun s151 => lt_ (si_ s151 1687 p0 (-1 : Int32)) fun s152 => f_X15_init_b436 fu_ s152 p0 (0 : Int32)
set_option maxHeartbeats 4000000 in
set_option maxRecDepth 100000 in
theorem c_X15_init {l : Launch} {D : va_G} {cy : Nat → ClassId} {ka : Nat → Nat} {σ z : TH} {p0 : Nat} {r : Unit} (hf : f_X15_init σ p0 = some (r, z)) : ct_ l D cy ka yX15_init 5 112 [va_rf (some p0)] σ none z := by
  unfold f_X15_init at hf
  refine v_start (cc := cX15_init) (own := RX15) (maxL := 2) (ret := none) (nm := "<init>") (by decide +kernel) kw_1422 rfl rfl (by simp [lg_sl, va_rf_cat, cat_i, cat_l]) ?_
  refine v_eqL (L2 := [(0, va_rf (some p0))]) (by simp [lv_args, va_rf_cat, cat_i, cat_l]) ?_
  refine v_aload_n (x := (some p0)) dX15_init_0 rfl 0 rfl ?_
  refine v_objInit kw_1423 kw_40 kw_41 (by decide) (by decide) (cat_len (Nat.le_of_ble_eq_true rfl)) dX15_init_1 ?_
  refine v_aload_n (x := (some p0)) dX15_init_4 rfl 0 rfl ?_
  refine v_iconst (v := (-1)) dX15_init_5 (by decide) ?_
  obtain ⟨hk_p0, hf⟩ := gt_of hf
  refine v_puti2 cb_16 hk_p0 2 1602 rfl (by decide) rfl (lk_n kw_1459 rfl) (Or.inl rfl) rfl rfl hf dX15_init_6 (fun s1 hts1 hf => ?_)
  have hk_p0 := tk_ hts1 hk_p0
  refine v_aload_n (x := (some p0)) dX15_init_9 rfl 0 rfl ?_
  refine v_bipush (v := 6) dX15_init_10 (by decide) ?_
  refine v_newaI2 kw_135 hf dX15_init_12 (fun a2 s3 hts3 hk_a2 hf => ?_)
  have hk_p0 := tk_ hts3 hk_p0
  refine v_putr2 cb_16 hk_p0 7 1607 rfl (by decide) rfl (lk_n kw_1464 rfl) (Or.inr ⟨rfl, rfl, rfl, rfl, kw_1464⟩) (nr_ _ (Or.inr ⟨_, rfl⟩)) (fr9_ _ (Or.inr ⟨_, rfl⟩)) hf dX15_init_14 (fun s4 hts4 hf => ?_)
  have hk_p0 := tk_ hts4 hk_p0
  refine v_aload_n (x := (some p0)) dX15_init_17 rfl 0 rfl ?_
  refine v_bipush (v := 30) dX15_init_18 (by decide) ?_
  refine v_newaI2 kw_135 hf dX15_init_20 (fun a5 s6 hts6 hk_a5 hf => ?_)
  have hk_p0 := tk_ hts6 hk_p0
  refine v_putr2 cb_16 hk_p0 8 1608 rfl (by decide) rfl (lk_n kw_1465 rfl) (Or.inr ⟨rfl, rfl, rfl, rfl, kw_1465⟩) (nr_ _ (Or.inr ⟨_, rfl⟩)) (fr9_ _ (Or.inr ⟨_, rfl⟩)) hf dX15_init_22 (fun s7 hts7 hf => ?_)
  have hk_p0 := tk_ hts7 hk_p0
  refine v_aload_n (x := (some p0)) dX15_init_25 rfl 0 rfl ?_
  refine v_bipush (v := 30) dX15_init_26 (by decide) ?_
  refine v_newaI2 kw_135 hf dX15_init_28 (fun a8 s9 hts9 hk_a8 hf => ?_)
  have hk_p0 := tk_ hts9 hk_p0
  refine v_putr2 cb_16 hk_p0 9 1609 rfl (by decide) rfl (lk_n kw_1466 rfl) (Or.inr ⟨rfl, rfl, rfl, rfl, kw_1466⟩) (nr_ _ (Or.inr ⟨_, rfl⟩)) (fr9_ _ (Or.inr ⟨_, rfl⟩)) hf dX15_init_30 (fun s10 hts10 hf => ?_)
  have hk_p0 := tk_ hts10 hk_p0
  refine v_aload_n (x := (some p0)) dX15_init_33 rfl 0 rfl ?_
  refine v_bipush (v := 30) dX15_init_34 (by decide) ?_
  refine v_newaI2 kw_135 hf dX15_init_36 (fun a11 s12 hts12 hk_a11 hf => ?_)
  have hk_p0 := tk_ hts12 hk_p0
  refine v_putr2 cb_16 hk_p0 10 1610 rfl (by decide) rfl (lk_n kw_1467 rfl) (Or.inr ⟨rfl, rfl, rfl, rfl, kw_1467⟩) (nr_ _ (Or.inr ⟨_, rfl⟩)) (fr9_ _ (Or.inr ⟨_, rfl⟩)) hf dX15_init_38 (fun s13 hts13 hf => ?_)
  have hk_p0 := tk_ hts13 hk_p0
  refine v_aload_n (x := (some p0)) dX15_init_41 rfl 0 rfl ?_
  refine v_bipush (v := 30) dX15_init_42 (by decide) ?_
  refine v_newaI2 kw_135 hf dX15_init_44 (fun a14 s15 hts15 hk_a14 hf => ?_)
  have hk_p0 := tk_ hts15 hk_p0
  refine v_putr2 cb_16 hk_p0 11 1611 rfl (by decide) rfl (lk_n kw_1468 rfl) (Or.inr ⟨rfl, rfl, rfl, rfl, kw_1468⟩) (nr_ _ (Or.inr ⟨_, rfl⟩)) (fr9_ _ (Or.inr ⟨_, rfl⟩)) hf dX15_init_46 (fun s16 hts16 hf => ?_)
  have hk_p0 := tk_ hts16 hk_p0
  refine v_aload_n (x := (some p0)) dX15_init_49 rfl 0 rfl ?_
  refine v_bipush (v := 30) dX15_init_50 (by decide) ?_
  refine v_newaI2 kw_135 hf dX15_init_52 (fun a17 s18 hts18 hk_a17 hf => ?_)
  have hk_p0 := tk_ hts18 hk_p0
  refine v_putr2 cb_16 hk_p0 12 1612 rfl (by decide) rfl (lk_n kw_1469 rfl) (Or.inr ⟨rfl, rfl, rfl, rfl, kw_1469⟩) (nr_ _ (Or.inr ⟨_, rfl⟩)) (fr9_ _ (Or.inr ⟨_, rfl⟩)) hf dX15_init_54 (fun s19 hts19 hf => ?_)
  have hk_p0 := tk_ hts19 hk_p0
  refine v_aload_n (x := (some p0)) dX15_init_57 rfl 0 rfl ?_
  refine v_bipush (v := 30) dX15_init_58 (by decide) ?_
  refine v_newaI2 kw_135 hf dX15_init_60 (fun a20 s21 hts21 hk_a20 hf => ?_)
  have hk_p0 := tk_ hts21 hk_p0
  refine v_putr2 cb_16 hk_p0 13 1613 rfl (by decide) rfl (lk_n kw_1470 rfl) (Or.inr ⟨rfl, rfl, rfl, rfl, kw_1470⟩) (nr_ _ (Or.inr ⟨_, rfl⟩)) (fr9_ _ (Or.inr ⟨_, rfl⟩)) hf dX15_init_62 (fun s22 hts22 hf => ?_)
  have hk_p0 := tk_ hts22 hk_p0
  refine v_aload_n (x := (some p0)) dX15_init_65 rfl 0 rfl ?_
  refine v_bipush (v := 6) dX15_init_66 (by decide) ?_
  refine v_newaZ2 kw_235 hf dX15_init_68 (fun a23 s24 hts24 hk_a23 hf => ?_)
  have hk_p0 := tk_ hts24 hk_p0
  refine v_putr2 cb_16 hk_p0 14 1614 rfl (by decide) rfl (lk_n kw_1471 rfl) (Or.inr ⟨rfl, rfl, rfl, rfl, kw_1471⟩) (nr_ _ (Or.inr ⟨_, rfl⟩)) (fr9_ _ (Or.inr ⟨_, rfl⟩)) hf dX15_init_70 (fun s25 hts25 hf => ?_)
  have hk_p0 := tk_ hts25 hk_p0
  refine v_aload_n (x := (some p0)) dX15_init_73 rfl 0 rfl ?_
  refine v_bipush (v := 30) dX15_init_74 (by decide) ?_
  refine v_newaZ2 kw_235 hf dX15_init_76 (fun a26 s27 hts27 hk_a26 hf => ?_)
  have hk_p0 := tk_ hts27 hk_p0
  refine v_putr2 cb_16 hk_p0 15 1615 rfl (by decide) rfl (lk_n kw_1472 rfl) (Or.inr ⟨rfl, rfl, rfl, rfl, kw_1472⟩) (nr_ _ (Or.inr ⟨_, rfl⟩)) (fr9_ _ (Or.inr ⟨_, rfl⟩)) hf dX15_init_78 (fun s28 hts28 hf => ?_)
  have hk_p0 := tk_ hts28 hk_p0
  refine v_aload_n (x := (some p0)) dX15_init_81 rfl 0 rfl ?_
  refine v_bipush (v := 30) dX15_init_82 (by decide) ?_
  refine v_newaZ2 kw_235 hf dX15_init_84 (fun a29 s30 hts30 hk_a29 hf => ?_)
  have hk_p0 := tk_ hts30 hk_p0
  refine v_putr2 cb_16 hk_p0 16 1616 rfl (by decide) rfl (lk_n kw_1473 rfl) (Or.inr ⟨rfl, rfl, rfl, rfl, kw_1473⟩) (nr_ _ (Or.inr ⟨_, rfl⟩)) (fr9_ _ (Or.inr ⟨_, rfl⟩)) hf dX15_init_86 (fun s31 hts31 hf => ?_)
  have hk_p0 := tk_ hts31 hk_p0
  refine v_aload_n (x := (some p0)) dX15_init_89 rfl 0 rfl ?_
  refine v_bipush (v := 10) dX15_init_90 (by decide) ?_
  refine v_newaI2 kw_135 hf dX15_init_92 (fun a32 s33 hts33 hk_a32 hf => ?_)
  have hk_p0 := tk_ hts33 hk_p0
  refine v_putr2 cb_16 hk_p0 18 1618 rfl (by decide) rfl (lk_n kw_1475 rfl) (Or.inr ⟨rfl, rfl, rfl, rfl, kw_1475⟩) (nr_ _ (Or.inr ⟨_, rfl⟩)) (fr9_ _ (Or.inr ⟨_, rfl⟩)) hf dX15_init_94 (fun s34 hts34 hf => ?_)
  have hk_p0 := tk_ hts34 hk_p0
  refine v_aload_n (x := (some p0)) dX15_init_97 rfl 0 rfl ?_
  refine v_sipush (v := 300) dX15_init_98 (by decide) ?_
  refine v_newaI2 kw_135 hf dX15_init_101 (fun a35 s36 hts36 hk_a35 hf => ?_)
  have hk_p0 := tk_ hts36 hk_p0
  refine v_putr2 cb_16 hk_p0 19 1619 rfl (by decide) rfl (lk_n kw_1476 rfl) (Or.inr ⟨rfl, rfl, rfl, rfl, kw_1476⟩) (nr_ _ (Or.inr ⟨_, rfl⟩)) (fr9_ _ (Or.inr ⟨_, rfl⟩)) hf dX15_init_103 (fun s37 hts37 hf => ?_)
  have hk_p0 := tk_ hts37 hk_p0
  refine v_aload_n (x := (some p0)) dX15_init_106 rfl 0 rfl ?_
  refine v_sipush (v := 240) dX15_init_107 (by decide) ?_
  refine v_newaI2 kw_135 hf dX15_init_110 (fun a38 s39 hts39 hk_a38 hf => ?_)
  have hk_p0 := tk_ hts39 hk_p0
  refine v_putr2 cb_16 hk_p0 20 1620 rfl (by decide) rfl (lk_n kw_1477 rfl) (Or.inr ⟨rfl, rfl, rfl, rfl, kw_1477⟩) (nr_ _ (Or.inr ⟨_, rfl⟩)) (fr9_ _ (Or.inr ⟨_, rfl⟩)) hf dX15_init_112 (fun s40 hts40 hf => ?_)
  have hk_p0 := tk_ hts40 hk_p0
  refine v_aload_n (x := (some p0)) dX15_init_115 rfl 0 rfl ?_
  refine v_sipush (v := 240) dX15_init_116 (by decide) ?_
  refine v_newaI2 kw_135 hf dX15_init_119 (fun a41 s42 hts42 hk_a41 hf => ?_)
  have hk_p0 := tk_ hts42 hk_p0
  refine v_putr2 cb_16 hk_p0 21 1621 rfl (by decide) rfl (lk_n kw_1478 rfl) (Or.inr ⟨rfl, rfl, rfl, rfl, kw_1478⟩) (nr_ _ (Or.inr ⟨_, rfl⟩)) (fr9_ _ (Or.inr ⟨_, rfl⟩)) hf dX15_init_121 (fun s43 hts43 hf => ?_)
  have hk_p0 := tk_ hts43 hk_p0
  refine v_aload_n (x := (some p0)) dX15_init_124 rfl 0 rfl ?_
  refine v_sipush (v := 240) dX15_init_125 (by decide) ?_
  refine v_newaI2 kw_135 hf dX15_init_128 (fun a44 s45 hts45 hk_a44 hf => ?_)
  have hk_p0 := tk_ hts45 hk_p0
  refine v_putr2 cb_16 hk_p0 22 1622 rfl (by decide) rfl (lk_n kw_1479 rfl) (Or.inr ⟨rfl, rfl, rfl, rfl, kw_1479⟩) (nr_ _ (Or.inr ⟨_, rfl⟩)) (fr9_ _ (Or.inr ⟨_, rfl⟩)) hf dX15_init_130 (fun s46 hts46 hf => ?_)
  have hk_p0 := tk_ hts46 hk_p0
  refine v_aload_n (x := (some p0)) dX15_init_133 rfl 0 rfl ?_
  refine v_sipush (v := 240) dX15_init_134 (by decide) ?_
  refine v_newaI2 kw_135 hf dX15_init_137 (fun a47 s48 hts48 hk_a47 hf => ?_)
  have hk_p0 := tk_ hts48 hk_p0
  refine v_putr2 cb_16 hk_p0 23 1623 rfl (by decide) rfl (lk_n kw_1480 rfl) (Or.inr ⟨rfl, rfl, rfl, rfl, kw_1480⟩) (nr_ _ (Or.inr ⟨_, rfl⟩)) (fr9_ _ (Or.inr ⟨_, rfl⟩)) hf dX15_init_139 (fun s49 hts49 hf => ?_)
  have hk_p0 := tk_ hts49 hk_p0
  refine v_aload_n (x := (some p0)) dX15_init_142 rfl 0 rfl ?_
  refine v_sipush (v := 240) dX15_init_143 (by decide) ?_
  refine v_newaZ2 kw_235 hf dX15_init_146 (fun a50 s51 hts51 hk_a50 hf => ?_)
  have hk_p0 := tk_ hts51 hk_p0
  refine v_putr2 cb_16 hk_p0 24 1624 rfl (by decide) rfl (lk_n kw_1481 rfl) (Or.inr ⟨rfl, rfl, rfl, rfl, kw_1481⟩) (nr_ _ (Or.inr ⟨_, rfl⟩)) (fr9_ _ (Or.inr ⟨_, rfl⟩)) hf dX15_init_148 (fun s52 hts52 hf => ?_)
  have hk_p0 := tk_ hts52 hk_p0
  refine v_aload_n (x := (some p0)) dX15_init_151 rfl 0 rfl ?_
  refine v_new2 cb_15 df_15 kw_1424 kw_1425 kw_13 16 rfl hf dX15_init_152 (fun a53 s54 hts54 hk_a53 hf => ?_)
  have hk_p0 := tk_ hts54 hk_p0
  refine v_dup dX15_init_155 (va_rf_cat _) ?_
  obtain ⟨x55, s56, hcs56, hf⟩ := bd_of hf
  have hts56 := c_X14_init (l := l) (D := D) (cy := cy) (ka := ka) hcs56
  refine v_callI (As := []) (rest := [va_rf (some a53), va_rf (some p0)]) hts56 yb_X14_init kw_1433 kw_1434 rfl rfl ⟨Nat.le_of_ble_eq_true rfl, Nat.le_of_ble_eq_true rfl⟩ rfl (cat_len (Nat.le_of_ble_eq_true rfl)) dX15_init_156 ?_
  have hk_p0 := tk_ hts56.1 hk_p0
  have hk_a53 := tk_ hts56.1 hk_a53
  show v_ l D cy ka cX15_init RX15 2 none "<init>" 5 112 (qf_ D cy σ z none) σ z _ 159 [(0, va_rf (some p0))] [va_rf (some a53), va_rf (some p0)]
  refine v_putr2 cb_16 hk_p0 25 1625 rfl (by decide) rfl (lk_n kw_1482 rfl) (Or.inr ⟨rfl, rfl, rfl, rfl, kw_1482⟩) (nr_ _ (Or.inl ⟨_, rfl⟩)) (fr9_ _ (Or.inl ⟨_, rfl⟩)) hf dX15_init_159 (fun s57 hts57 hf => ?_)
  have hk_p0 := tk_ hts57 hk_p0
  refine v_aload_n (x := (some p0)) dX15_init_162 rfl 0 rfl ?_
  refine v_sipush (v := 400) dX15_init_163 (by decide) ?_
  refine v_newaB2 kw_136 hf dX15_init_166 (fun a58 s59 hts59 hk_a58 hf => ?_)
  have hk_p0 := tk_ hts59 hk_p0
  refine v_putr2 cb_16 hk_p0 26 1626 rfl (by decide) rfl (lk_n kw_1483 rfl) (Or.inr ⟨rfl, rfl, rfl, rfl, kw_1483⟩) (nr_ _ (Or.inr ⟨_, rfl⟩)) (fr9_ _ (Or.inr ⟨_, rfl⟩)) hf dX15_init_168 (fun s60 hts60 hf => ?_)
  have hk_p0 := tk_ hts60 hk_p0
  refine v_aload_n (x := (some p0)) dX15_init_171 rfl 0 rfl ?_
  refine v_sipush (v := 1200) dX15_init_172 (by decide) ?_
  refine v_newaB2 kw_136 hf dX15_init_175 (fun a61 s62 hts62 hk_a61 hf => ?_)
  have hk_p0 := tk_ hts62 hk_p0
  refine v_putr2 cb_16 hk_p0 27 1627 rfl (by decide) rfl (lk_n kw_1484 rfl) (Or.inr ⟨rfl, rfl, rfl, rfl, kw_1484⟩) (nr_ _ (Or.inr ⟨_, rfl⟩)) (fr9_ _ (Or.inr ⟨_, rfl⟩)) hf dX15_init_177 (fun s63 hts63 hf => ?_)
  have hk_p0 := tk_ hts63 hk_p0
  refine v_aload_n (x := (some p0)) dX15_init_180 rfl 0 rfl ?_
  refine v_sipush (v := 1200) dX15_init_181 (by decide) ?_
  refine v_newaB2 kw_136 hf dX15_init_184 (fun a64 s65 hts65 hk_a64 hf => ?_)
  have hk_p0 := tk_ hts65 hk_p0
  refine v_putr2 cb_16 hk_p0 28 1628 rfl (by decide) rfl (lk_n kw_1485 rfl) (Or.inr ⟨rfl, rfl, rfl, rfl, kw_1485⟩) (nr_ _ (Or.inr ⟨_, rfl⟩)) (fr9_ _ (Or.inr ⟨_, rfl⟩)) hf dX15_init_186 (fun s66 hts66 hf => ?_)
  have hk_p0 := tk_ hts66 hk_p0
  refine v_aload_n (x := (some p0)) dX15_init_189 rfl 0 rfl ?_
  refine v_aload_n (x := (some p0)) dX15_init_190 rfl 0 rfl ?_
  refine v_getr cb_16 hk_p0 26 1626 rfl (by decide) rfl (lk_n kw_1483 rfl) hf dX15_init_191 (fun r67 hf => ?_)
  refine v_putr2 cb_16 hk_p0 29 1629 rfl (by decide) rfl (lk_n kw_1486 rfl) (Or.inl rfl) (nr_ _ (Or.inr ⟨_, rfl⟩)) (fr9_ _ (Or.inr ⟨_, rfl⟩)) hf dX15_init_194 (fun s68 hts68 hf => ?_)
  have hk_p0 := tk_ hts68 hk_p0
  refine v_aload_n (x := (some p0)) dX15_init_197 rfl 0 rfl ?_
  refine v_sipush (v := 150) dX15_init_198 (by decide) ?_
  refine v_anew2 27 7 RX13 rfl (by decide) kw_1453 (by decide) hf dX15_init_201 (fun a69 s70 hts70 hk_a69 hf => ?_)
  have hk_p0 := tk_ hts70 hk_p0
  refine v_putr2 cb_16 hk_p0 48 1648 rfl (by decide) rfl (lk_n kw_1505 rfl) (Or.inr ⟨rfl, rfl, rfl, rfl, kw_1505⟩) (nr_ _ (Or.inr ⟨_, rfl⟩)) (fr9_ _ (Or.inr ⟨_, rfl⟩)) hf dX15_init_204 (fun s71 hts71 hf => ?_)
  have hk_p0 := tk_ hts71 hk_p0
  refine v_aload_n (x := (some p0)) dX15_init_207 rfl 0 rfl ?_
  refine v_bipush (v := 14) dX15_init_208 (by decide) ?_
  refine v_newaI2 kw_135 hf dX15_init_210 (fun a72 s73 hts73 hk_a72 hf => ?_)
  have hk_p0 := tk_ hts73 hk_p0
  refine v_putr2 cb_16 hk_p0 49 1649 rfl (by decide) rfl (lk_n kw_1506 rfl) (Or.inr ⟨rfl, rfl, rfl, rfl, kw_1506⟩) (nr_ _ (Or.inr ⟨_, rfl⟩)) (fr9_ _ (Or.inr ⟨_, rfl⟩)) hf dX15_init_212 (fun s74 hts74 hf => ?_)
  have hk_p0 := tk_ hts74 hk_p0
  refine v_aload_n (x := (some p0)) dX15_init_215 rfl 0 rfl ?_
  refine v_bipush (v := 14) dX15_init_216 (by decide) ?_
  refine v_newaI2 kw_135 hf dX15_init_218 (fun a75 s76 hts76 hk_a75 hf => ?_)
  have hk_p0 := tk_ hts76 hk_p0
  refine v_putr2 cb_16 hk_p0 50 1650 rfl (by decide) rfl (lk_n kw_1507 rfl) (Or.inr ⟨rfl, rfl, rfl, rfl, kw_1507⟩) (nr_ _ (Or.inr ⟨_, rfl⟩)) (fr9_ _ (Or.inr ⟨_, rfl⟩)) hf dX15_init_220 (fun s77 hts77 hf => ?_)
  have hk_p0 := tk_ hts77 hk_p0
  refine v_aload_n (x := (some p0)) dX15_init_223 rfl 0 rfl ?_
  refine v_bipush (v := 14) dX15_init_224 (by decide) ?_
  refine v_newaI2 kw_135 hf dX15_init_226 (fun a78 s79 hts79 hk_a78 hf => ?_)
  have hk_p0 := tk_ hts79 hk_p0
  refine v_putr2 cb_16 hk_p0 51 1651 rfl (by decide) rfl (lk_n kw_1508 rfl) (Or.inr ⟨rfl, rfl, rfl, rfl, kw_1508⟩) (nr_ _ (Or.inr ⟨_, rfl⟩)) (fr9_ _ (Or.inr ⟨_, rfl⟩)) hf dX15_init_228 (fun s80 hts80 hf => ?_)
  have hk_p0 := tk_ hts80 hk_p0
  refine v_aload_n (x := (some p0)) dX15_init_231 rfl 0 rfl ?_
  refine v_bipush (v := 14) dX15_init_232 (by decide) ?_
  refine v_newaZ2 kw_235 hf dX15_init_234 (fun a81 s82 hts82 hk_a81 hf => ?_)
  have hk_p0 := tk_ hts82 hk_p0
  refine v_putr2 cb_16 hk_p0 52 1652 rfl (by decide) rfl (lk_n kw_1509 rfl) (Or.inr ⟨rfl, rfl, rfl, rfl, kw_1509⟩) (nr_ _ (Or.inr ⟨_, rfl⟩)) (fr9_ _ (Or.inr ⟨_, rfl⟩)) hf dX15_init_236 (fun s83 hts83 hf => ?_)
  have hk_p0 := tk_ hts83 hk_p0
  refine v_aload_n (x := (some p0)) dX15_init_239 rfl 0 rfl ?_
  refine v_iconst (v := (-1)) dX15_init_240 (by decide) ?_
  refine v_puti2 cb_16 hk_p0 56 1656 rfl (by decide) rfl (lk_n kw_1513 rfl) (Or.inl rfl) rfl rfl hf dX15_init_241 (fun s84 hts84 hf => ?_)
  have hk_p0 := tk_ hts84 hk_p0
  refine v_aload_n (x := (some p0)) dX15_init_244 rfl 0 rfl ?_
  refine v_iconst (v := (-1)) dX15_init_245 (by decide) ?_
  refine v_puti2 cb_16 hk_p0 57 1657 rfl (by decide) rfl (lk_n kw_1514 rfl) (Or.inl rfl) rfl rfl hf dX15_init_246 (fun s85 hts85 hf => ?_)
  have hk_p0 := tk_ hts85 hk_p0
  refine v_aload_n (x := (some p0)) dX15_init_249 rfl 0 rfl ?_
  refine v_bipush (v := 12) dX15_init_250 (by decide) ?_
  refine v_anew2 27 7 RX13 rfl (by decide) kw_1453 (by decide) hf dX15_init_252 (fun a86 s87 hts87 hk_a86 hf => ?_)
  have hk_p0 := tk_ hts87 hk_p0
  refine v_putr2 cb_16 hk_p0 60 1660 rfl (by decide) rfl (lk_n kw_1517 rfl) (Or.inr ⟨rfl, rfl, rfl, rfl, kw_1517⟩) (nr_ _ (Or.inr ⟨_, rfl⟩)) (fr9_ _ (Or.inr ⟨_, rfl⟩)) hf dX15_init_255 (fun s88 hts88 hf => ?_)
  have hk_p0 := tk_ hts88 hk_p0
  refine v_aload_n (x := (some p0)) dX15_init_258 rfl 0 rfl ?_
  refine v_bipush (v := 120) dX15_init_259 (by decide) ?_
  refine v_newaI2 kw_135 hf dX15_init_261 (fun a89 s90 hts90 hk_a89 hf => ?_)
  have hk_p0 := tk_ hts90 hk_p0
  refine v_putr2 cb_16 hk_p0 61 1661 rfl (by decide) rfl (lk_n kw_1518 rfl) (Or.inr ⟨rfl, rfl, rfl, rfl, kw_1518⟩) (nr_ _ (Or.inr ⟨_, rfl⟩)) (fr9_ _ (Or.inr ⟨_, rfl⟩)) hf dX15_init_263 (fun s91 hts91 hf => ?_)
  have hk_p0 := tk_ hts91 hk_p0
  refine v_aload_n (x := (some p0)) dX15_init_266 rfl 0 rfl ?_
  refine v_bipush (v := 120) dX15_init_267 (by decide) ?_
  refine v_newaI2 kw_135 hf dX15_init_269 (fun a92 s93 hts93 hk_a92 hf => ?_)
  have hk_p0 := tk_ hts93 hk_p0
  refine v_putr2 cb_16 hk_p0 62 1662 rfl (by decide) rfl (lk_n kw_1519 rfl) (Or.inr ⟨rfl, rfl, rfl, rfl, kw_1519⟩) (nr_ _ (Or.inr ⟨_, rfl⟩)) (fr9_ _ (Or.inr ⟨_, rfl⟩)) hf dX15_init_271 (fun s94 hts94 hf => ?_)
  have hk_p0 := tk_ hts94 hk_p0
  refine v_aload_n (x := (some p0)) dX15_init_274 rfl 0 rfl ?_
  refine v_bipush (v := 120) dX15_init_275 (by decide) ?_
  refine v_newaI2 kw_135 hf dX15_init_277 (fun a95 s96 hts96 hk_a95 hf => ?_)
  have hk_p0 := tk_ hts96 hk_p0
  refine v_putr2 cb_16 hk_p0 63 1663 rfl (by decide) rfl (lk_n kw_1520 rfl) (Or.inr ⟨rfl, rfl, rfl, rfl, kw_1520⟩) (nr_ _ (Or.inr ⟨_, rfl⟩)) (fr9_ _ (Or.inr ⟨_, rfl⟩)) hf dX15_init_279 (fun s97 hts97 hf => ?_)
  have hk_p0 := tk_ hts97 hk_p0
  refine v_aload_n (x := (some p0)) dX15_init_282 rfl 0 rfl ?_
  refine v_bipush (v := 120) dX15_init_283 (by decide) ?_
  refine v_newaI2 kw_135 hf dX15_init_285 (fun a98 s99 hts99 hk_a98 hf => ?_)
  have hk_p0 := tk_ hts99 hk_p0
  refine v_putr2 cb_16 hk_p0 64 1664 rfl (by decide) rfl (lk_n kw_1521 rfl) (Or.inr ⟨rfl, rfl, rfl, rfl, kw_1521⟩) (nr_ _ (Or.inr ⟨_, rfl⟩)) (fr9_ _ (Or.inr ⟨_, rfl⟩)) hf dX15_init_287 (fun s100 hts100 hf => ?_)
  have hk_p0 := tk_ hts100 hk_p0
  refine v_aload_n (x := (some p0)) dX15_init_290 rfl 0 rfl ?_
  refine v_bipush (v := 120) dX15_init_291 (by decide) ?_
  refine v_newaI2 kw_135 hf dX15_init_293 (fun a101 s102 hts102 hk_a101 hf => ?_)
  have hk_p0 := tk_ hts102 hk_p0
  refine v_putr2 cb_16 hk_p0 65 1665 rfl (by decide) rfl (lk_n kw_1522 rfl) (Or.inr ⟨rfl, rfl, rfl, rfl, kw_1522⟩) (nr_ _ (Or.inr ⟨_, rfl⟩)) (fr9_ _ (Or.inr ⟨_, rfl⟩)) hf dX15_init_295 (fun s103 hts103 hf => ?_)
  have hk_p0 := tk_ hts103 hk_p0
  refine v_aload_n (x := (some p0)) dX15_init_298 rfl 0 rfl ?_
  refine v_sipush (v := 360) dX15_init_299 (by decide) ?_
  refine v_newaI2 kw_135 hf dX15_init_302 (fun a104 s105 hts105 hk_a104 hf => ?_)
  have hk_p0 := tk_ hts105 hk_p0
  refine v_putr2 cb_16 hk_p0 66 1666 rfl (by decide) rfl (lk_n kw_1523 rfl) (Or.inr ⟨rfl, rfl, rfl, rfl, kw_1523⟩) (nr_ _ (Or.inr ⟨_, rfl⟩)) (fr9_ _ (Or.inr ⟨_, rfl⟩)) hf dX15_init_304 (fun s106 hts106 hf => ?_)
  have hk_p0 := tk_ hts106 hk_p0
  refine v_aload_n (x := (some p0)) dX15_init_307 rfl 0 rfl ?_
  refine v_sipush (v := 360) dX15_init_308 (by decide) ?_
  refine v_newaI2 kw_135 hf dX15_init_311 (fun a107 s108 hts108 hk_a107 hf => ?_)
  have hk_p0 := tk_ hts108 hk_p0
  refine v_putr2 cb_16 hk_p0 67 1667 rfl (by decide) rfl (lk_n kw_1524 rfl) (Or.inr ⟨rfl, rfl, rfl, rfl, kw_1524⟩) (nr_ _ (Or.inr ⟨_, rfl⟩)) (fr9_ _ (Or.inr ⟨_, rfl⟩)) hf dX15_init_313 (fun s109 hts109 hf => ?_)
  have hk_p0 := tk_ hts109 hk_p0
  refine v_aload_n (x := (some p0)) dX15_init_316 rfl 0 rfl ?_
  refine v_bipush (v := 120) dX15_init_317 (by decide) ?_
  refine v_newaZ2 kw_235 hf dX15_init_319 (fun a110 s111 hts111 hk_a110 hf => ?_)
  have hk_p0 := tk_ hts111 hk_p0
  refine v_putr2 cb_16 hk_p0 68 1668 rfl (by decide) rfl (lk_n kw_1525 rfl) (Or.inr ⟨rfl, rfl, rfl, rfl, kw_1525⟩) (nr_ _ (Or.inr ⟨_, rfl⟩)) (fr9_ _ (Or.inr ⟨_, rfl⟩)) hf dX15_init_321 (fun s112 hts112 hf => ?_)
  have hk_p0 := tk_ hts112 hk_p0
  refine v_aload_n (x := (some p0)) dX15_init_324 rfl 0 rfl ?_
  refine v_bipush (v := 40) dX15_init_325 (by decide) ?_
  refine v_newaI2 kw_135 hf dX15_init_327 (fun a113 s114 hts114 hk_a113 hf => ?_)
  have hk_p0 := tk_ hts114 hk_p0
  refine v_putr2 cb_16 hk_p0 72 1672 rfl (by decide) rfl (lk_n kw_1529 rfl) (Or.inr ⟨rfl, rfl, rfl, rfl, kw_1529⟩) (nr_ _ (Or.inr ⟨_, rfl⟩)) (fr9_ _ (Or.inr ⟨_, rfl⟩)) hf dX15_init_329 (fun s115 hts115 hf => ?_)
  have hk_p0 := tk_ hts115 hk_p0
  refine v_aload_n (x := (some p0)) dX15_init_332 rfl 0 rfl ?_
  refine v_bipush (v := 40) dX15_init_333 (by decide) ?_
  refine v_newaI2 kw_135 hf dX15_init_335 (fun a116 s117 hts117 hk_a116 hf => ?_)
  have hk_p0 := tk_ hts117 hk_p0
  refine v_putr2 cb_16 hk_p0 73 1673 rfl (by decide) rfl (lk_n kw_1530 rfl) (Or.inr ⟨rfl, rfl, rfl, rfl, kw_1530⟩) (nr_ _ (Or.inr ⟨_, rfl⟩)) (fr9_ _ (Or.inr ⟨_, rfl⟩)) hf dX15_init_337 (fun s118 hts118 hf => ?_)
  have hk_p0 := tk_ hts118 hk_p0
  refine v_aload_n (x := (some p0)) dX15_init_340 rfl 0 rfl ?_
  refine v_bipush (v := 40) dX15_init_341 (by decide) ?_
  refine v_newaI2 kw_135 hf dX15_init_343 (fun a119 s120 hts120 hk_a119 hf => ?_)
  have hk_p0 := tk_ hts120 hk_p0
  refine v_putr2 cb_16 hk_p0 74 1674 rfl (by decide) rfl (lk_n kw_1531 rfl) (Or.inr ⟨rfl, rfl, rfl, rfl, kw_1531⟩) (nr_ _ (Or.inr ⟨_, rfl⟩)) (fr9_ _ (Or.inr ⟨_, rfl⟩)) hf dX15_init_345 (fun s121 hts121 hf => ?_)
  have hk_p0 := tk_ hts121 hk_p0
  refine v_aload_n (x := (some p0)) dX15_init_348 rfl 0 rfl ?_
  refine v_bipush (v := 40) dX15_init_349 (by decide) ?_
  refine v_newaI2 kw_135 hf dX15_init_351 (fun a122 s123 hts123 hk_a122 hf => ?_)
  have hk_p0 := tk_ hts123 hk_p0
  refine v_putr2 cb_16 hk_p0 75 1675 rfl (by decide) rfl (lk_n kw_1532 rfl) (Or.inr ⟨rfl, rfl, rfl, rfl, kw_1532⟩) (nr_ _ (Or.inr ⟨_, rfl⟩)) (fr9_ _ (Or.inr ⟨_, rfl⟩)) hf dX15_init_353 (fun s124 hts124 hf => ?_)
  have hk_p0 := tk_ hts124 hk_p0
  refine v_aload_n (x := (some p0)) dX15_init_356 rfl 0 rfl ?_
  refine v_bipush (v := 40) dX15_init_357 (by decide) ?_
  refine v_newaI2 kw_135 hf dX15_init_359 (fun a125 s126 hts126 hk_a125 hf => ?_)
  have hk_p0 := tk_ hts126 hk_p0
  refine v_putr2 cb_16 hk_p0 76 1676 rfl (by decide) rfl (lk_n kw_1533 rfl) (Or.inr ⟨rfl, rfl, rfl, rfl, kw_1533⟩) (nr_ _ (Or.inr ⟨_, rfl⟩)) (fr9_ _ (Or.inr ⟨_, rfl⟩)) hf dX15_init_361 (fun s127 hts127 hf => ?_)
  have hk_p0 := tk_ hts127 hk_p0
  refine v_aload_n (x := (some p0)) dX15_init_364 rfl 0 rfl ?_
  refine v_bipush (v := 40) dX15_init_365 (by decide) ?_
  refine v_newaI2 kw_135 hf dX15_init_367 (fun a128 s129 hts129 hk_a128 hf => ?_)
  have hk_p0 := tk_ hts129 hk_p0
  refine v_putr2 cb_16 hk_p0 77 1677 rfl (by decide) rfl (lk_n kw_1534 rfl) (Or.inr ⟨rfl, rfl, rfl, rfl, kw_1534⟩) (nr_ _ (Or.inr ⟨_, rfl⟩)) (fr9_ _ (Or.inr ⟨_, rfl⟩)) hf dX15_init_369 (fun s130 hts130 hf => ?_)
  have hk_p0 := tk_ hts130 hk_p0
  refine v_aload_n (x := (some p0)) dX15_init_372 rfl 0 rfl ?_
  refine v_bipush (v := 60) dX15_init_373 (by decide) ?_
  refine v_newaI2 kw_135 hf dX15_init_375 (fun a131 s132 hts132 hk_a131 hf => ?_)
  have hk_p0 := tk_ hts132 hk_p0
  refine v_putr2 cb_16 hk_p0 78 1678 rfl (by decide) rfl (lk_n kw_1535 rfl) (Or.inr ⟨rfl, rfl, rfl, rfl, kw_1535⟩) (nr_ _ (Or.inr ⟨_, rfl⟩)) (fr9_ _ (Or.inr ⟨_, rfl⟩)) hf dX15_init_377 (fun s133 hts133 hf => ?_)
  have hk_p0 := tk_ hts133 hk_p0
  refine v_aload_n (x := (some p0)) dX15_init_380 rfl 0 rfl ?_
  refine v_bipush (v := 60) dX15_init_381 (by decide) ?_
  refine v_newaI2 kw_135 hf dX15_init_383 (fun a134 s135 hts135 hk_a134 hf => ?_)
  have hk_p0 := tk_ hts135 hk_p0
  refine v_putr2 cb_16 hk_p0 79 1679 rfl (by decide) rfl (lk_n kw_1536 rfl) (Or.inr ⟨rfl, rfl, rfl, rfl, kw_1536⟩) (nr_ _ (Or.inr ⟨_, rfl⟩)) (fr9_ _ (Or.inr ⟨_, rfl⟩)) hf dX15_init_385 (fun s136 hts136 hf => ?_)
  have hk_p0 := tk_ hts136 hk_p0
  refine v_aload_n (x := (some p0)) dX15_init_388 rfl 0 rfl ?_
  refine v_bipush (v := 60) dX15_init_389 (by decide) ?_
  refine v_newaI2 kw_135 hf dX15_init_391 (fun a137 s138 hts138 hk_a137 hf => ?_)
  have hk_p0 := tk_ hts138 hk_p0
  refine v_putr2 cb_16 hk_p0 80 1680 rfl (by decide) rfl (lk_n kw_1537 rfl) (Or.inr ⟨rfl, rfl, rfl, rfl, kw_1537⟩) (nr_ _ (Or.inr ⟨_, rfl⟩)) (fr9_ _ (Or.inr ⟨_, rfl⟩)) hf dX15_init_393 (fun s139 hts139 hf => ?_)
  have hk_p0 := tk_ hts139 hk_p0
  refine v_aload_n (x := (some p0)) dX15_init_396 rfl 0 rfl ?_
  refine v_bipush (v := 60) dX15_init_397 (by decide) ?_
  refine v_newaZ2 kw_235 hf dX15_init_399 (fun a140 s141 hts141 hk_a140 hf => ?_)
  have hk_p0 := tk_ hts141 hk_p0
  refine v_putr2 cb_16 hk_p0 81 1681 rfl (by decide) rfl (lk_n kw_1538 rfl) (Or.inr ⟨rfl, rfl, rfl, rfl, kw_1538⟩) (nr_ _ (Or.inr ⟨_, rfl⟩)) (fr9_ _ (Or.inr ⟨_, rfl⟩)) hf dX15_init_401 (fun s142 hts142 hf => ?_)
  have hk_p0 := tk_ hts142 hk_p0
  refine v_aload_n (x := (some p0)) dX15_init_404 rfl 0 rfl ?_
  refine v_bipush (v := 80) dX15_init_405 (by decide) ?_
  refine v_anew2 28 8 RX12 rfl (by decide) kw_1455 (by decide) hf dX15_init_407 (fun a143 s144 hts144 hk_a143 hf => ?_)
  have hk_p0 := tk_ hts144 hk_p0
  refine v_putr2 cb_16 hk_p0 82 1682 rfl (by decide) rfl (lk_n kw_1539 rfl) (Or.inr ⟨rfl, rfl, rfl, rfl, kw_1539⟩) (nr_ _ (Or.inr ⟨_, rfl⟩)) (fr9_ _ (Or.inr ⟨_, rfl⟩)) hf dX15_init_410 (fun s145 hts145 hf => ?_)
  have hk_p0 := tk_ hts145 hk_p0
  refine v_aload_n (x := (some p0)) dX15_init_413 rfl 0 rfl ?_
  refine v_bipush (v := 30) dX15_init_414 (by decide) ?_
  refine v_newaI2 kw_135 hf dX15_init_416 (fun a146 s147 hts147 hk_a146 hf => ?_)
  have hk_p0 := tk_ hts147 hk_p0
  refine v_putr2 cb_16 hk_p0 83 1683 rfl (by decide) rfl (lk_n kw_1540 rfl) (Or.inr ⟨rfl, rfl, rfl, rfl, kw_1540⟩) (nr_ _ (Or.inr ⟨_, rfl⟩)) (fr9_ _ (Or.inr ⟨_, rfl⟩)) hf dX15_init_418 (fun s148 hts148 hf => ?_)
  have hk_p0 := tk_ hts148 hk_p0
  refine v_aload_n (x := (some p0)) dX15_init_421 rfl 0 rfl ?_
  refine v_bipush (v := 12) dX15_init_422 (by decide) ?_
  refine v_newaI2 kw_135 hf dX15_init_424 (fun a149 s150 hts150 hk_a149 hf => ?_)
  have hk_p0 := tk_ hts150 hk_p0
  refine v_putr2 cb_16 hk_p0 84 1684 rfl (by decide) rfl (lk_n kw_1541 rfl) (Or.inr ⟨rfl, rfl, rfl, rfl, kw_1541⟩) (nr_ _ (Or.inr ⟨_, rfl⟩)) (fr9_ _ (Or.inr ⟨_, rfl⟩)) hf dX15_init_426 (fun s151 hts151 hf => ?_)
  have hk_p0 := tk_ hts151 hk_p0
  refine v_aload_n (x := (some p0)) dX15_init_429 rfl 0 rfl ?_
  refine v_iconst (v := (-1)) dX15_init_430 (by decide) ?_
  refine v_puti2 cb_16 hk_p0 87 1687 rfl (by decide) rfl (lk_n kw_1544 rfl) (Or.inl rfl) rfl rfl hf dX15_init_431 (fun s152 hts152 hf => ?_)
  have hk_p0 := tk_ hts152 hk_p0
  refine v_iconst (v := 0) dX15_init_434 (by decide) ?_
  refine v_istore_n [(1, .int (0 : Int32)), (0, va_rf (some p0))] dX15_init_435 rfl (by decide) rfl ?_
  refine v_sub [1, 0] (L2 := [(0, va_rf (some p0)), (1, .int (0 : Int32))]) rfl ?_
  exact t_X15_init_b436  _ _ _ _ hf
