/-! Functions over the typed heap and contracts, by wip/gen/gen.py: X15_writer X15_wrong -/
theorem dX15_writer_0 : decode cX15_writer 0 = .ok (.aload_n 0, 1) := by decide +kernel
theorem dX15_writer_1 : decode cX15_writer 1 = .ok (.iconst 0, 1) := by decide +kernel
theorem dX15_writer_2 : decode cX15_writer 2 = .ok (.putfield 1, 3) := by decide +kernel
theorem dX15_writer_5 : decode cX15_writer 5 = .ok (.iload_n 1, 1) := by decide +kernel
theorem dX15_writer_6 : decode cX15_writer 6 = .ok (.iconst 0, 1) := by decide +kernel
theorem dX15_writer_7 : decode cX15_writer 7 = .ok (.bipush 60, 2) := by decide +kernel
theorem dX15_writer_9 : decode cX15_writer 9 = .ok (.invokestatic 197, 3) := by decide +kernel
theorem dX15_writer_12 : decode cX15_writer 12 = .ok (.ifCond .ne 9, 3) := by decide +kernel
theorem dX15_writer_15 : decode cX15_writer 15 = .ok (.aload_n 0, 1) := by decide +kernel
theorem dX15_writer_16 : decode cX15_writer 16 = .ok (.iconst 2, 1) := by decide +kernel
theorem dX15_writer_17 : decode cX15_writer 17 = .ok (.invokevirtual 201, 3) := by decide +kernel
theorem dX15_writer_20 : decode cX15_writer 20 = .ok (.ireturn, 1) := by decide +kernel
theorem dX15_writer_21 : decode cX15_writer 21 = .ok (.aload_n 0, 1) := by decide +kernel
theorem dX15_writer_22 : decode cX15_writer 22 = .ok (.getfield 194, 3) := by decide +kernel
theorem dX15_writer_25 : decode cX15_writer 25 = .ok (.bipush 6, 2) := by decide +kernel
theorem dX15_writer_27 : decode cX15_writer 27 = .ok (.if_icmp .ne 9, 3) := by decide +kernel
theorem dX15_writer_30 : decode cX15_writer 30 = .ok (.aload_n 0, 1) := by decide +kernel
theorem dX15_writer_31 : decode cX15_writer 31 = .ok (.iconst 3, 1) := by decide +kernel
theorem dX15_writer_32 : decode cX15_writer 32 = .ok (.invokevirtual 201, 3) := by decide +kernel
theorem dX15_writer_35 : decode cX15_writer 35 = .ok (.ireturn, 1) := by decide +kernel
theorem dX15_writer_36 : decode cX15_writer 36 = .ok (.aload_n 0, 1) := by decide +kernel
theorem dX15_writer_37 : decode cX15_writer 37 = .ok (.getfield 19, 3) := by decide +kernel
theorem dX15_writer_40 : decode cX15_writer 40 = .ok (.aload_n 0, 1) := by decide +kernel
theorem dX15_writer_41 : decode cX15_writer 41 = .ok (.getfield 194, 3) := by decide +kernel
theorem dX15_writer_44 : decode cX15_writer 44 = .ok (.iload_n 1, 1) := by decide +kernel
theorem dX15_writer_45 : decode cX15_writer 45 = .ok (.iastore, 1) := by decide +kernel
theorem dX15_writer_46 : decode cX15_writer 46 = .ok (.aload_n 0, 1) := by decide +kernel
theorem dX15_writer_47 : decode cX15_writer 47 = .ok (.dup, 1) := by decide +kernel
theorem dX15_writer_48 : decode cX15_writer 48 = .ok (.getfield 194, 3) := by decide +kernel
theorem dX15_writer_51 : decode cX15_writer 51 = .ok (.iconst 1, 1) := by decide +kernel
theorem dX15_writer_52 : decode cX15_writer 52 = .ok (.iadd, 1) := by decide +kernel
theorem dX15_writer_53 : decode cX15_writer 53 = .ok (.putfield 194, 3) := by decide +kernel
theorem dX15_writer_56 : decode cX15_writer 56 = .ok (.aload_n 0, 1) := by decide +kernel
theorem dX15_writer_57 : decode cX15_writer 57 = .ok (.aload_n 0, 1) := by decide +kernel
theorem dX15_writer_58 : decode cX15_writer 58 = .ok (.getfield 194, 3) := by decide +kernel
theorem dX15_writer_61 : decode cX15_writer 61 = .ok (.iconst 1, 1) := by decide +kernel
theorem dX15_writer_62 : decode cX15_writer 62 = .ok (.isub, 1) := by decide +kernel
theorem dX15_writer_63 : decode cX15_writer 63 = .ok (.invokevirtual 205, 3) := by decide +kernel
theorem dX15_writer_66 : decode cX15_writer 66 = .ok (.ireturn, 1) := by decide +kernel
/-- LivesAheadModel.writer(I)I -/
def f_X15_writer (σ : TH) (p0 : Nat) (p1 : Int32) : Option (Int32 × TH) :=
  gt_ (kd_ σ p0 = 17) <| lt_ (si_ σ 1600 p0 (0 : Int32)) fun s1 => bd_ (f_X15_in s1 p1 (0 : Int32) (60 : Int32)) fun x2 s3 => if x2 = 0 then (bd_ (f_X15_refused s3 p0 (2 : Int32)) fun x4 s5 => some (x4, s5)) else (lt_ (fi_ s3 1604 p0) fun x6 => if x6 = (6 : Int32) then (bd_ (f_X15_refused s3 p0 (3 : Int32)) fun x7 s8 => some (x7, s8)) else (lt_ (fr_ s3 1607 p0) fun r9 => lt_ (fi_ s3 1604 p0) fun x10 => nn_ r9 fun a11 => gt_ (kd_ s3 a11 = 20) <| gt_ (¬ (x10 < 0 ∨ ln_ s3 a11 ≤ x10.toNatClampNeg)) <| lt_ (sa_ s3 a11 x10.toNatClampNeg p1) fun s12 => lt_ (fi_ s12 1604 p0) fun x13 => lt_ (si_ s12 1604 p0 (x13 + (1 : Int32))) fun s14 => lt_ (fi_ s14 1604 p0) fun x15 => bd_ (f_X15_done s14 p0 (x15 - (1 : Int32))) fun x16 s17 => some (x16, s17)))
set_option maxHeartbeats 4000000 in
set_option maxRecDepth 100000 in
theorem c_X15_writer {l : Launch} {D : va_G} {cy : Nat → ClassId} {ka : Nat → Nat} {σ z : TH} {p0 : Nat} {p1 : Int32} {r : Int32} (hf : f_X15_writer σ p0 p1 = some (r, z)) : ct_ l D cy ka yX15_writer 1 22 [va_rf (some p0), .int p1] σ (some (.int r)) z := by
  unfold f_X15_writer at hf
  refine v_start (cc := cX15_writer) (own := RX15) (maxL := 2) (ret := (some FieldType.int)) (nm := "writer") (by decide +kernel) kw_1725 rfl rfl (by simp [lg_sl, va_rf_cat, cat_i, cat_l]) ?_
  refine v_eqL (L2 := [(0, va_rf (some p0)), (1, .int p1)]) (by simp [lv_args, va_rf_cat, cat_i, cat_l]) ?_
  refine v_aload_n (x := (some p0)) dX15_writer_0 rfl 0 rfl ?_
  refine v_iconst (v := 0) dX15_writer_1 (by decide) ?_
  obtain ⟨hk_p0, hf⟩ := gt_of hf
  refine v_puti2 cb_16 hk_p0 0 1600 rfl (by decide) rfl (lk_n kw_1457 rfl) (Or.inl rfl) rfl rfl hf dX15_writer_2 (fun s1 hts1 hf => ?_)
  have hk_p0 := tk_ hts1 hk_p0
  refine v_iload_n (x := p1) dX15_writer_5 rfl 1 rfl ?_
  refine v_iconst (v := 0) dX15_writer_6 (by decide) ?_
  refine v_bipush (v := 60) dX15_writer_7 (by decide) ?_
  obtain ⟨x2, s3, hcs3, hf⟩ := bd_of hf
  have hts3 := c_X15_in (l := l) (D := D) (cy := cy) (ka := ka) hcs3
  refine v_callS (As := [.int p1, .int (0 : Int32), .int (60 : Int32)]) (rest := []) hts3 yb_X15_in kw_1726 kw_1727 rfl ⟨Nat.le_of_ble_eq_true rfl, Nat.le_of_ble_eq_true rfl⟩ rfl (cat_len (Nat.le_of_ble_eq_true rfl)) dX15_writer_9 ?_
  have hk_p0 := tk_ hts3.1 hk_p0
  show v_ l D cy ka cX15_writer RX15 2 (some FieldType.int) "writer" 1 22 (qf_ D cy σ z (some (.int r))) σ z _ 12 [(0, va_rf (some p0)), (1, .int p1)] [.int x2]
  refine v_if_ne (tgt := 21) hf dX15_writer_12 (by decide) (fun hq hf => ?_) (fun hq hf => ?_)
  · refine v_aload_n (x := (some p0)) dX15_writer_15 rfl 0 rfl ?_
    refine v_iconst (v := 2) dX15_writer_16 (by decide) ?_
    obtain ⟨x4, s5, hcs5, hf⟩ := bd_of hf
    have hts5 := c_X15_refused (l := l) (D := D) (cy := cy) (ka := ka) hcs5
    refine v_callV cb_16 hk_p0 (As := [.int (2 : Int32)]) (rest := []) hts5 yb_X15_refused kw_1729 kw_1731 kp_77 rfl ⟨Nat.le_of_ble_eq_true rfl, Nat.le_of_ble_eq_true rfl⟩ rfl (cat_len (Nat.le_of_ble_eq_true rfl)) dX15_writer_17 ?_
    have hk_p0 := tk_ hts5.1 hk_p0
    show v_ l D cy ka cX15_writer RX15 2 (some FieldType.int) "writer" 1 22 (qf_ D cy σ z (some (.int r))) σ z _ 20 [(0, va_rf (some p0)), (1, .int p1)] [.int x4]
    exact v_iret hf dX15_writer_20
  · refine v_aload_n (x := (some p0)) dX15_writer_21 rfl 0 rfl ?_
    refine v_geti cb_16 hk_p0 4 1604 rfl (by decide) rfl (lk_n kw_1461 rfl) hf dX15_writer_22 (fun x6 hf => ?_)
    refine v_bipush (v := 6) dX15_writer_25 (by decide) ?_
    refine v_icmp_ne (tgt := 36) hf dX15_writer_27 (by decide) (fun hq hf => ?_) (fun hq hf => ?_)
    · refine v_aload_n (x := (some p0)) dX15_writer_30 rfl 0 rfl ?_
      refine v_iconst (v := 3) dX15_writer_31 (by decide) ?_
      obtain ⟨x7, s8, hcs8, hf⟩ := bd_of hf
      have hts8 := c_X15_refused (l := l) (D := D) (cy := cy) (ka := ka) hcs8
      refine v_callV cb_16 hk_p0 (As := [.int (3 : Int32)]) (rest := []) hts8 yb_X15_refused kw_1729 kw_1731 kp_77 rfl ⟨Nat.le_of_ble_eq_true rfl, Nat.le_of_ble_eq_true rfl⟩ rfl (cat_len (Nat.le_of_ble_eq_true rfl)) dX15_writer_32 ?_
      have hk_p0 := tk_ hts8.1 hk_p0
      show v_ l D cy ka cX15_writer RX15 2 (some FieldType.int) "writer" 1 22 (qf_ D cy σ z (some (.int r))) σ z _ 35 [(0, va_rf (some p0)), (1, .int p1)] [.int x7]
      exact v_iret hf dX15_writer_35
    · refine v_aload_n (x := (some p0)) dX15_writer_36 rfl 0 rfl ?_
      refine v_getr cb_16 hk_p0 7 1607 rfl (by decide) rfl (lk_n kw_1464 rfl) hf dX15_writer_37 (fun r9 hf => ?_)
      refine v_aload_n (x := (some p0)) dX15_writer_40 rfl 0 rfl ?_
      refine v_geti cb_16 hk_p0 4 1604 rfl (by decide) rfl (lk_n kw_1461 rfl) hf dX15_writer_41 (fun x10 hf => ?_)
      refine v_iload_n (x := p1) dX15_writer_44 rfl 1 rfl ?_
      obtain ⟨a11, rfl, hf⟩ := nn_of hf
      obtain ⟨hk_a11, hf⟩ := gt_of hf
      refine v_iast2 hk_a11 hf dX15_writer_45 (fun s12 hts12 hf => ?_)
      have hk_p0 := tk_ hts12 hk_p0
      refine v_aload_n (x := (some p0)) dX15_writer_46 rfl 0 rfl ?_
      refine v_dup dX15_writer_47 (va_rf_cat _) ?_
      refine v_geti cb_16 hk_p0 4 1604 rfl (by decide) rfl (lk_n kw_1461 rfl) hf dX15_writer_48 (fun x13 hf => ?_)
      refine v_iconst (v := 1) dX15_writer_51 (by decide) ?_
      refine v_iadd dX15_writer_52 ?_
      refine v_puti2 cb_16 hk_p0 4 1604 rfl (by decide) rfl (lk_n kw_1461 rfl) (Or.inl rfl) rfl rfl hf dX15_writer_53 (fun s14 hts14 hf => ?_)
      have hk_p0 := tk_ hts14 hk_p0
      refine v_aload_n (x := (some p0)) dX15_writer_56 rfl 0 rfl ?_
      refine v_aload_n (x := (some p0)) dX15_writer_57 rfl 0 rfl ?_
      refine v_geti cb_16 hk_p0 4 1604 rfl (by decide) rfl (lk_n kw_1461 rfl) hf dX15_writer_58 (fun x15 hf => ?_)
      refine v_iconst (v := 1) dX15_writer_61 (by decide) ?_
      refine v_isub dX15_writer_62 ?_
      obtain ⟨x16, s17, hcs17, hf⟩ := bd_of hf
      have hts17 := c_X15_done (l := l) (D := D) (cy := cy) (ka := ka) hcs17
      refine v_callV cb_16 hk_p0 (As := [.int (x15 - (1 : Int32))]) (rest := []) hts17 yb_X15_done kw_1733 kw_1735 kp_78 rfl ⟨Nat.le_of_ble_eq_true rfl, Nat.le_of_ble_eq_true rfl⟩ rfl (cat_len (Nat.le_of_ble_eq_true rfl)) dX15_writer_63 ?_
      have hk_p0 := tk_ hts17.1 hk_p0
      show v_ l D cy ka cX15_writer RX15 2 (some FieldType.int) "writer" 1 22 (qf_ D cy σ z (some (.int r))) σ z _ 66 [(0, va_rf (some p0)), (1, .int p1)] [.int x16]
      exact v_iret hf dX15_writer_66
theorem dX15_wrong_0 : decode cX15_wrong 0 = .ok (.aload_n 0, 1) := by decide +kernel
theorem dX15_wrong_1 : decode cX15_wrong 1 = .ok (.iconst 0, 1) := by decide +kernel
theorem dX15_wrong_2 : decode cX15_wrong 2 = .ok (.putfield 1, 3) := by decide +kernel
theorem dX15_wrong_5 : decode cX15_wrong 5 = .ok (.aload_n 0, 1) := by decide +kernel
theorem dX15_wrong_6 : decode cX15_wrong 6 = .ok (.iload_n 1, 1) := by decide +kernel
theorem dX15_wrong_7 : decode cX15_wrong 7 = .ok (.invokevirtual 587, 3) := by decide +kernel
theorem dX15_wrong_10 : decode cX15_wrong 10 = .ok (.ifCond .eq 16, 3) := by decide +kernel
theorem dX15_wrong_13 : decode cX15_wrong 13 = .ok (.aload_n 0, 1) := by decide +kernel
theorem dX15_wrong_14 : decode cX15_wrong 14 = .ok (.aload_n 0, 1) := by decide +kernel
theorem dX15_wrong_15 : decode cX15_wrong 15 = .ok (.getfield 175, 3) := by decide +kernel
theorem dX15_wrong_18 : decode cX15_wrong 18 = .ok (.iload_n 1, 1) := by decide +kernel
theorem dX15_wrong_19 : decode cX15_wrong 19 = .ok (.aaload, 1) := by decide +kernel
theorem dX15_wrong_20 : decode cX15_wrong 20 = .ok (.invokevirtual 599, 3) := by decide +kernel
theorem dX15_wrong_23 : decode cX15_wrong 23 = .ok (.goto 4, 3) := by decide +kernel
theorem dX15_wrong_26 : decode cX15_wrong 26 = .ok (.iconst (-1), 1) := by decide +kernel
theorem dX15_wrong_27 : decode cX15_wrong 27 = .ok (.ireturn, 1) := by decide +kernel
def f_X15_wrong_b27 (σ : TH) (t0 : Int32) : Option (Int32 × TH) :=
  some (t0, σ)
set_option maxHeartbeats 4000000 in
set_option maxRecDepth 100000 in
theorem t_X15_wrong_b27 {l : Launch} {D : va_G} {cy : Nat → ClassId} {ka : Nat → Nat} {σ0 z : TH} {r : Int32}  {σ : TH} {t0 : Int32} (hf : f_X15_wrong_b27 σ t0 = some (r, z)) : v_ l D cy ka cX15_wrong RX15 2 (some FieldType.int) "wrong" 2 49 (qf_ D cy σ0 z (some (.int r))) σ0 z σ 27 [] [.int t0] := by
  unfold f_X15_wrong_b27 at hf
  exact v_iret hf dX15_wrong_27
/-- LivesAheadModel.wrong(I)I -/
def f_X15_wrong (σ : TH) (p0 : Nat) (p1 : Int32) : Option (Int32 × TH) :=
  gt_ (kd_ σ p0 = 17) <| lt_ (si_ σ 1600 p0 (0 : Int32)) fun s1 => bd_ (f_X15_isEdition s1 p0 p1) fun x2 s3 => if x2 = 0 then (f_X15_wrong_b27 s3 (-1 : Int32)) else (lt_ (fr_ s3 1682 p0) fun r4 => nn_ r4 fun a5 => gt_ (kd_ s3 a5 = 28) <| gt_ (¬ (p1 < 0 ∨ ln_ s3 a5 ≤ p1.toNatClampNeg)) <| lt_ (ar_ s3 a5 p1.toNatClampNeg) fun r6 => bd_ (f_X15_wrongOf s3 p0 r6) fun x7 s8 => f_X15_wrong_b27 s8 x7)
set_option maxHeartbeats 4000000 in
set_option maxRecDepth 100000 in
theorem c_X15_wrong {l : Launch} {D : va_G} {cy : Nat → ClassId} {ka : Nat → Nat} {σ z : TH} {p0 : Nat} {p1 : Int32} {r : Int32} (hf : f_X15_wrong σ p0 p1 = some (r, z)) : ct_ l D cy ka yX15_wrong 2 49 [va_rf (some p0), .int p1] σ (some (.int r)) z := by
  unfold f_X15_wrong at hf
  refine v_start (cc := cX15_wrong) (own := RX15) (maxL := 2) (ret := (some FieldType.int)) (nm := "wrong") (by decide +kernel) kw_2226 rfl rfl (by simp [lg_sl, va_rf_cat, cat_i, cat_l]) ?_
  refine v_eqL (L2 := [(0, va_rf (some p0)), (1, .int p1)]) (by simp [lv_args, va_rf_cat, cat_i, cat_l]) ?_
  refine v_aload_n (x := (some p0)) dX15_wrong_0 rfl 0 rfl ?_
  refine v_iconst (v := 0) dX15_wrong_1 (by decide) ?_
  obtain ⟨hk_p0, hf⟩ := gt_of hf
  refine v_puti2 cb_16 hk_p0 0 1600 rfl (by decide) rfl (lk_n kw_1457 rfl) (Or.inl rfl) rfl rfl hf dX15_wrong_2 (fun s1 hts1 hf => ?_)
  have hk_p0 := tk_ hts1 hk_p0
  refine v_aload_n (x := (some p0)) dX15_wrong_5 rfl 0 rfl ?_
  refine v_iload_n (x := p1) dX15_wrong_6 rfl 1 rfl ?_
  obtain ⟨x2, s3, hcs3, hf⟩ := bd_of hf
  have hts3 := c_X15_isEdition (l := l) (D := D) (cy := cy) (ka := ka) hcs3
  refine v_callV cb_16 hk_p0 (As := [.int p1]) (rest := []) hts3 yb_X15_isEdition kw_2219 kw_2221 kp_133 rfl ⟨Nat.le_of_ble_eq_true rfl, Nat.le_of_ble_eq_true rfl⟩ rfl (cat_len (Nat.le_of_ble_eq_true rfl)) dX15_wrong_7 ?_
  have hk_p0 := tk_ hts3.1 hk_p0
  show v_ l D cy ka cX15_wrong RX15 2 (some FieldType.int) "wrong" 2 49 (qf_ D cy σ z (some (.int r))) σ z _ 10 [(0, va_rf (some p0)), (1, .int p1)] [.int x2]
  refine v_if_eq (tgt := 26) hf dX15_wrong_10 (by decide) (fun hq hf => ?_) (fun hq hf => ?_)
  · refine v_iconst (v := (-1)) dX15_wrong_26 (by decide) ?_
    refine v_sub [] (L2 := []) rfl ?_
    exact t_X15_wrong_b27  hf
  · refine v_aload_n (x := (some p0)) dX15_wrong_13 rfl 0 rfl ?_
    refine v_aload_n (x := (some p0)) dX15_wrong_14 rfl 0 rfl ?_
    refine v_getr cb_16 hk_p0 82 1682 rfl (by decide) rfl (lk_n kw_1539 rfl) hf dX15_wrong_15 (fun r4 hf => ?_)
    refine v_iload_n (x := p1) dX15_wrong_18 rfl 1 rfl ?_
    obtain ⟨a5, rfl, hf⟩ := nn_of hf
    obtain ⟨hk_a5, hf⟩ := gt_of hf
    refine v_aald 27 8 RX12 hk_a5 (by decide) rfl hf dX15_wrong_19 (fun r6 hf => ?_)
    obtain ⟨x7, s8, hcs8, hf⟩ := bd_of hf
    have hts8 := c_X15_wrongOf (l := l) (D := D) (cy := cy) (ka := ka) hcs8
    refine v_callV cb_16 hk_p0 (As := [va_rf r6]) (rest := []) hts8 yb_X15_wrongOf kw_2227 kw_2229 kp_134 rfl ⟨Nat.le_of_ble_eq_true rfl, Nat.le_of_ble_eq_true rfl⟩ rfl (cat_len (Nat.le_of_ble_eq_true rfl)) dX15_wrong_20 ?_
    have hk_p0 := tk_ hts8.1 hk_p0
    show v_ l D cy ka cX15_wrong RX15 2 (some FieldType.int) "wrong" 2 49 (qf_ D cy σ z (some (.int r))) σ z _ 23 [(0, va_rf (some p0)), (1, .int p1)] [.int x7]
    refine v_goto (tgt := 27) dX15_wrong_23 (by decide) ?_
    refine v_sub [] (L2 := []) rfl ?_
    exact t_X15_wrong_b27  hf
