/-! Functions over the typed heap and contracts, by wip/gen/gen.py: X15_fact X15_fault X15_feed X15_fits X15_fresh X15_freshen X15_hours X15_keeps X15_known X15_knownOn X15_out X13_init X15_isTaped X15_takesText X15_pass X15_peril X15_person X15_picture -/
theorem dX15_fact_0 : decode cX15_fact 0 = .ok (.aload_n 0, 1) := by decide +kernel
theorem dX15_fact_1 : decode cX15_fact 1 = .ok (.iconst 0, 1) := by decide +kernel
theorem dX15_fact_2 : decode cX15_fact 2 = .ok (.putfield 1, 3) := by decide +kernel
theorem dX15_fact_5 : decode cX15_fact 5 = .ok (.aload_n 0, 1) := by decide +kernel
theorem dX15_fact_6 : decode cX15_fact 6 = .ok (.iload_n 1, 1) := by decide +kernel
theorem dX15_fact_7 : decode cX15_fact 7 = .ok (.invokevirtual 227, 3) := by decide +kernel
theorem dX15_fact_10 : decode cX15_fact 10 = .ok (.ifCond .ne 9, 3) := by decide +kernel
theorem dX15_fact_13 : decode cX15_fact 13 = .ok (.aload_n 0, 1) := by decide +kernel
theorem dX15_fact_14 : decode cX15_fact 14 = .ok (.iconst 1, 1) := by decide +kernel
theorem dX15_fact_15 : decode cX15_fact 15 = .ok (.invokevirtual 201, 3) := by decide +kernel
theorem dX15_fact_18 : decode cX15_fact 18 = .ok (.ireturn, 1) := by decide +kernel
theorem dX15_fact_19 : decode cX15_fact 19 = .ok (.iload_n 2, 1) := by decide +kernel
theorem dX15_fact_20 : decode cX15_fact 20 = .ok (.invokestatic 250, 3) := by decide +kernel
theorem dX15_fact_23 : decode cX15_fact 23 = .ok (.ifCond .eq 16, 3) := by decide +kernel
theorem dX15_fact_26 : decode cX15_fact 26 = .ok (.iload_n 3, 1) := by decide +kernel
theorem dX15_fact_27 : decode cX15_fact 27 = .ok (.sipush (-9999), 3) := by decide +kernel
theorem dX15_fact_30 : decode cX15_fact 30 = .ok (.sipush 9999, 3) := by decide +kernel
theorem dX15_fact_33 : decode cX15_fact 33 = .ok (.invokestatic 197, 3) := by decide +kernel
theorem dX15_fact_36 : decode cX15_fact 36 = .ok (.ifCond .ne 9, 3) := by decide +kernel
theorem dX15_fact_39 : decode cX15_fact 39 = .ok (.aload_n 0, 1) := by decide +kernel
theorem dX15_fact_40 : decode cX15_fact 40 = .ok (.iconst 2, 1) := by decide +kernel
theorem dX15_fact_41 : decode cX15_fact 41 = .ok (.invokevirtual 201, 3) := by decide +kernel
theorem dX15_fact_44 : decode cX15_fact 44 = .ok (.ireturn, 1) := by decide +kernel
theorem dX15_fact_45 : decode cX15_fact 45 = .ok (.aload_n 0, 1) := by decide +kernel
theorem dX15_fact_46 : decode cX15_fact 46 = .ok (.getfield 253, 3) := by decide +kernel
theorem dX15_fact_49 : decode cX15_fact 49 = .ok (.sipush 240, 3) := by decide +kernel
theorem dX15_fact_52 : decode cX15_fact 52 = .ok (.if_icmp .ne 9, 3) := by decide +kernel
theorem dX15_fact_55 : decode cX15_fact 55 = .ok (.aload_n 0, 1) := by decide +kernel
theorem dX15_fact_56 : decode cX15_fact 56 = .ok (.iconst 3, 1) := by decide +kernel
theorem dX15_fact_57 : decode cX15_fact 57 = .ok (.invokevirtual 201, 3) := by decide +kernel
theorem dX15_fact_60 : decode cX15_fact 60 = .ok (.ireturn, 1) := by decide +kernel
theorem dX15_fact_61 : decode cX15_fact 61 = .ok (.aload_n 0, 1) := by decide +kernel
theorem dX15_fact_62 : decode cX15_fact 62 = .ok (.getfield 57, 3) := by decide +kernel
theorem dX15_fact_65 : decode cX15_fact 65 = .ok (.aload_n 0, 1) := by decide +kernel
theorem dX15_fact_66 : decode cX15_fact 66 = .ok (.getfield 253, 3) := by decide +kernel
theorem dX15_fact_69 : decode cX15_fact 69 = .ok (.iload_n 1, 1) := by decide +kernel
theorem dX15_fact_70 : decode cX15_fact 70 = .ok (.iastore, 1) := by decide +kernel
theorem dX15_fact_71 : decode cX15_fact 71 = .ok (.aload_n 0, 1) := by decide +kernel
theorem dX15_fact_72 : decode cX15_fact 72 = .ok (.getfield 60, 3) := by decide +kernel
theorem dX15_fact_75 : decode cX15_fact 75 = .ok (.aload_n 0, 1) := by decide +kernel
theorem dX15_fact_76 : decode cX15_fact 76 = .ok (.getfield 253, 3) := by decide +kernel
theorem dX15_fact_79 : decode cX15_fact 79 = .ok (.iload_n 2, 1) := by decide +kernel
theorem dX15_fact_80 : decode cX15_fact 80 = .ok (.iastore, 1) := by decide +kernel
theorem dX15_fact_81 : decode cX15_fact 81 = .ok (.aload_n 0, 1) := by decide +kernel
theorem dX15_fact_82 : decode cX15_fact 82 = .ok (.getfield 63, 3) := by decide +kernel
theorem dX15_fact_85 : decode cX15_fact 85 = .ok (.aload_n 0, 1) := by decide +kernel
theorem dX15_fact_86 : decode cX15_fact 86 = .ok (.getfield 253, 3) := by decide +kernel
theorem dX15_fact_89 : decode cX15_fact 89 = .ok (.iload_n 3, 1) := by decide +kernel
theorem dX15_fact_90 : decode cX15_fact 90 = .ok (.iastore, 1) := by decide +kernel
theorem dX15_fact_91 : decode cX15_fact 91 = .ok (.aload_n 0, 1) := by decide +kernel
theorem dX15_fact_92 : decode cX15_fact 92 = .ok (.getfield 66, 3) := by decide +kernel
theorem dX15_fact_95 : decode cX15_fact 95 = .ok (.aload_n 0, 1) := by decide +kernel
theorem dX15_fact_96 : decode cX15_fact 96 = .ok (.getfield 253, 3) := by decide +kernel
theorem dX15_fact_99 : decode cX15_fact 99 = .ok (.aload_n 0, 1) := by decide +kernel
theorem dX15_fact_100 : decode cX15_fact 100 = .ok (.invokevirtual 230, 3) := by decide +kernel
theorem dX15_fact_103 : decode cX15_fact 103 = .ok (.iastore, 1) := by decide +kernel
theorem dX15_fact_104 : decode cX15_fact 104 = .ok (.aload_n 0, 1) := by decide +kernel
theorem dX15_fact_105 : decode cX15_fact 105 = .ok (.getfield 69, 3) := by decide +kernel
theorem dX15_fact_108 : decode cX15_fact 108 = .ok (.aload_n 0, 1) := by decide +kernel
theorem dX15_fact_109 : decode cX15_fact 109 = .ok (.getfield 253, 3) := by decide +kernel
theorem dX15_fact_112 : decode cX15_fact 112 = .ok (.iload 4, 2) := by decide +kernel
theorem dX15_fact_114 : decode cX15_fact 114 = .ok (.bastore, 1) := by decide +kernel
theorem dX15_fact_115 : decode cX15_fact 115 = .ok (.aload_n 0, 1) := by decide +kernel
theorem dX15_fact_116 : decode cX15_fact 116 = .ok (.getfield 54, 3) := by decide +kernel
theorem dX15_fact_119 : decode cX15_fact 119 = .ok (.bipush 10, 2) := by decide +kernel
theorem dX15_fact_121 : decode cX15_fact 121 = .ok (.iload_n 1, 1) := by decide +kernel
theorem dX15_fact_122 : decode cX15_fact 122 = .ok (.imul, 1) := by decide +kernel
theorem dX15_fact_123 : decode cX15_fact 123 = .ok (.iload_n 2, 1) := by decide +kernel
theorem dX15_fact_124 : decode cX15_fact 124 = .ok (.iadd, 1) := by decide +kernel
theorem dX15_fact_125 : decode cX15_fact 125 = .ok (.aload_n 0, 1) := by decide +kernel
theorem dX15_fact_126 : decode cX15_fact 126 = .ok (.invokevirtual 230, 3) := by decide +kernel
theorem dX15_fact_129 : decode cX15_fact 129 = .ok (.iastore, 1) := by decide +kernel
theorem dX15_fact_130 : decode cX15_fact 130 = .ok (.aload_n 0, 1) := by decide +kernel
theorem dX15_fact_131 : decode cX15_fact 131 = .ok (.dup, 1) := by decide +kernel
theorem dX15_fact_132 : decode cX15_fact 132 = .ok (.getfield 253, 3) := by decide +kernel
theorem dX15_fact_135 : decode cX15_fact 135 = .ok (.iconst 1, 1) := by decide +kernel
theorem dX15_fact_136 : decode cX15_fact 136 = .ok (.iadd, 1) := by decide +kernel
theorem dX15_fact_137 : decode cX15_fact 137 = .ok (.putfield 253, 3) := by decide +kernel
theorem dX15_fact_140 : decode cX15_fact 140 = .ok (.aload_n 0, 1) := by decide +kernel
theorem dX15_fact_141 : decode cX15_fact 141 = .ok (.aload_n 0, 1) := by decide +kernel
theorem dX15_fact_142 : decode cX15_fact 142 = .ok (.iload_n 1, 1) := by decide +kernel
theorem dX15_fact_143 : decode cX15_fact 143 = .ok (.iload_n 2, 1) := by decide +kernel
theorem dX15_fact_144 : decode cX15_fact 144 = .ok (.invokevirtual 256, 3) := by decide +kernel
theorem dX15_fact_147 : decode cX15_fact 147 = .ok (.invokevirtual 205, 3) := by decide +kernel
theorem dX15_fact_150 : decode cX15_fact 150 = .ok (.ireturn, 1) := by decide +kernel
def f_X15_fact_b39 (σ : TH) (l0 : Nat) : Option (Int32 × TH) :=
  gt_ (kd_ σ l0 = 17) <| bd_ (f_X15_refused σ l0 (2 : Int32)) fun x8 s9 => some (x8, s9)
set_option maxHeartbeats 4000000 in
set_option maxRecDepth 100000 in
theorem t_X15_fact_b39 {l : Launch} {D : va_G} {cy : Nat → ClassId} {ka : Nat → Nat} {σ0 z : TH} {r : Int32}  {σ : TH} {l0 : Nat} (hf : f_X15_fact_b39 σ l0 = some (r, z)) : v_ l D cy ka cX15_fact RX15 5 (some FieldType.int) "fact" 1 24 (qf_ D cy σ0 z (some (.int r))) σ0 z σ 39 [(0, va_rf (some l0))] [] := by
  unfold f_X15_fact_b39 at hf
  refine v_aload_n (x := (some l0)) dX15_fact_39 rfl 0 rfl ?_
  refine v_iconst (v := 2) dX15_fact_40 (by decide) ?_
  obtain ⟨hk_l0, hf⟩ := gt_of hf
  obtain ⟨x8, s9, hcs9, hf⟩ := bd_of hf
  have hts9 := c_X15_refused (l := l) (D := D) (cy := cy) (ka := ka) hcs9
  refine v_callV cb_16 hk_l0 (As := [.int (2 : Int32)]) (rest := []) hts9 yb_X15_refused kw_1729 kw_1731 kp_77 rfl ⟨Nat.le_of_ble_eq_true rfl, Nat.le_of_ble_eq_true rfl⟩ rfl (cat_len (Nat.le_of_ble_eq_true rfl)) dX15_fact_41 ?_
  have hk_l0 := tk_ hts9.1 hk_l0
  show v_ l D cy ka cX15_fact RX15 5 (some FieldType.int) "fact" 1 24 (qf_ D cy σ0 z (some (.int r))) σ0 z _ 44 [(0, va_rf (some l0))] [.int x8]
  exact v_iret hf dX15_fact_44
/-- LivesAheadModel.fact(IIIZ)I -/
def f_X15_fact (σ : TH) (p0 : Nat) (p1 : Int32) (p2 : Int32) (p3 : Int32) (p4 : Int32) : Option (Int32 × TH) :=
  gt_ (kd_ σ p0 = 17) <| lt_ (si_ σ 1600 p0 (0 : Int32)) fun s1 => bd_ (f_X15_isPerson s1 p0 p1) fun x2 s3 => if x2 = 0 then (bd_ (f_X15_refused s3 p0 (1 : Int32)) fun x4 s5 => some (x4, s5)) else (bd_ (f_X15_isKind s3 p2) fun x6 s7 => if x6 = 0 then (f_X15_fact_b39 s7 p0) else (bd_ (f_X15_in s7 p3 (-9999 : Int32) (9999 : Int32)) fun x10 s11 => if x10 = 0 then (f_X15_fact_b39 s11 p0) else (lt_ (fi_ s11 1617 p0) fun x12 => if x12 = (240 : Int32) then (bd_ (f_X15_refused s11 p0 (3 : Int32)) fun x13 s14 => some (x13, s14)) else (lt_ (fr_ s11 1620 p0) fun r15 => lt_ (fi_ s11 1617 p0) fun x16 => nn_ r15 fun a17 => gt_ (kd_ s11 a17 = 20) <| gt_ (¬ (x16 < 0 ∨ ln_ s11 a17 ≤ x16.toNatClampNeg)) <| lt_ (sa_ s11 a17 x16.toNatClampNeg p1) fun s18 => lt_ (fr_ s18 1621 p0) fun r19 => lt_ (fi_ s18 1617 p0) fun x20 => nn_ r19 fun a21 => gt_ (kd_ s18 a21 = 20) <| gt_ (¬ (x20 < 0 ∨ ln_ s18 a21 ≤ x20.toNatClampNeg)) <| lt_ (sa_ s18 a21 x20.toNatClampNeg p2) fun s22 => lt_ (fr_ s22 1622 p0) fun r23 => lt_ (fi_ s22 1617 p0) fun x24 => nn_ r23 fun a25 => gt_ (kd_ s22 a25 = 20) <| gt_ (¬ (x24 < 0 ∨ ln_ s22 a25 ≤ x24.toNatClampNeg)) <| lt_ (sa_ s22 a25 x24.toNatClampNeg p3) fun s26 => lt_ (fr_ s26 1623 p0) fun r27 => lt_ (fi_ s26 1617 p0) fun x28 => bd_ (f_X15_today s26 p0) fun x29 s30 => nn_ r27 fun a31 => gt_ (kd_ s30 a31 = 20) <| gt_ (¬ (x28 < 0 ∨ ln_ s30 a31 ≤ x28.toNatClampNeg)) <| lt_ (sa_ s30 a31 x28.toNatClampNeg x29) fun s32 => lt_ (fr_ s32 1624 p0) fun r33 => lt_ (fi_ s32 1617 p0) fun x34 => nn_ r33 fun a35 => gt_ (kd_ s32 a35 = 22) <| gt_ (¬ (x34 < 0 ∨ ln_ s32 a35 ≤ x34.toNatClampNeg)) <| lt_ (sa_ s32 a35 x34.toNatClampNeg (vp_nar .boolean p4)) fun s36 => lt_ (fr_ s36 1619 p0) fun r37 => bd_ (f_X15_today s36 p0) fun x38 s39 => nn_ r37 fun a40 => gt_ (kd_ s39 a40 = 20) <| gt_ (¬ ((((10 : Int32) * p1) + p2) < 0 ∨ ln_ s39 a40 ≤ (((10 : Int32) * p1) + p2 : Int32).toNatClampNeg)) <| lt_ (sa_ s39 a40 ((((10 : Int32) * p1) + p2 : Int32).toNatClampNeg) x38) fun s41 => lt_ (fi_ s41 1617 p0) fun x42 => lt_ (si_ s41 1617 p0 (x42 + (1 : Int32))) fun s43 => bd_ (f_X15_many s43 p0 p1 p2) fun x44 s45 => bd_ (f_X15_done s45 p0 x44) fun x46 s47 => some (x46, s47)))))
set_option maxHeartbeats 4000000 in
set_option maxRecDepth 100000 in
theorem c_X15_fact {l : Launch} {D : va_G} {cy : Nat → ClassId} {ka : Nat → Nat} {σ z : TH} {p0 : Nat} {p1 : Int32} {p2 : Int32} {p3 : Int32} {p4 : Int32} {r : Int32} (hf : f_X15_fact σ p0 p1 p2 p3 p4 = some (r, z)) : ct_ l D cy ka yX15_fact 1 24 [va_rf (some p0), .int p1, .int p2, .int p3, .int p4] σ (some (.int r)) z := by
  unfold f_X15_fact at hf
  refine v_start (cc := cX15_fact) (own := RX15) (maxL := 5) (ret := (some FieldType.int)) (nm := "fact") (by decide +kernel) kw_1819 rfl rfl (by simp [lg_sl, va_rf_cat, cat_i, cat_l]) ?_
  refine v_eqL (L2 := [(0, va_rf (some p0)), (1, .int p1), (2, .int p2), (3, .int p3), (4, .int p4)]) (by simp [lv_args, va_rf_cat, cat_i, cat_l]) ?_
  refine v_aload_n (x := (some p0)) dX15_fact_0 rfl 0 rfl ?_
  refine v_iconst (v := 0) dX15_fact_1 (by decide) ?_
  obtain ⟨hk_p0, hf⟩ := gt_of hf
  refine v_puti2 cb_16 hk_p0 0 1600 rfl (by decide) rfl (lk_n kw_1457 rfl) (Or.inl rfl) rfl rfl hf dX15_fact_2 (fun s1 hts1 hf => ?_)
  have hk_p0 := tk_ hts1 hk_p0
  refine v_aload_n (x := (some p0)) dX15_fact_5 rfl 0 rfl ?_
  refine v_iload_n (x := p1) dX15_fact_6 rfl 1 rfl ?_
  obtain ⟨x2, s3, hcs3, hf⟩ := bd_of hf
  have hts3 := c_X15_isPerson (l := l) (D := D) (cy := cy) (ka := ka) hcs3
  refine v_callV cb_16 hk_p0 (As := [.int p1]) (rest := []) hts3 yb_X15_isPerson kw_1770 kw_1772 kp_83 rfl ⟨Nat.le_of_ble_eq_true rfl, Nat.le_of_ble_eq_true rfl⟩ rfl (cat_len (Nat.le_of_ble_eq_true rfl)) dX15_fact_7 ?_
  have hk_p0 := tk_ hts3.1 hk_p0
  show v_ l D cy ka cX15_fact RX15 5 (some FieldType.int) "fact" 1 24 (qf_ D cy σ z (some (.int r))) σ z _ 10 [(0, va_rf (some p0)), (1, .int p1), (2, .int p2), (3, .int p3), (4, .int p4)] [.int x2]
  refine v_if_ne (tgt := 19) hf dX15_fact_10 (by decide) (fun hq hf => ?_) (fun hq hf => ?_)
  · refine v_aload_n (x := (some p0)) dX15_fact_13 rfl 0 rfl ?_
    refine v_iconst (v := 1) dX15_fact_14 (by decide) ?_
    obtain ⟨x4, s5, hcs5, hf⟩ := bd_of hf
    have hts5 := c_X15_refused (l := l) (D := D) (cy := cy) (ka := ka) hcs5
    refine v_callV cb_16 hk_p0 (As := [.int (1 : Int32)]) (rest := []) hts5 yb_X15_refused kw_1729 kw_1731 kp_77 rfl ⟨Nat.le_of_ble_eq_true rfl, Nat.le_of_ble_eq_true rfl⟩ rfl (cat_len (Nat.le_of_ble_eq_true rfl)) dX15_fact_15 ?_
    have hk_p0 := tk_ hts5.1 hk_p0
    show v_ l D cy ka cX15_fact RX15 5 (some FieldType.int) "fact" 1 24 (qf_ D cy σ z (some (.int r))) σ z _ 18 [(0, va_rf (some p0)), (1, .int p1), (2, .int p2), (3, .int p3), (4, .int p4)] [.int x4]
    exact v_iret hf dX15_fact_18
  · refine v_iload_n (x := p2) dX15_fact_19 rfl 2 rfl ?_
    obtain ⟨x6, s7, hcs7, hf⟩ := bd_of hf
    have hts7 := c_X15_isKind (l := l) (D := D) (cy := cy) (ka := ka) hcs7
    refine v_callS (As := [.int p2]) (rest := []) hts7 yb_X15_isKind kw_1813 kw_1814 rfl ⟨Nat.le_of_ble_eq_true rfl, Nat.le_of_ble_eq_true rfl⟩ rfl (cat_len (Nat.le_of_ble_eq_true rfl)) dX15_fact_20 ?_
    have hk_p0 := tk_ hts7.1 hk_p0
    show v_ l D cy ka cX15_fact RX15 5 (some FieldType.int) "fact" 1 24 (qf_ D cy σ z (some (.int r))) σ z _ 23 [(0, va_rf (some p0)), (1, .int p1), (2, .int p2), (3, .int p3), (4, .int p4)] [.int x6]
    refine v_if_eq (tgt := 39) hf dX15_fact_23 (by decide) (fun hq hf => ?_) (fun hq hf => ?_)
    · refine v_sub [0] (L2 := [(0, va_rf (some p0))]) rfl ?_
      exact t_X15_fact_b39  hf
    · refine v_iload_n (x := p3) dX15_fact_26 rfl 3 rfl ?_
      refine v_sipush (v := (-9999)) dX15_fact_27 (by decide) ?_
      refine v_sipush (v := 9999) dX15_fact_30 (by decide) ?_
      obtain ⟨x10, s11, hcs11, hf⟩ := bd_of hf
      have hts11 := c_X15_in (l := l) (D := D) (cy := cy) (ka := ka) hcs11
      refine v_callS (As := [.int p3, .int (-9999 : Int32), .int (9999 : Int32)]) (rest := []) hts11 yb_X15_in kw_1726 kw_1727 rfl ⟨Nat.le_of_ble_eq_true rfl, Nat.le_of_ble_eq_true rfl⟩ rfl (cat_len (Nat.le_of_ble_eq_true rfl)) dX15_fact_33 ?_
      have hk_p0 := tk_ hts11.1 hk_p0
      show v_ l D cy ka cX15_fact RX15 5 (some FieldType.int) "fact" 1 24 (qf_ D cy σ z (some (.int r))) σ z _ 36 [(0, va_rf (some p0)), (1, .int p1), (2, .int p2), (3, .int p3), (4, .int p4)] [.int x10]
      refine v_if_ne (tgt := 45) hf dX15_fact_36 (by decide) (fun hq hf => ?_) (fun hq hf => ?_)
      · refine v_sub [0] (L2 := [(0, va_rf (some p0))]) rfl ?_
        exact t_X15_fact_b39  hf
      · refine v_aload_n (x := (some p0)) dX15_fact_45 rfl 0 rfl ?_
        refine v_geti cb_16 hk_p0 17 1617 rfl (by decide) rfl (lk_n kw_1474 rfl) hf dX15_fact_46 (fun x12 hf => ?_)
        refine v_sipush (v := 240) dX15_fact_49 (by decide) ?_
        refine v_icmp_ne (tgt := 61) hf dX15_fact_52 (by decide) (fun hq hf => ?_) (fun hq hf => ?_)
        · refine v_aload_n (x := (some p0)) dX15_fact_55 rfl 0 rfl ?_
          refine v_iconst (v := 3) dX15_fact_56 (by decide) ?_
          obtain ⟨x13, s14, hcs14, hf⟩ := bd_of hf
          have hts14 := c_X15_refused (l := l) (D := D) (cy := cy) (ka := ka) hcs14
          refine v_callV cb_16 hk_p0 (As := [.int (3 : Int32)]) (rest := []) hts14 yb_X15_refused kw_1729 kw_1731 kp_77 rfl ⟨Nat.le_of_ble_eq_true rfl, Nat.le_of_ble_eq_true rfl⟩ rfl (cat_len (Nat.le_of_ble_eq_true rfl)) dX15_fact_57 ?_
          have hk_p0 := tk_ hts14.1 hk_p0
          show v_ l D cy ka cX15_fact RX15 5 (some FieldType.int) "fact" 1 24 (qf_ D cy σ z (some (.int r))) σ z _ 60 [(0, va_rf (some p0)), (1, .int p1), (2, .int p2), (3, .int p3), (4, .int p4)] [.int x13]
          exact v_iret hf dX15_fact_60
        · refine v_aload_n (x := (some p0)) dX15_fact_61 rfl 0 rfl ?_
          refine v_getr cb_16 hk_p0 20 1620 rfl (by decide) rfl (lk_n kw_1477 rfl) hf dX15_fact_62 (fun r15 hf => ?_)
          refine v_aload_n (x := (some p0)) dX15_fact_65 rfl 0 rfl ?_
          refine v_geti cb_16 hk_p0 17 1617 rfl (by decide) rfl (lk_n kw_1474 rfl) hf dX15_fact_66 (fun x16 hf => ?_)
          refine v_iload_n (x := p1) dX15_fact_69 rfl 1 rfl ?_
          obtain ⟨a17, rfl, hf⟩ := nn_of hf
          obtain ⟨hk_a17, hf⟩ := gt_of hf
          refine v_iast2 hk_a17 hf dX15_fact_70 (fun s18 hts18 hf => ?_)
          have hk_p0 := tk_ hts18 hk_p0
          refine v_aload_n (x := (some p0)) dX15_fact_71 rfl 0 rfl ?_
          refine v_getr cb_16 hk_p0 21 1621 rfl (by decide) rfl (lk_n kw_1478 rfl) hf dX15_fact_72 (fun r19 hf => ?_)
          refine v_aload_n (x := (some p0)) dX15_fact_75 rfl 0 rfl ?_
          refine v_geti cb_16 hk_p0 17 1617 rfl (by decide) rfl (lk_n kw_1474 rfl) hf dX15_fact_76 (fun x20 hf => ?_)
          refine v_iload_n (x := p2) dX15_fact_79 rfl 2 rfl ?_
          obtain ⟨a21, rfl, hf⟩ := nn_of hf
          obtain ⟨hk_a21, hf⟩ := gt_of hf
          refine v_iast2 hk_a21 hf dX15_fact_80 (fun s22 hts22 hf => ?_)
          have hk_p0 := tk_ hts22 hk_p0
          refine v_aload_n (x := (some p0)) dX15_fact_81 rfl 0 rfl ?_
          refine v_getr cb_16 hk_p0 22 1622 rfl (by decide) rfl (lk_n kw_1479 rfl) hf dX15_fact_82 (fun r23 hf => ?_)
          refine v_aload_n (x := (some p0)) dX15_fact_85 rfl 0 rfl ?_
          refine v_geti cb_16 hk_p0 17 1617 rfl (by decide) rfl (lk_n kw_1474 rfl) hf dX15_fact_86 (fun x24 hf => ?_)
          refine v_iload_n (x := p3) dX15_fact_89 rfl 3 rfl ?_
          obtain ⟨a25, rfl, hf⟩ := nn_of hf
          obtain ⟨hk_a25, hf⟩ := gt_of hf
          refine v_iast2 hk_a25 hf dX15_fact_90 (fun s26 hts26 hf => ?_)
          have hk_p0 := tk_ hts26 hk_p0
          refine v_aload_n (x := (some p0)) dX15_fact_91 rfl 0 rfl ?_
          refine v_getr cb_16 hk_p0 23 1623 rfl (by decide) rfl (lk_n kw_1480 rfl) hf dX15_fact_92 (fun r27 hf => ?_)
          refine v_aload_n (x := (some p0)) dX15_fact_95 rfl 0 rfl ?_
          refine v_geti cb_16 hk_p0 17 1617 rfl (by decide) rfl (lk_n kw_1474 rfl) hf dX15_fact_96 (fun x28 hf => ?_)
          refine v_aload_n (x := (some p0)) dX15_fact_99 rfl 0 rfl ?_
          obtain ⟨x29, s30, hcs30, hf⟩ := bd_of hf
          have hts30 := c_X15_today (l := l) (D := D) (cy := cy) (ka := ka) hcs30
          refine v_callV cb_16 hk_p0 (As := []) (rest := [.int x28, va_rf r27]) hts30 yb_X15_today kw_1774 kw_1776 kp_84 rfl ⟨Nat.le_of_ble_eq_true rfl, Nat.le_of_ble_eq_true rfl⟩ rfl (cat_len (Nat.le_of_ble_eq_true rfl)) dX15_fact_100 ?_
          have hk_p0 := tk_ hts30.1 hk_p0
          show v_ l D cy ka cX15_fact RX15 5 (some FieldType.int) "fact" 1 24 (qf_ D cy σ z (some (.int r))) σ z _ 103 [(0, va_rf (some p0)), (1, .int p1), (2, .int p2), (3, .int p3), (4, .int p4)] [.int x29, .int x28, va_rf r27]
          obtain ⟨a31, rfl, hf⟩ := nn_of hf
          obtain ⟨hk_a31, hf⟩ := gt_of hf
          refine v_iast2 hk_a31 hf dX15_fact_103 (fun s32 hts32 hf => ?_)
          have hk_p0 := tk_ hts32 hk_p0
          refine v_aload_n (x := (some p0)) dX15_fact_104 rfl 0 rfl ?_
          refine v_getr cb_16 hk_p0 24 1624 rfl (by decide) rfl (lk_n kw_1481 rfl) hf dX15_fact_105 (fun r33 hf => ?_)
          refine v_aload_n (x := (some p0)) dX15_fact_108 rfl 0 rfl ?_
          refine v_geti cb_16 hk_p0 17 1617 rfl (by decide) rfl (lk_n kw_1474 rfl) hf dX15_fact_109 (fun x34 hf => ?_)
          refine v_iload (x := p4) dX15_fact_112 4 rfl ?_
          obtain ⟨a35, rfl, hf⟩ := nn_of hf
          obtain ⟨hk_a35, hf⟩ := gt_of hf
          refine v_zast2 hk_a35 hf dX15_fact_114 (fun s36 hts36 hf => ?_)
          have hk_p0 := tk_ hts36 hk_p0
          refine v_aload_n (x := (some p0)) dX15_fact_115 rfl 0 rfl ?_
          refine v_getr cb_16 hk_p0 19 1619 rfl (by decide) rfl (lk_n kw_1476 rfl) hf dX15_fact_116 (fun r37 hf => ?_)
          refine v_bipush (v := 10) dX15_fact_119 (by decide) ?_
          refine v_iload_n (x := p1) dX15_fact_121 rfl 1 rfl ?_
          refine v_imul dX15_fact_122 ?_
          refine v_iload_n (x := p2) dX15_fact_123 rfl 2 rfl ?_
          refine v_iadd dX15_fact_124 ?_
          refine v_aload_n (x := (some p0)) dX15_fact_125 rfl 0 rfl ?_
          obtain ⟨x38, s39, hcs39, hf⟩ := bd_of hf
          have hts39 := c_X15_today (l := l) (D := D) (cy := cy) (ka := ka) hcs39
          refine v_callV cb_16 hk_p0 (As := []) (rest := [.int (((10 : Int32) * p1) + p2), va_rf r37]) hts39 yb_X15_today kw_1774 kw_1776 kp_84 rfl ⟨Nat.le_of_ble_eq_true rfl, Nat.le_of_ble_eq_true rfl⟩ rfl (cat_len (Nat.le_of_ble_eq_true rfl)) dX15_fact_126 ?_
          have hk_p0 := tk_ hts39.1 hk_p0
          show v_ l D cy ka cX15_fact RX15 5 (some FieldType.int) "fact" 1 24 (qf_ D cy σ z (some (.int r))) σ z _ 129 [(0, va_rf (some p0)), (1, .int p1), (2, .int p2), (3, .int p3), (4, .int p4)] [.int x38, .int (((10 : Int32) * p1) + p2), va_rf r37]
          obtain ⟨a40, rfl, hf⟩ := nn_of hf
          obtain ⟨hk_a40, hf⟩ := gt_of hf
          refine v_iast2 hk_a40 hf dX15_fact_129 (fun s41 hts41 hf => ?_)
          have hk_p0 := tk_ hts41 hk_p0
          refine v_aload_n (x := (some p0)) dX15_fact_130 rfl 0 rfl ?_
          refine v_dup dX15_fact_131 (va_rf_cat _) ?_
          refine v_geti cb_16 hk_p0 17 1617 rfl (by decide) rfl (lk_n kw_1474 rfl) hf dX15_fact_132 (fun x42 hf => ?_)
          refine v_iconst (v := 1) dX15_fact_135 (by decide) ?_
          refine v_iadd dX15_fact_136 ?_
          refine v_puti2 cb_16 hk_p0 17 1617 rfl (by decide) rfl (lk_n kw_1474 rfl) (Or.inl rfl) rfl rfl hf dX15_fact_137 (fun s43 hts43 hf => ?_)
          have hk_p0 := tk_ hts43 hk_p0
          refine v_aload_n (x := (some p0)) dX15_fact_140 rfl 0 rfl ?_
          refine v_aload_n (x := (some p0)) dX15_fact_141 rfl 0 rfl ?_
          refine v_iload_n (x := p1) dX15_fact_142 rfl 1 rfl ?_
          refine v_iload_n (x := p2) dX15_fact_143 rfl 2 rfl ?_
          obtain ⟨x44, s45, hcs45, hf⟩ := bd_of hf
          have hts45 := c_X15_many (l := l) (D := D) (cy := cy) (ka := ka) hcs45
          refine v_callV cb_16 hk_p0 (As := [.int p1, .int p2]) (rest := [va_rf (some p0)]) hts45 yb_X15_many kw_1820 kw_1822 kp_91 rfl ⟨Nat.le_of_ble_eq_true rfl, Nat.le_of_ble_eq_true rfl⟩ rfl (cat_len (Nat.le_of_ble_eq_true rfl)) dX15_fact_144 ?_
          have hk_p0 := tk_ hts45.1 hk_p0
          show v_ l D cy ka cX15_fact RX15 5 (some FieldType.int) "fact" 1 24 (qf_ D cy σ z (some (.int r))) σ z _ 147 [(0, va_rf (some p0)), (1, .int p1), (2, .int p2), (3, .int p3), (4, .int p4)] [.int x44, va_rf (some p0)]
          obtain ⟨x46, s47, hcs47, hf⟩ := bd_of hf
          have hts47 := c_X15_done (l := l) (D := D) (cy := cy) (ka := ka) hcs47
          refine v_callV cb_16 hk_p0 (As := [.int x44]) (rest := []) hts47 yb_X15_done kw_1733 kw_1735 kp_78 rfl ⟨Nat.le_of_ble_eq_true rfl, Nat.le_of_ble_eq_true rfl⟩ rfl (cat_len (Nat.le_of_ble_eq_true rfl)) dX15_fact_147 ?_
          have hk_p0 := tk_ hts47.1 hk_p0
          show v_ l D cy ka cX15_fact RX15 5 (some FieldType.int) "fact" 1 24 (qf_ D cy σ z (some (.int r))) σ z _ 150 [(0, va_rf (some p0)), (1, .int p1), (2, .int p2), (3, .int p3), (4, .int p4)] [.int x46]
          exact v_iret hf dX15_fact_150
theorem dX15_fault_0 : decode cX15_fault 0 = .ok (.aload_n 0, 1) := by decide +kernel
theorem dX15_fault_1 : decode cX15_fault 1 = .ok (.iconst 0, 1) := by decide +kernel
theorem dX15_fault_2 : decode cX15_fault 2 = .ok (.putfield 1, 3) := by decide +kernel
theorem dX15_fault_5 : decode cX15_fault 5 = .ok (.aload_n 0, 1) := by decide +kernel
theorem dX15_fault_6 : decode cX15_fault 6 = .ok (.getfield 476, 3) := by decide +kernel
theorem dX15_fault_9 : decode cX15_fault 9 = .ok (.ireturn, 1) := by decide +kernel
/-- LivesAheadModel.fault()I -/
def f_X15_fault (σ : TH) (p0 : Nat) : Option (Int32 × TH) :=
  gt_ (kd_ σ p0 = 17) <| lt_ (si_ σ 1600 p0 (0 : Int32)) fun s1 => lt_ (fi_ s1 1603 p0) fun x2 => some (x2, s1)
set_option maxHeartbeats 4000000 in
set_option maxRecDepth 100000 in
theorem c_X15_fault {l : Launch} {D : va_G} {cy : Nat → ClassId} {ka : Nat → Nat} {σ z : TH} {p0 : Nat} {r : Int32} (hf : f_X15_fault σ p0 = some (r, z)) : ct_ l D cy ka yX15_fault 0 0 [va_rf (some p0)] σ (some (.int r)) z := by
  unfold f_X15_fault at hf
  refine v_start (cc := cX15_fault) (own := RX15) (maxL := 1) (ret := (some FieldType.int)) (nm := "fault") (by decide +kernel) kw_2065 rfl rfl (by simp [lg_sl, va_rf_cat, cat_i, cat_l]) ?_
  refine v_eqL (L2 := [(0, va_rf (some p0))]) (by simp [lv_args, va_rf_cat, cat_i, cat_l]) ?_
  refine v_aload_n (x := (some p0)) dX15_fault_0 rfl 0 rfl ?_
  refine v_iconst (v := 0) dX15_fault_1 (by decide) ?_
  obtain ⟨hk_p0, hf⟩ := gt_of hf
  refine v_puti2 cb_16 hk_p0 0 1600 rfl (by decide) rfl (lk_n kw_1457 rfl) (Or.inl rfl) rfl rfl hf dX15_fault_2 (fun s1 hts1 hf => ?_)
  have hk_p0 := tk_ hts1 hk_p0
  refine v_aload_n (x := (some p0)) dX15_fault_5 rfl 0 rfl ?_
  refine v_geti cb_16 hk_p0 3 1603 rfl (by decide) rfl (lk_n kw_1460 rfl) hf dX15_fault_6 (fun x2 hf => ?_)
  exact v_iret hf dX15_fault_9
theorem dX15_feed_0 : decode cX15_feed 0 = .ok (.aload_n 0, 1) := by decide +kernel
theorem dX15_feed_1 : decode cX15_feed 1 = .ok (.iconst 0, 1) := by decide +kernel
theorem dX15_feed_2 : decode cX15_feed 2 = .ok (.putfield 1, 3) := by decide +kernel
theorem dX15_feed_5 : decode cX15_feed 5 = .ok (.aload_n 0, 1) := by decide +kernel
theorem dX15_feed_6 : decode cX15_feed 6 = .ok (.getfield 466, 3) := by decide +kernel
theorem dX15_feed_9 : decode cX15_feed 9 = .ok (.bipush 20, 2) := by decide +kernel
theorem dX15_feed_11 : decode cX15_feed 11 = .ok (.iadd, 1) := by decide +kernel
theorem dX15_feed_12 : decode cX15_feed 12 = .ok (.sipush 400, 3) := by decide +kernel
theorem dX15_feed_15 : decode cX15_feed 15 = .ok (.if_icmp .le 5, 3) := by decide +kernel
theorem dX15_feed_18 : decode cX15_feed 18 = .ok (.iconst (-1), 1) := by decide +kernel
theorem dX15_feed_19 : decode cX15_feed 19 = .ok (.ireturn, 1) := by decide +kernel
theorem dX15_feed_20 : decode cX15_feed 20 = .ok (.iconst 0, 1) := by decide +kernel
theorem dX15_feed_21 : decode cX15_feed 21 = .ok (.istore 6, 2) := by decide +kernel
theorem dX15_feed_23 : decode cX15_feed 23 = .ok (.iload 6, 2) := by decide +kernel
theorem dX15_feed_25 : decode cX15_feed 25 = .ok (.bipush 20, 2) := by decide +kernel
theorem dX15_feed_27 : decode cX15_feed 27 = .ok (.if_icmp .ge 90, 3) := by decide +kernel
theorem dX15_feed_30 : decode cX15_feed 30 = .ok (.iload 6, 2) := by decide +kernel
theorem dX15_feed_32 : decode cX15_feed 32 = .ok (.iconst 4, 1) := by decide +kernel
theorem dX15_feed_33 : decode cX15_feed 33 = .ok (.if_icmp .ge 7, 3) := by decide +kernel
theorem dX15_feed_36 : decode cX15_feed 36 = .ok (.iload_n 1, 1) := by decide +kernel
theorem dX15_feed_37 : decode cX15_feed 37 = .ok (.goto 39, 3) := by decide +kernel
theorem dX15_feed_40 : decode cX15_feed 40 = .ok (.iload 6, 2) := by decide +kernel
theorem dX15_feed_42 : decode cX15_feed 42 = .ok (.bipush 8, 2) := by decide +kernel
theorem dX15_feed_44 : decode cX15_feed 44 = .ok (.if_icmp .ge 7, 3) := by decide +kernel
theorem dX15_feed_47 : decode cX15_feed 47 = .ok (.iload_n 2, 1) := by decide +kernel
theorem dX15_feed_48 : decode cX15_feed 48 = .ok (.goto 28, 3) := by decide +kernel
theorem dX15_feed_51 : decode cX15_feed 51 = .ok (.iload 6, 2) := by decide +kernel
theorem dX15_feed_53 : decode cX15_feed 53 = .ok (.bipush 12, 2) := by decide +kernel
theorem dX15_feed_55 : decode cX15_feed 55 = .ok (.if_icmp .ge 7, 3) := by decide +kernel
theorem dX15_feed_58 : decode cX15_feed 58 = .ok (.iload_n 3, 1) := by decide +kernel
theorem dX15_feed_59 : decode cX15_feed 59 = .ok (.goto 17, 3) := by decide +kernel
theorem dX15_feed_62 : decode cX15_feed 62 = .ok (.iload 6, 2) := by decide +kernel
theorem dX15_feed_64 : decode cX15_feed 64 = .ok (.bipush 16, 2) := by decide +kernel
theorem dX15_feed_66 : decode cX15_feed 66 = .ok (.if_icmp .ge 8, 3) := by decide +kernel
theorem dX15_feed_69 : decode cX15_feed 69 = .ok (.iload 4, 2) := by decide +kernel
theorem dX15_feed_71 : decode cX15_feed 71 = .ok (.goto 5, 3) := by decide +kernel
theorem dX15_feed_74 : decode cX15_feed 74 = .ok (.iload 5, 2) := by decide +kernel
theorem dX15_feed_76 : decode cX15_feed 76 = .ok (.istore 7, 2) := by decide +kernel
theorem dX15_feed_78 : decode cX15_feed 78 = .ok (.aload_n 0, 1) := by decide +kernel
theorem dX15_feed_79 : decode cX15_feed 79 = .ok (.getfield 79, 3) := by decide +kernel
theorem dX15_feed_82 : decode cX15_feed 82 = .ok (.aload_n 0, 1) := by decide +kernel
theorem dX15_feed_83 : decode cX15_feed 83 = .ok (.getfield 466, 3) := by decide +kernel
theorem dX15_feed_86 : decode cX15_feed 86 = .ok (.iload 7, 2) := by decide +kernel
theorem dX15_feed_88 : decode cX15_feed 88 = .ok (.bipush 24, 2) := by decide +kernel
theorem dX15_feed_90 : decode cX15_feed 90 = .ok (.bipush 8, 2) := by decide +kernel
theorem dX15_feed_92 : decode cX15_feed 92 = .ok (.iload 6, 2) := by decide +kernel
theorem dX15_feed_94 : decode cX15_feed 94 = .ok (.iconst 4, 1) := by decide +kernel
theorem dX15_feed_95 : decode cX15_feed 95 = .ok (.irem, 1) := by decide +kernel
theorem dX15_feed_96 : decode cX15_feed 96 = .ok (.imul, 1) := by decide +kernel
theorem dX15_feed_97 : decode cX15_feed 97 = .ok (.isub, 1) := by decide +kernel
theorem dX15_feed_98 : decode cX15_feed 98 = .ok (.ishr, 1) := by decide +kernel
theorem dX15_feed_99 : decode cX15_feed 99 = .ok (.i2b, 1) := by decide +kernel
theorem dX15_feed_100 : decode cX15_feed 100 = .ok (.bastore, 1) := by decide +kernel
theorem dX15_feed_101 : decode cX15_feed 101 = .ok (.aload_n 0, 1) := by decide +kernel
theorem dX15_feed_102 : decode cX15_feed 102 = .ok (.dup, 1) := by decide +kernel
theorem dX15_feed_103 : decode cX15_feed 103 = .ok (.getfield 466, 3) := by decide +kernel
theorem dX15_feed_106 : decode cX15_feed 106 = .ok (.iconst 1, 1) := by decide +kernel
theorem dX15_feed_107 : decode cX15_feed 107 = .ok (.iadd, 1) := by decide +kernel
theorem dX15_feed_108 : decode cX15_feed 108 = .ok (.putfield 466, 3) := by decide +kernel
theorem dX15_feed_111 : decode cX15_feed 111 = .ok (.iinc 6 1, 3) := by decide +kernel
theorem dX15_feed_114 : decode cX15_feed 114 = .ok (.goto (-91), 3) := by decide +kernel
theorem dX15_feed_117 : decode cX15_feed 117 = .ok (.aload_n 0, 1) := by decide +kernel
theorem dX15_feed_118 : decode cX15_feed 118 = .ok (.getfield 466, 3) := by decide +kernel
theorem dX15_feed_121 : decode cX15_feed 121 = .ok (.ireturn, 1) := by decide +kernel
def f_X15_feed_b76 (rec_23 : TH → Nat → Int32 → Int32 → Int32 → Int32 → Int32 → Int32 → Option (Int32 × TH)) (σ : TH) (l0 : Nat) (l1 : Int32) (l2 : Int32) (l3 : Int32) (l4 : Int32) (l5 : Int32) (l6 : Int32) (t0 : Int32) : Option (Int32 × TH) :=
  gt_ (kd_ σ l0 = 17) <| lt_ (fr_ σ 1626 l0) fun r4 => lt_ (fi_ σ 1630 l0) fun x5 => gt_ (¬ (4 : Int32) = 0) <| nn_ r4 fun a6 => gt_ (kd_ σ a6 = 21) <| gt_ (¬ (x5 < 0 ∨ ln_ σ a6 ≤ x5.toNatClampNeg)) <| lt_ (sa_ σ a6 x5.toNatClampNeg (vp_nar .byte ((Int32.toInt8 (t0 >>> (((24 : Int32) - ((8 : Int32) * (l6 - l6 / (4 : Int32) * (4 : Int32)))) &&& 31))).toInt32))) fun s7 => lt_ (fi_ s7 1630 l0) fun x8 => lt_ (si_ s7 1630 l0 (x8 + (1 : Int32))) fun s9 => lt_ (l6 + 1) fun x10 => rec_23 s9 l0 l1 l2 l3 l4 l5 x10
set_option maxHeartbeats 4000000 in
set_option maxRecDepth 100000 in
theorem t_X15_feed_b76 {l : Launch} {D : va_G} {cy : Nat → ClassId} {ka : Nat → Nat} {σ0 z : TH} {r : Int32} {rec_23 : TH → Nat → Int32 → Int32 → Int32 → Int32 → Int32 → Int32 → Option (Int32 × TH)} (hrec_23 : ∀ (σ : TH) (l0 : Nat) (l1 : Int32) (l2 : Int32) (l3 : Int32) (l4 : Int32) (l5 : Int32) (l6 : Int32), rec_23 σ l0 l1 l2 l3 l4 l5 l6 = some (r, z) → v_ l D cy ka cX15_feed RX15 8 (some FieldType.int) "feed" 0 0 (qf_ D cy σ0 z (some (.int r))) σ0 z σ 23 [(0, va_rf (some l0)), (1, .int l1), (2, .int l2), (3, .int l3), (4, .int l4), (5, .int l5), (6, .int l6)] []) {σ : TH} {l0 : Nat} {l1 : Int32} {l2 : Int32} {l3 : Int32} {l4 : Int32} {l5 : Int32} {l6 : Int32} {t0 : Int32} (hf : f_X15_feed_b76 rec_23 σ l0 l1 l2 l3 l4 l5 l6 t0 = some (r, z)) : v_ l D cy ka cX15_feed RX15 8 (some FieldType.int) "feed" 0 0 (qf_ D cy σ0 z (some (.int r))) σ0 z σ 76 [(0, va_rf (some l0)), (1, .int l1), (2, .int l2), (3, .int l3), (4, .int l4), (5, .int l5), (6, .int l6)] [.int t0] := by
  unfold f_X15_feed_b76 at hf
  refine v_istore [(7, .int t0), (0, va_rf (some l0)), (1, .int l1), (2, .int l2), (3, .int l3), (4, .int l4), (5, .int l5), (6, .int l6)] dX15_feed_76 (by decide) rfl ?_
  refine v_aload_n (x := (some l0)) dX15_feed_78 rfl 1 rfl ?_
  obtain ⟨hk_l0, hf⟩ := gt_of hf
  refine v_getr cb_16 hk_l0 26 1626 rfl (by decide) rfl (lk_n kw_1483 rfl) hf dX15_feed_79 (fun r4 hf => ?_)
  refine v_aload_n (x := (some l0)) dX15_feed_82 rfl 1 rfl ?_
  refine v_geti cb_16 hk_l0 30 1630 rfl (by decide) rfl (lk_n kw_1487 rfl) hf dX15_feed_83 (fun x5 hf => ?_)
  refine v_iload (x := t0) dX15_feed_86 0 rfl ?_
  refine v_bipush (v := 24) dX15_feed_88 (by decide) ?_
  refine v_bipush (v := 8) dX15_feed_90 (by decide) ?_
  refine v_iload (x := l6) dX15_feed_92 7 rfl ?_
  refine v_iconst (v := 4) dX15_feed_94 (by decide) ?_
  refine v_irem hf dX15_feed_95 (fun hf => ?_)
  refine v_imul dX15_feed_96 ?_
  refine v_isub dX15_feed_97 ?_
  refine v_ishr dX15_feed_98 ?_
  refine v_i2b dX15_feed_99 ?_
  obtain ⟨a6, rfl, hf⟩ := nn_of hf
  obtain ⟨hk_a6, hf⟩ := gt_of hf
  refine v_bast2 hk_a6 hf dX15_feed_100 (fun s7 hts7 hf => ?_)
  have hk_l0 := tk_ hts7 hk_l0
  refine v_aload_n (x := (some l0)) dX15_feed_101 rfl 1 rfl ?_
  refine v_dup dX15_feed_102 (va_rf_cat _) ?_
  refine v_geti cb_16 hk_l0 30 1630 rfl (by decide) rfl (lk_n kw_1487 rfl) hf dX15_feed_103 (fun x8 hf => ?_)
  refine v_iconst (v := 1) dX15_feed_106 (by decide) ?_
  refine v_iadd dX15_feed_107 ?_
  refine v_puti2 cb_16 hk_l0 30 1630 rfl (by decide) rfl (lk_n kw_1487 rfl) (Or.inl rfl) rfl rfl hf dX15_feed_108 (fun s9 hts9 hf => ?_)
  have hk_l0 := tk_ hts9 hk_l0
  obtain ⟨x10, ex10⟩ : ∃ y : Int32, y = l6 + 1 := ⟨_, rfl⟩
  rw [lt_e, ← ex10] at hf
  refine v_iinc (v := x10) [(6, .int x10), (7, .int t0), (0, va_rf (some l0)), (1, .int l1), (2, .int l2), (3, .int l3), (4, .int l4), (5, .int l5)] dX15_feed_111 7 rfl (by rw [ex10]; rfl) (by decide) rfl ?_
  refine v_goto (tgt := 23) dX15_feed_114 (by decide) ?_
  refine v_sub [2, 3, 4, 5, 6, 7, 0] (L2 := [(0, va_rf (some l0)), (1, .int l1), (2, .int l2), (3, .int l3), (4, .int l4), (5, .int l5), (6, .int x10)]) rfl ?_
  exact hrec_23 _ _ _ _ _ _ _ _ hf
def f_X15_feed_b23 : Nat → TH → Nat → Int32 → Int32 → Int32 → Int32 → Int32 → Int32 → Option (Int32 × TH)
  | 0, _, _, _, _, _, _, _, _ => none
  | n + 1, σ, l0, l1, l2, l3, l4, l5, l6 => if (20 : Int32) ≤ l6 then (gt_ (kd_ σ l0 = 17) <| lt_ (fi_ σ 1630 l0) fun x3 => some (x3, σ)) else (if (4 : Int32) ≤ l6 then (if (8 : Int32) ≤ l6 then (if (12 : Int32) ≤ l6 then (if (16 : Int32) ≤ l6 then (f_X15_feed_b76 (f_X15_feed_b23 n) σ l0 l1 l2 l3 l4 l5 l6 l5) else (f_X15_feed_b76 (f_X15_feed_b23 n) σ l0 l1 l2 l3 l4 l5 l6 l4)) else (f_X15_feed_b76 (f_X15_feed_b23 n) σ l0 l1 l2 l3 l4 l5 l6 l3)) else (f_X15_feed_b76 (f_X15_feed_b23 n) σ l0 l1 l2 l3 l4 l5 l6 l2)) else (f_X15_feed_b76 (f_X15_feed_b23 n) σ l0 l1 l2 l3 l4 l5 l6 l1))
set_option maxHeartbeats 4000000 in
set_option maxRecDepth 100000 in
theorem t_X15_feed_b23 {l : Launch} {D : va_G} {cy : Nat → ClassId} {ka : Nat → Nat} {σ0 z : TH} {r : Int32}  : ∀ (n : Nat) (σ : TH) (l0 : Nat) (l1 : Int32) (l2 : Int32) (l3 : Int32) (l4 : Int32) (l5 : Int32) (l6 : Int32), f_X15_feed_b23 n σ l0 l1 l2 l3 l4 l5 l6 = some (r, z) → v_ l D cy ka cX15_feed RX15 8 (some FieldType.int) "feed" 0 0 (qf_ D cy σ0 z (some (.int r))) σ0 z σ 23 [(0, va_rf (some l0)), (1, .int l1), (2, .int l2), (3, .int l3), (4, .int l4), (5, .int l5), (6, .int l6)] [] := by
  intro n
  induction n with
  | zero => intro σ l0 l1 l2 l3 l4 l5 l6 hf; unfold f_X15_feed_b23 at hf; cases hf
  | succ n ih =>
    intro σ l0 l1 l2 l3 l4 l5 l6 hf
    unfold f_X15_feed_b23 at hf
    have hrec_23 := ih
    refine v_iload (x := l6) dX15_feed_23 6 rfl ?_
    refine v_bipush (v := 20) dX15_feed_25 (by decide) ?_
    refine v_icmp_ge (tgt := 117) hf dX15_feed_27 (by decide) (fun hq hf => ?_) (fun hq hf => ?_)
    · refine v_aload_n (x := (some l0)) dX15_feed_117 rfl 0 rfl ?_
      obtain ⟨hk_l0, hf⟩ := gt_of hf
      refine v_geti cb_16 hk_l0 30 1630 rfl (by decide) rfl (lk_n kw_1487 rfl) hf dX15_feed_118 (fun x3 hf => ?_)
      exact v_iret hf dX15_feed_121
    · refine v_iload (x := l6) dX15_feed_30 6 rfl ?_
      refine v_iconst (v := 4) dX15_feed_32 (by decide) ?_
      refine v_icmp_ge (tgt := 40) hf dX15_feed_33 (by decide) (fun hq hf => ?_) (fun hq hf => ?_)
      · refine v_iload (x := l6) dX15_feed_40 6 rfl ?_
        refine v_bipush (v := 8) dX15_feed_42 (by decide) ?_
        refine v_icmp_ge (tgt := 51) hf dX15_feed_44 (by decide) (fun hq hf => ?_) (fun hq hf => ?_)
        · refine v_iload (x := l6) dX15_feed_51 6 rfl ?_
          refine v_bipush (v := 12) dX15_feed_53 (by decide) ?_
          refine v_icmp_ge (tgt := 62) hf dX15_feed_55 (by decide) (fun hq hf => ?_) (fun hq hf => ?_)
          · refine v_iload (x := l6) dX15_feed_62 6 rfl ?_
            refine v_bipush (v := 16) dX15_feed_64 (by decide) ?_
            refine v_icmp_ge (tgt := 74) hf dX15_feed_66 (by decide) (fun hq hf => ?_) (fun hq hf => ?_)
            · refine v_iload (x := l5) dX15_feed_74 5 rfl ?_
              refine v_sub [0, 1, 2, 3, 4, 5, 6] (L2 := [(0, va_rf (some l0)), (1, .int l1), (2, .int l2), (3, .int l3), (4, .int l4), (5, .int l5), (6, .int l6)]) rfl ?_
              exact t_X15_feed_b76 hrec_23 hf
            · refine v_iload (x := l4) dX15_feed_69 4 rfl ?_
              refine v_goto (tgt := 76) dX15_feed_71 (by decide) ?_
              refine v_sub [0, 1, 2, 3, 4, 5, 6] (L2 := [(0, va_rf (some l0)), (1, .int l1), (2, .int l2), (3, .int l3), (4, .int l4), (5, .int l5), (6, .int l6)]) rfl ?_
              exact t_X15_feed_b76 hrec_23 hf
          · refine v_iload_n (x := l3) dX15_feed_58 rfl 3 rfl ?_
            refine v_goto (tgt := 76) dX15_feed_59 (by decide) ?_
            refine v_sub [0, 1, 2, 3, 4, 5, 6] (L2 := [(0, va_rf (some l0)), (1, .int l1), (2, .int l2), (3, .int l3), (4, .int l4), (5, .int l5), (6, .int l6)]) rfl ?_
            exact t_X15_feed_b76 hrec_23 hf
        · refine v_iload_n (x := l2) dX15_feed_47 rfl 2 rfl ?_
          refine v_goto (tgt := 76) dX15_feed_48 (by decide) ?_
          refine v_sub [0, 1, 2, 3, 4, 5, 6] (L2 := [(0, va_rf (some l0)), (1, .int l1), (2, .int l2), (3, .int l3), (4, .int l4), (5, .int l5), (6, .int l6)]) rfl ?_
          exact t_X15_feed_b76 hrec_23 hf
      · refine v_iload_n (x := l1) dX15_feed_36 rfl 1 rfl ?_
        refine v_goto (tgt := 76) dX15_feed_37 (by decide) ?_
        refine v_sub [0, 1, 2, 3, 4, 5, 6] (L2 := [(0, va_rf (some l0)), (1, .int l1), (2, .int l2), (3, .int l3), (4, .int l4), (5, .int l5), (6, .int l6)]) rfl ?_
        exact t_X15_feed_b76 hrec_23 hf
/-- LivesAheadModel.feed(IIIII)I -/
def f_X15_feed (σ : TH) (p0 : Nat) (p1 : Int32) (p2 : Int32) (p3 : Int32) (p4 : Int32) (p5 : Int32) : Option (Int32 × TH) :=
  gt_ (kd_ σ p0 = 17) <| lt_ (si_ σ 1600 p0 (0 : Int32)) fun s1 => lt_ (fi_ s1 1630 p0) fun x2 => if (x2 + (20 : Int32)) ≤ (400 : Int32) then (f_X15_feed_b23 fu_ s1 p0 p1 p2 p3 p4 p5 (0 : Int32)) else (some ((-1 : Int32), s1))
set_option maxHeartbeats 4000000 in
set_option maxRecDepth 100000 in
theorem c_X15_feed {l : Launch} {D : va_G} {cy : Nat → ClassId} {ka : Nat → Nat} {σ z : TH} {p0 : Nat} {p1 : Int32} {p2 : Int32} {p3 : Int32} {p4 : Int32} {p5 : Int32} {r : Int32} (hf : f_X15_feed σ p0 p1 p2 p3 p4 p5 = some (r, z)) : ct_ l D cy ka yX15_feed 0 0 [va_rf (some p0), .int p1, .int p2, .int p3, .int p4, .int p5] σ (some (.int r)) z := by
  unfold f_X15_feed at hf
  refine v_start (cc := cX15_feed) (own := RX15) (maxL := 8) (ret := (some FieldType.int)) (nm := "feed") (by decide +kernel) kw_1856 rfl rfl (by simp [lg_sl, va_rf_cat, cat_i, cat_l]) ?_
  refine v_eqL (L2 := [(0, va_rf (some p0)), (1, .int p1), (2, .int p2), (3, .int p3), (4, .int p4), (5, .int p5)]) (by simp [lv_args, va_rf_cat, cat_i, cat_l]) ?_
  refine v_aload_n (x := (some p0)) dX15_feed_0 rfl 0 rfl ?_
  refine v_iconst (v := 0) dX15_feed_1 (by decide) ?_
  obtain ⟨hk_p0, hf⟩ := gt_of hf
  refine v_puti2 cb_16 hk_p0 0 1600 rfl (by decide) rfl (lk_n kw_1457 rfl) (Or.inl rfl) rfl rfl hf dX15_feed_2 (fun s1 hts1 hf => ?_)
  have hk_p0 := tk_ hts1 hk_p0
  refine v_aload_n (x := (some p0)) dX15_feed_5 rfl 0 rfl ?_
  refine v_geti cb_16 hk_p0 30 1630 rfl (by decide) rfl (lk_n kw_1487 rfl) hf dX15_feed_6 (fun x2 hf => ?_)
  refine v_bipush (v := 20) dX15_feed_9 (by decide) ?_
  refine v_iadd dX15_feed_11 ?_
  refine v_sipush (v := 400) dX15_feed_12 (by decide) ?_
  refine v_icmp_le (tgt := 20) hf dX15_feed_15 (by decide) (fun hq hf => ?_) (fun hq hf => ?_)
  · refine v_iconst (v := 0) dX15_feed_20 (by decide) ?_
    refine v_istore [(6, .int (0 : Int32)), (0, va_rf (some p0)), (1, .int p1), (2, .int p2), (3, .int p3), (4, .int p4), (5, .int p5)] dX15_feed_21 (by decide) rfl ?_
    refine v_sub [1, 2, 3, 4, 5, 6, 0] (L2 := [(0, va_rf (some p0)), (1, .int p1), (2, .int p2), (3, .int p3), (4, .int p4), (5, .int p5), (6, .int (0 : Int32))]) rfl ?_
    exact t_X15_feed_b23  _ _ _ _ _ _ _ _ _ hf
  · refine v_iconst (v := (-1)) dX15_feed_18 (by decide) ?_
    exact v_iret hf dX15_feed_19
theorem dX15_fits_0 : decode cX15_fits 0 = .ok (.aload_n 0, 1) := by decide +kernel
theorem dX15_fits_1 : decode cX15_fits 1 = .ok (.iconst 0, 1) := by decide +kernel
theorem dX15_fits_2 : decode cX15_fits 2 = .ok (.putfield 1, 3) := by decide +kernel
theorem dX15_fits_5 : decode cX15_fits 5 = .ok (.iload_n 1, 1) := by decide +kernel
theorem dX15_fits_6 : decode cX15_fits 6 = .ok (.ifCond .lt 19, 3) := by decide +kernel
theorem dX15_fits_9 : decode cX15_fits 9 = .ok (.iload_n 1, 1) := by decide +kernel
theorem dX15_fits_10 : decode cX15_fits 10 = .ok (.aload_n 0, 1) := by decide +kernel
theorem dX15_fits_11 : decode cX15_fits 11 = .ok (.getfield 540, 3) := by decide +kernel
theorem dX15_fits_14 : decode cX15_fits 14 = .ok (.if_icmp .ge 11, 3) := by decide +kernel
theorem dX15_fits_17 : decode cX15_fits 17 = .ok (.aload_n 0, 1) := by decide +kernel
theorem dX15_fits_18 : decode cX15_fits 18 = .ok (.iload_n 1, 1) := by decide +kernel
theorem dX15_fits_19 : decode cX15_fits 19 = .ok (.invokevirtual 550, 3) := by decide +kernel
theorem dX15_fits_22 : decode cX15_fits 22 = .ok (.goto 4, 3) := by decide +kernel
theorem dX15_fits_25 : decode cX15_fits 25 = .ok (.iconst (-1), 1) := by decide +kernel
theorem dX15_fits_26 : decode cX15_fits 26 = .ok (.ireturn, 1) := by decide +kernel
def f_X15_fits_b26 (σ : TH) (t0 : Int32) : Option (Int32 × TH) :=
  some (t0, σ)
set_option maxHeartbeats 4000000 in
set_option maxRecDepth 100000 in
theorem t_X15_fits_b26 {l : Launch} {D : va_G} {cy : Nat → ClassId} {ka : Nat → Nat} {σ0 z : TH} {r : Int32}  {σ : TH} {t0 : Int32} (hf : f_X15_fits_b26 σ t0 = some (r, z)) : v_ l D cy ka cX15_fits RX15 2 (some FieldType.int) "fits" 3 74 (qf_ D cy σ0 z (some (.int r))) σ0 z σ 26 [] [.int t0] := by
  unfold f_X15_fits_b26 at hf
  exact v_iret hf dX15_fits_26
def f_X15_fits_b25 (σ : TH) : Option (Int32 × TH) :=
  f_X15_fits_b26 σ (-1 : Int32)
set_option maxHeartbeats 4000000 in
set_option maxRecDepth 100000 in
theorem t_X15_fits_b25 {l : Launch} {D : va_G} {cy : Nat → ClassId} {ka : Nat → Nat} {σ0 z : TH} {r : Int32}  {σ : TH}  (hf : f_X15_fits_b25 σ  = some (r, z)) : v_ l D cy ka cX15_fits RX15 2 (some FieldType.int) "fits" 3 74 (qf_ D cy σ0 z (some (.int r))) σ0 z σ 25 [] [] := by
  unfold f_X15_fits_b25 at hf
  refine v_iconst (v := (-1)) dX15_fits_25 (by decide) ?_
  refine v_sub [] (L2 := []) rfl ?_
  exact t_X15_fits_b26  hf
/-- LivesAheadModel.fits(I)I -/
def f_X15_fits (σ : TH) (p0 : Nat) (p1 : Int32) : Option (Int32 × TH) :=
  gt_ (kd_ σ p0 = 17) <| lt_ (si_ σ 1600 p0 (0 : Int32)) fun s1 => if p1 < 0 then (f_X15_fits_b25 s1 ) else (lt_ (fi_ s1 1659 p0) fun x2 => if x2 ≤ p1 then (f_X15_fits_b25 s1 ) else (bd_ (f_X15_personOf s1 p0 p1) fun x3 s4 => f_X15_fits_b26 s4 x3))
set_option maxHeartbeats 4000000 in
set_option maxRecDepth 100000 in
theorem c_X15_fits {l : Launch} {D : va_G} {cy : Nat → ClassId} {ka : Nat → Nat} {σ z : TH} {p0 : Nat} {p1 : Int32} {r : Int32} (hf : f_X15_fits σ p0 p1 = some (r, z)) : ct_ l D cy ka yX15_fits 3 74 [va_rf (some p0), .int p1] σ (some (.int r)) z := by
  unfold f_X15_fits at hf
  refine v_start (cc := cX15_fits) (own := RX15) (maxL := 2) (ret := (some FieldType.int)) (nm := "fits") (by decide +kernel) kw_2129 rfl rfl (by simp [lg_sl, va_rf_cat, cat_i, cat_l]) ?_
  refine v_eqL (L2 := [(0, va_rf (some p0)), (1, .int p1)]) (by simp [lv_args, va_rf_cat, cat_i, cat_l]) ?_
  refine v_aload_n (x := (some p0)) dX15_fits_0 rfl 0 rfl ?_
  refine v_iconst (v := 0) dX15_fits_1 (by decide) ?_
  obtain ⟨hk_p0, hf⟩ := gt_of hf
  refine v_puti2 cb_16 hk_p0 0 1600 rfl (by decide) rfl (lk_n kw_1457 rfl) (Or.inl rfl) rfl rfl hf dX15_fits_2 (fun s1 hts1 hf => ?_)
  have hk_p0 := tk_ hts1 hk_p0
  refine v_iload_n (x := p1) dX15_fits_5 rfl 1 rfl ?_
  refine v_if_lt (tgt := 25) hf dX15_fits_6 (by decide) (fun hq hf => ?_) (fun hq hf => ?_)
  · refine v_sub [] (L2 := []) rfl ?_
    exact t_X15_fits_b25  hf
  · refine v_iload_n (x := p1) dX15_fits_9 rfl 1 rfl ?_
    refine v_aload_n (x := (some p0)) dX15_fits_10 rfl 0 rfl ?_
    refine v_geti cb_16 hk_p0 59 1659 rfl (by decide) rfl (lk_n kw_1516 rfl) hf dX15_fits_11 (fun x2 hf => ?_)
    refine v_icmp_ge (tgt := 25) hf dX15_fits_14 (by decide) (fun hq hf => ?_) (fun hq hf => ?_)
    · refine v_sub [] (L2 := []) rfl ?_
      exact t_X15_fits_b25  hf
    · refine v_aload_n (x := (some p0)) dX15_fits_17 rfl 0 rfl ?_
      refine v_iload_n (x := p1) dX15_fits_18 rfl 1 rfl ?_
      obtain ⟨x3, s4, hcs4, hf⟩ := bd_of hf
      have hts4 := c_X15_personOf (l := l) (D := D) (cy := cy) (ka := ka) hcs4
      refine v_callV cb_16 hk_p0 (As := [.int p1]) (rest := []) hts4 yb_X15_personOf kw_1978 kw_1980 kp_113 rfl ⟨Nat.le_of_ble_eq_true rfl, Nat.le_of_ble_eq_true rfl⟩ rfl (cat_len (Nat.le_of_ble_eq_true rfl)) dX15_fits_19 ?_
      have hk_p0 := tk_ hts4.1 hk_p0
      show v_ l D cy ka cX15_fits RX15 2 (some FieldType.int) "fits" 3 74 (qf_ D cy σ z (some (.int r))) σ z _ 22 [(0, va_rf (some p0)), (1, .int p1)] [.int x3]
      refine v_goto (tgt := 26) dX15_fits_22 (by decide) ?_
      refine v_sub [] (L2 := []) rfl ?_
      exact t_X15_fits_b26  hf
theorem dX15_fresh_0 : decode cX15_fresh 0 = .ok (.aload_n 0, 1) := by decide +kernel
theorem dX15_fresh_1 : decode cX15_fresh 1 = .ok (.iconst 0, 1) := by decide +kernel
theorem dX15_fresh_2 : decode cX15_fresh 2 = .ok (.putfield 1, 3) := by decide +kernel
theorem dX15_fresh_5 : decode cX15_fresh 5 = .ok (.iload_n 1, 1) := by decide +kernel
theorem dX15_fresh_6 : decode cX15_fresh 6 = .ok (.ifCond .lt 20, 3) := by decide +kernel
theorem dX15_fresh_9 : decode cX15_fresh 9 = .ok (.iload_n 1, 1) := by decide +kernel
theorem dX15_fresh_10 : decode cX15_fresh 10 = .ok (.aload_n 0, 1) := by decide +kernel
theorem dX15_fresh_11 : decode cX15_fresh 11 = .ok (.getfield 615, 3) := by decide +kernel
theorem dX15_fresh_14 : decode cX15_fresh 14 = .ok (.if_icmp .ge 12, 3) := by decide +kernel
theorem dX15_fresh_17 : decode cX15_fresh 17 = .ok (.aload_n 0, 1) := by decide +kernel
theorem dX15_fresh_18 : decode cX15_fresh 18 = .ok (.getfield 182, 3) := by decide +kernel
theorem dX15_fresh_21 : decode cX15_fresh 21 = .ok (.iload_n 1, 1) := by decide +kernel
theorem dX15_fresh_22 : decode cX15_fresh 22 = .ok (.iaload, 1) := by decide +kernel
theorem dX15_fresh_23 : decode cX15_fresh 23 = .ok (.goto 4, 3) := by decide +kernel
theorem dX15_fresh_26 : decode cX15_fresh 26 = .ok (.iconst (-1), 1) := by decide +kernel
theorem dX15_fresh_27 : decode cX15_fresh 27 = .ok (.ireturn, 1) := by decide +kernel
def f_X15_fresh_b27 (σ : TH) (t0 : Int32) : Option (Int32 × TH) :=
  some (t0, σ)
set_option maxHeartbeats 4000000 in
set_option maxRecDepth 100000 in
theorem t_X15_fresh_b27 {l : Launch} {D : va_G} {cy : Nat → ClassId} {ka : Nat → Nat} {σ0 z : TH} {r : Int32}  {σ : TH} {t0 : Int32} (hf : f_X15_fresh_b27 σ t0 = some (r, z)) : v_ l D cy ka cX15_fresh RX15 2 (some FieldType.int) "fresh" 0 0 (qf_ D cy σ0 z (some (.int r))) σ0 z σ 27 [] [.int t0] := by
  unfold f_X15_fresh_b27 at hf
  exact v_iret hf dX15_fresh_27
def f_X15_fresh_b26 (σ : TH) : Option (Int32 × TH) :=
  f_X15_fresh_b27 σ (-1 : Int32)
set_option maxHeartbeats 4000000 in
set_option maxRecDepth 100000 in
theorem t_X15_fresh_b26 {l : Launch} {D : va_G} {cy : Nat → ClassId} {ka : Nat → Nat} {σ0 z : TH} {r : Int32}  {σ : TH}  (hf : f_X15_fresh_b26 σ  = some (r, z)) : v_ l D cy ka cX15_fresh RX15 2 (some FieldType.int) "fresh" 0 0 (qf_ D cy σ0 z (some (.int r))) σ0 z σ 26 [] [] := by
  unfold f_X15_fresh_b26 at hf
  refine v_iconst (v := (-1)) dX15_fresh_26 (by decide) ?_
  refine v_sub [] (L2 := []) rfl ?_
  exact t_X15_fresh_b27  hf
/-- LivesAheadModel.fresh(I)I -/
def f_X15_fresh (σ : TH) (p0 : Nat) (p1 : Int32) : Option (Int32 × TH) :=
  gt_ (kd_ σ p0 = 17) <| lt_ (si_ σ 1600 p0 (0 : Int32)) fun s1 => if p1 < 0 then (f_X15_fresh_b26 s1 ) else (lt_ (fi_ s1 1686 p0) fun x2 => if x2 ≤ p1 then (f_X15_fresh_b26 s1 ) else (lt_ (fr_ s1 1684 p0) fun r3 => nn_ r3 fun a4 => gt_ (kd_ s1 a4 = 20) <| gt_ (¬ (p1 < 0 ∨ ln_ s1 a4 ≤ p1.toNatClampNeg)) <| lt_ (ai_ s1 a4 p1.toNatClampNeg) fun x5 => f_X15_fresh_b27 s1 x5))
set_option maxHeartbeats 4000000 in
set_option maxRecDepth 100000 in
theorem c_X15_fresh {l : Launch} {D : va_G} {cy : Nat → ClassId} {ka : Nat → Nat} {σ z : TH} {p0 : Nat} {p1 : Int32} {r : Int32} (hf : f_X15_fresh σ p0 p1 = some (r, z)) : ct_ l D cy ka yX15_fresh 0 0 [va_rf (some p0), .int p1] σ (some (.int r)) z := by
  unfold f_X15_fresh at hf
  refine v_start (cc := cX15_fresh) (own := RX15) (maxL := 2) (ret := (some FieldType.int)) (nm := "fresh") (by decide +kernel) kw_2262 rfl rfl (by simp [lg_sl, va_rf_cat, cat_i, cat_l]) ?_
  refine v_eqL (L2 := [(0, va_rf (some p0)), (1, .int p1)]) (by simp [lv_args, va_rf_cat, cat_i, cat_l]) ?_
  refine v_aload_n (x := (some p0)) dX15_fresh_0 rfl 0 rfl ?_
  refine v_iconst (v := 0) dX15_fresh_1 (by decide) ?_
  obtain ⟨hk_p0, hf⟩ := gt_of hf
  refine v_puti2 cb_16 hk_p0 0 1600 rfl (by decide) rfl (lk_n kw_1457 rfl) (Or.inl rfl) rfl rfl hf dX15_fresh_2 (fun s1 hts1 hf => ?_)
  have hk_p0 := tk_ hts1 hk_p0
  refine v_iload_n (x := p1) dX15_fresh_5 rfl 1 rfl ?_
  refine v_if_lt (tgt := 26) hf dX15_fresh_6 (by decide) (fun hq hf => ?_) (fun hq hf => ?_)
  · refine v_sub [] (L2 := []) rfl ?_
    exact t_X15_fresh_b26  hf
  · refine v_iload_n (x := p1) dX15_fresh_9 rfl 1 rfl ?_
    refine v_aload_n (x := (some p0)) dX15_fresh_10 rfl 0 rfl ?_
    refine v_geti cb_16 hk_p0 86 1686 rfl (by decide) rfl (lk_n kw_1543 rfl) hf dX15_fresh_11 (fun x2 hf => ?_)
    refine v_icmp_ge (tgt := 26) hf dX15_fresh_14 (by decide) (fun hq hf => ?_) (fun hq hf => ?_)
    · refine v_sub [] (L2 := []) rfl ?_
      exact t_X15_fresh_b26  hf
    · refine v_aload_n (x := (some p0)) dX15_fresh_17 rfl 0 rfl ?_
      refine v_getr cb_16 hk_p0 84 1684 rfl (by decide) rfl (lk_n kw_1541 rfl) hf dX15_fresh_18 (fun r3 hf => ?_)
      refine v_iload_n (x := p1) dX15_fresh_21 rfl 1 rfl ?_
      obtain ⟨a4, rfl, hf⟩ := nn_of hf
      obtain ⟨hk_a4, hf⟩ := gt_of hf
      refine v_iald hk_a4 hf dX15_fresh_22 (fun x5 hf => ?_)
      refine v_goto (tgt := 27) dX15_fresh_23 (by decide) ?_
      refine v_sub [] (L2 := []) rfl ?_
      exact t_X15_fresh_b27  hf
theorem dX15_freshen_0 : decode cX15_freshen 0 = .ok (.aload_n 0, 1) := by decide +kernel
theorem dX15_freshen_1 : decode cX15_freshen 1 = .ok (.iconst 0, 1) := by decide +kernel
theorem dX15_freshen_2 : decode cX15_freshen 2 = .ok (.putfield 1, 3) := by decide +kernel
theorem dX15_freshen_5 : decode cX15_freshen 5 = .ok (.iconst 0, 1) := by decide +kernel
theorem dX15_freshen_6 : decode cX15_freshen 6 = .ok (.istore_n 1, 1) := by decide +kernel
theorem dX15_freshen_7 : decode cX15_freshen 7 = .ok (.iconst 0, 1) := by decide +kernel
theorem dX15_freshen_8 : decode cX15_freshen 8 = .ok (.istore_n 2, 1) := by decide +kernel
theorem dX15_freshen_9 : decode cX15_freshen 9 = .ok (.iload_n 2, 1) := by decide +kernel
theorem dX15_freshen_10 : decode cX15_freshen 10 = .ok (.aload_n 0, 1) := by decide +kernel
theorem dX15_freshen_11 : decode cX15_freshen 11 = .ok (.getfield 615, 3) := by decide +kernel
theorem dX15_freshen_14 : decode cX15_freshen 14 = .ok (.if_icmp .ge 67, 3) := by decide +kernel
theorem dX15_freshen_17 : decode cX15_freshen 17 = .ok (.iconst 0, 1) := by decide +kernel
theorem dX15_freshen_18 : decode cX15_freshen 18 = .ok (.istore_n 3, 1) := by decide +kernel
theorem dX15_freshen_19 : decode cX15_freshen 19 = .ok (.iload_n 3, 1) := by decide +kernel
theorem dX15_freshen_20 : decode cX15_freshen 20 = .ok (.bipush 10, 2) := by decide +kernel
theorem dX15_freshen_22 : decode cX15_freshen 22 = .ok (.if_icmp .ge 53, 3) := by decide +kernel
theorem dX15_freshen_25 : decode cX15_freshen 25 = .ok (.aload_n 0, 1) := by decide +kernel
theorem dX15_freshen_26 : decode cX15_freshen 26 = .ok (.aload_n 0, 1) := by decide +kernel
theorem dX15_freshen_27 : decode cX15_freshen 27 = .ok (.getfield 182, 3) := by decide +kernel
theorem dX15_freshen_30 : decode cX15_freshen 30 = .ok (.iload_n 2, 1) := by decide +kernel
theorem dX15_freshen_31 : decode cX15_freshen 31 = .ok (.iaload, 1) := by decide +kernel
theorem dX15_freshen_32 : decode cX15_freshen 32 = .ok (.iload_n 3, 1) := by decide +kernel
theorem dX15_freshen_33 : decode cX15_freshen 33 = .ok (.aload_n 0, 1) := by decide +kernel
theorem dX15_freshen_34 : decode cX15_freshen 34 = .ok (.invokevirtual 230, 3) := by decide +kernel
theorem dX15_freshen_37 : decode cX15_freshen 37 = .ok (.invokevirtual 259, 3) := by decide +kernel
theorem dX15_freshen_40 : decode cX15_freshen 40 = .ok (.ifCond .ne 6, 3) := by decide +kernel
theorem dX15_freshen_43 : decode cX15_freshen 43 = .ok (.goto 26, 3) := by decide +kernel
theorem dX15_freshen_46 : decode cX15_freshen 46 = .ok (.aload_n 0, 1) := by decide +kernel
theorem dX15_freshen_47 : decode cX15_freshen 47 = .ok (.getfield 54, 3) := by decide +kernel
theorem dX15_freshen_50 : decode cX15_freshen 50 = .ok (.bipush 10, 2) := by decide +kernel
theorem dX15_freshen_52 : decode cX15_freshen 52 = .ok (.aload_n 0, 1) := by decide +kernel
theorem dX15_freshen_53 : decode cX15_freshen 53 = .ok (.getfield 182, 3) := by decide +kernel
theorem dX15_freshen_56 : decode cX15_freshen 56 = .ok (.iload_n 2, 1) := by decide +kernel
theorem dX15_freshen_57 : decode cX15_freshen 57 = .ok (.iaload, 1) := by decide +kernel
theorem dX15_freshen_58 : decode cX15_freshen 58 = .ok (.imul, 1) := by decide +kernel
theorem dX15_freshen_59 : decode cX15_freshen 59 = .ok (.iload_n 3, 1) := by decide +kernel
theorem dX15_freshen_60 : decode cX15_freshen 60 = .ok (.iadd, 1) := by decide +kernel
theorem dX15_freshen_61 : decode cX15_freshen 61 = .ok (.aload_n 0, 1) := by decide +kernel
theorem dX15_freshen_62 : decode cX15_freshen 62 = .ok (.invokevirtual 230, 3) := by decide +kernel
theorem dX15_freshen_65 : decode cX15_freshen 65 = .ok (.iastore, 1) := by decide +kernel
theorem dX15_freshen_66 : decode cX15_freshen 66 = .ok (.iinc 1 1, 3) := by decide +kernel
theorem dX15_freshen_69 : decode cX15_freshen 69 = .ok (.iinc 3 1, 3) := by decide +kernel
theorem dX15_freshen_72 : decode cX15_freshen 72 = .ok (.goto (-53), 3) := by decide +kernel
theorem dX15_freshen_75 : decode cX15_freshen 75 = .ok (.iinc 2 1, 3) := by decide +kernel
theorem dX15_freshen_78 : decode cX15_freshen 78 = .ok (.goto (-69), 3) := by decide +kernel
theorem dX15_freshen_81 : decode cX15_freshen 81 = .ok (.iload_n 1, 1) := by decide +kernel
theorem dX15_freshen_82 : decode cX15_freshen 82 = .ok (.ireturn, 1) := by decide +kernel
def f_X15_freshen_b69 (rec_19 : TH → Nat → Int32 → Int32 → Int32 → Option (Int32 × TH)) (σ : TH) (l0 : Nat) (l1 : Int32) (l2 : Int32) (l3 : Int32) : Option (Int32 × TH) :=
  lt_ (l3 + 1) fun x11 => rec_19 σ l0 l1 l2 x11
set_option maxHeartbeats 4000000 in
set_option maxRecDepth 100000 in
theorem t_X15_freshen_b69 {l : Launch} {D : va_G} {cy : Nat → ClassId} {ka : Nat → Nat} {σ0 z : TH} {r : Int32} {rec_19 : TH → Nat → Int32 → Int32 → Int32 → Option (Int32 × TH)} (hrec_19 : ∀ (σ : TH) (l0 : Nat) (l1 : Int32) (l2 : Int32) (l3 : Int32), rec_19 σ l0 l1 l2 l3 = some (r, z) → v_ l D cy ka cX15_freshen RX15 4 (some FieldType.int) "freshen" 1 23 (qf_ D cy σ0 z (some (.int r))) σ0 z σ 19 [(0, va_rf (some l0)), (1, .int l1), (2, .int l2), (3, .int l3)] []) {σ : TH} {l0 : Nat} {l1 : Int32} {l2 : Int32} {l3 : Int32} (hf : f_X15_freshen_b69 rec_19 σ l0 l1 l2 l3 = some (r, z)) : v_ l D cy ka cX15_freshen RX15 4 (some FieldType.int) "freshen" 1 23 (qf_ D cy σ0 z (some (.int r))) σ0 z σ 69 [(0, va_rf (some l0)), (1, .int l1), (2, .int l2), (3, .int l3)] [] := by
  unfold f_X15_freshen_b69 at hf
  obtain ⟨x11, ex11⟩ : ∃ y : Int32, y = l3 + 1 := ⟨_, rfl⟩
  rw [lt_e, ← ex11] at hf
  refine v_iinc (v := x11) [(3, .int x11), (0, va_rf (some l0)), (1, .int l1), (2, .int l2)] dX15_freshen_69 3 rfl (by rw [ex11]; rfl) (by decide) rfl ?_
  refine v_goto (tgt := 19) dX15_freshen_72 (by decide) ?_
  refine v_sub [1, 2, 3, 0] (L2 := [(0, va_rf (some l0)), (1, .int l1), (2, .int l2), (3, .int x11)]) rfl ?_
  exact hrec_19 _ _ _ _ _ hf
def f_X15_freshen_b19 (rec_9 : TH → Nat → Int32 → Int32 → Option (Int32 × TH)) : Nat → TH → Nat → Int32 → Int32 → Int32 → Option (Int32 × TH)
  | 0, _, _, _, _, _ => none
  | n + 1, σ, l0, l1, l2, l3 => if (10 : Int32) ≤ l3 then (lt_ (l2 + 1) fun x3 => rec_9 σ l0 l1 x3) else (gt_ (kd_ σ l0 = 17) <| lt_ (fr_ σ 1684 l0) fun r4 => nn_ r4 fun a5 => gt_ (kd_ σ a5 = 20) <| gt_ (¬ (l2 < 0 ∨ ln_ σ a5 ≤ l2.toNatClampNeg)) <| lt_ (ai_ σ a5 l2.toNatClampNeg) fun x6 => bd_ (f_X15_today σ l0) fun x7 s8 => bd_ (f_X15_isStale s8 l0 x6 l3 x7) fun x9 s10 => if x9 = 0 then (f_X15_freshen_b69 (f_X15_freshen_b19 rec_9 n) s10 l0 l1 l2 l3) else (lt_ (fr_ s10 1619 l0) fun r12 => lt_ (fr_ s10 1684 l0) fun r13 => nn_ r13 fun a14 => gt_ (kd_ s10 a14 = 20) <| gt_ (¬ (l2 < 0 ∨ ln_ s10 a14 ≤ l2.toNatClampNeg)) <| lt_ (ai_ s10 a14 l2.toNatClampNeg) fun x15 => bd_ (f_X15_today s10 l0) fun x16 s17 => nn_ r12 fun a18 => gt_ (kd_ s17 a18 = 20) <| gt_ (¬ ((((10 : Int32) * x15) + l3) < 0 ∨ ln_ s17 a18 ≤ (((10 : Int32) * x15) + l3 : Int32).toNatClampNeg)) <| lt_ (sa_ s17 a18 ((((10 : Int32) * x15) + l3 : Int32).toNatClampNeg) x16) fun s19 => lt_ (l1 + 1) fun x20 => f_X15_freshen_b69 (f_X15_freshen_b19 rec_9 n) s19 l0 x20 l2 l3))
set_option maxHeartbeats 4000000 in
set_option maxRecDepth 100000 in
theorem t_X15_freshen_b19 {l : Launch} {D : va_G} {cy : Nat → ClassId} {ka : Nat → Nat} {σ0 z : TH} {r : Int32} {rec_9 : TH → Nat → Int32 → Int32 → Option (Int32 × TH)} (hrec_9 : ∀ (σ : TH) (l0 : Nat) (l1 : Int32) (l2 : Int32), rec_9 σ l0 l1 l2 = some (r, z) → v_ l D cy ka cX15_freshen RX15 4 (some FieldType.int) "freshen" 1 23 (qf_ D cy σ0 z (some (.int r))) σ0 z σ 9 [(0, va_rf (some l0)), (1, .int l1), (2, .int l2)] []) : ∀ (n : Nat) (σ : TH) (l0 : Nat) (l1 : Int32) (l2 : Int32) (l3 : Int32), f_X15_freshen_b19 rec_9 n σ l0 l1 l2 l3 = some (r, z) → v_ l D cy ka cX15_freshen RX15 4 (some FieldType.int) "freshen" 1 23 (qf_ D cy σ0 z (some (.int r))) σ0 z σ 19 [(0, va_rf (some l0)), (1, .int l1), (2, .int l2), (3, .int l3)] [] := by
  intro n
  induction n with
  | zero => intro σ l0 l1 l2 l3 hf; unfold f_X15_freshen_b19 at hf; cases hf
  | succ n ih =>
    intro σ l0 l1 l2 l3 hf
    unfold f_X15_freshen_b19 at hf
    have hrec_19 := ih
    refine v_iload_n (x := l3) dX15_freshen_19 rfl 3 rfl ?_
    refine v_bipush (v := 10) dX15_freshen_20 (by decide) ?_
    refine v_icmp_ge (tgt := 75) hf dX15_freshen_22 (by decide) (fun hq hf => ?_) (fun hq hf => ?_)
    · obtain ⟨x3, ex3⟩ : ∃ y : Int32, y = l2 + 1 := ⟨_, rfl⟩
      rw [lt_e, ← ex3] at hf
      refine v_iinc (v := x3) [(2, .int x3), (0, va_rf (some l0)), (1, .int l1), (3, .int l3)] dX15_freshen_75 2 rfl (by rw [ex3]; rfl) (by decide) rfl ?_
      refine v_goto (tgt := 9) dX15_freshen_78 (by decide) ?_
      refine v_sub [1, 2, 0] (L2 := [(0, va_rf (some l0)), (1, .int l1), (2, .int x3)]) rfl ?_
      exact hrec_9 _ _ _ _ hf
    · refine v_aload_n (x := (some l0)) dX15_freshen_25 rfl 0 rfl ?_
      refine v_aload_n (x := (some l0)) dX15_freshen_26 rfl 0 rfl ?_
      obtain ⟨hk_l0, hf⟩ := gt_of hf
      refine v_getr cb_16 hk_l0 84 1684 rfl (by decide) rfl (lk_n kw_1541 rfl) hf dX15_freshen_27 (fun r4 hf => ?_)
      refine v_iload_n (x := l2) dX15_freshen_30 rfl 2 rfl ?_
      obtain ⟨a5, rfl, hf⟩ := nn_of hf
      obtain ⟨hk_a5, hf⟩ := gt_of hf
      refine v_iald hk_a5 hf dX15_freshen_31 (fun x6 hf => ?_)
      refine v_iload_n (x := l3) dX15_freshen_32 rfl 3 rfl ?_
      refine v_aload_n (x := (some l0)) dX15_freshen_33 rfl 0 rfl ?_
      obtain ⟨x7, s8, hcs8, hf⟩ := bd_of hf
      have hts8 := c_X15_today (l := l) (D := D) (cy := cy) (ka := ka) hcs8
      refine v_callV cb_16 hk_l0 (As := []) (rest := [.int l3, .int x6, va_rf (some l0)]) hts8 yb_X15_today kw_1774 kw_1776 kp_84 rfl ⟨Nat.le_of_ble_eq_true rfl, Nat.le_of_ble_eq_true rfl⟩ rfl (cat_len (Nat.le_of_ble_eq_true rfl)) dX15_freshen_34 ?_
      have hk_l0 := tk_ hts8.1 hk_l0
      show v_ l D cy ka cX15_freshen RX15 4 (some FieldType.int) "freshen" 1 23 (qf_ D cy σ0 z (some (.int r))) σ0 z _ 37 [(0, va_rf (some l0)), (1, .int l1), (2, .int l2), (3, .int l3)] [.int x7, .int l3, .int x6, va_rf (some l0)]
      obtain ⟨x9, s10, hcs10, hf⟩ := bd_of hf
      have hts10 := c_X15_isStale (l := l) (D := D) (cy := cy) (ka := ka) hcs10
      refine v_callV cb_16 hk_l0 (As := [.int x6, .int l3, .int x7]) (rest := []) hts10 yb_X15_isStale kw_1801 kw_1803 kp_90 rfl ⟨Nat.le_of_ble_eq_true rfl, Nat.le_of_ble_eq_true rfl⟩ rfl (cat_len (Nat.le_of_ble_eq_true rfl)) dX15_freshen_37 ?_
      have hk_l0 := tk_ hts10.1 hk_l0
      show v_ l D cy ka cX15_freshen RX15 4 (some FieldType.int) "freshen" 1 23 (qf_ D cy σ0 z (some (.int r))) σ0 z _ 40 [(0, va_rf (some l0)), (1, .int l1), (2, .int l2), (3, .int l3)] [.int x9]
      refine v_if_ne (tgt := 46) hf dX15_freshen_40 (by decide) (fun hq hf => ?_) (fun hq hf => ?_)
      · refine v_goto (tgt := 69) dX15_freshen_43 (by decide) ?_
        refine v_sub [0, 1, 2, 3] (L2 := [(0, va_rf (some l0)), (1, .int l1), (2, .int l2), (3, .int l3)]) rfl ?_
        exact t_X15_freshen_b69 hrec_19 hf
      · refine v_aload_n (x := (some l0)) dX15_freshen_46 rfl 0 rfl ?_
        refine v_getr cb_16 hk_l0 19 1619 rfl (by decide) rfl (lk_n kw_1476 rfl) hf dX15_freshen_47 (fun r12 hf => ?_)
        refine v_bipush (v := 10) dX15_freshen_50 (by decide) ?_
        refine v_aload_n (x := (some l0)) dX15_freshen_52 rfl 0 rfl ?_
        refine v_getr cb_16 hk_l0 84 1684 rfl (by decide) rfl (lk_n kw_1541 rfl) hf dX15_freshen_53 (fun r13 hf => ?_)
        refine v_iload_n (x := l2) dX15_freshen_56 rfl 2 rfl ?_
        obtain ⟨a14, rfl, hf⟩ := nn_of hf
        obtain ⟨hk_a14, hf⟩ := gt_of hf
        refine v_iald hk_a14 hf dX15_freshen_57 (fun x15 hf => ?_)
        refine v_imul dX15_freshen_58 ?_
        refine v_iload_n (x := l3) dX15_freshen_59 rfl 3 rfl ?_
        refine v_iadd dX15_freshen_60 ?_
        refine v_aload_n (x := (some l0)) dX15_freshen_61 rfl 0 rfl ?_
        obtain ⟨x16, s17, hcs17, hf⟩ := bd_of hf
        have hts17 := c_X15_today (l := l) (D := D) (cy := cy) (ka := ka) hcs17
        refine v_callV cb_16 hk_l0 (As := []) (rest := [.int (((10 : Int32) * x15) + l3), va_rf r12]) hts17 yb_X15_today kw_1774 kw_1776 kp_84 rfl ⟨Nat.le_of_ble_eq_true rfl, Nat.le_of_ble_eq_true rfl⟩ rfl (cat_len (Nat.le_of_ble_eq_true rfl)) dX15_freshen_62 ?_
        have hk_l0 := tk_ hts17.1 hk_l0
        show v_ l D cy ka cX15_freshen RX15 4 (some FieldType.int) "freshen" 1 23 (qf_ D cy σ0 z (some (.int r))) σ0 z _ 65 [(0, va_rf (some l0)), (1, .int l1), (2, .int l2), (3, .int l3)] [.int x16, .int (((10 : Int32) * x15) + l3), va_rf r12]
        obtain ⟨a18, rfl, hf⟩ := nn_of hf
        obtain ⟨hk_a18, hf⟩ := gt_of hf
        refine v_iast2 hk_a18 hf dX15_freshen_65 (fun s19 hts19 hf => ?_)
        have hk_l0 := tk_ hts19 hk_l0
        obtain ⟨x20, ex20⟩ : ∃ y : Int32, y = l1 + 1 := ⟨_, rfl⟩
        rw [lt_e, ← ex20] at hf
        refine v_iinc (v := x20) [(1, .int x20), (0, va_rf (some l0)), (2, .int l2), (3, .int l3)] dX15_freshen_66 1 rfl (by rw [ex20]; rfl) (by decide) rfl ?_
        refine v_sub [1, 0, 2, 3] (L2 := [(0, va_rf (some l0)), (1, .int x20), (2, .int l2), (3, .int l3)]) rfl ?_
        exact t_X15_freshen_b69 hrec_19 hf
def f_X15_freshen_b9 : Nat → TH → Nat → Int32 → Int32 → Option (Int32 × TH)
  | 0, _, _, _, _ => none
  | n + 1, σ, l0, l1, l2 => gt_ (kd_ σ l0 = 17) <| lt_ (fi_ σ 1686 l0) fun x2 => if x2 ≤ l2 then (some (l1, σ)) else (f_X15_freshen_b19 (f_X15_freshen_b9 n) fu_ σ l0 l1 l2 (0 : Int32))
set_option maxHeartbeats 4000000 in
set_option maxRecDepth 100000 in
theorem t_X15_freshen_b9 {l : Launch} {D : va_G} {cy : Nat → ClassId} {ka : Nat → Nat} {σ0 z : TH} {r : Int32}  : ∀ (n : Nat) (σ : TH) (l0 : Nat) (l1 : Int32) (l2 : Int32), f_X15_freshen_b9 n σ l0 l1 l2 = some (r, z) → v_ l D cy ka cX15_freshen RX15 4 (some FieldType.int) "freshen" 1 23 (qf_ D cy σ0 z (some (.int r))) σ0 z σ 9 [(0, va_rf (some l0)), (1, .int l1), (2, .int l2)] [] := by
  intro n
  induction n with
  | zero => intro σ l0 l1 l2 hf; unfold f_X15_freshen_b9 at hf; cases hf
  | succ n ih =>
    intro σ l0 l1 l2 hf
    unfold f_X15_freshen_b9 at hf
    have hrec_9 := ih
    refine v_iload_n (x := l2) dX15_freshen_9 rfl 2 rfl ?_
    refine v_aload_n (x := (some l0)) dX15_freshen_10 rfl 0 rfl ?_
    obtain ⟨hk_l0, hf⟩ := gt_of hf
    refine v_geti cb_16 hk_l0 86 1686 rfl (by decide) rfl (lk_n kw_1543 rfl) hf dX15_freshen_11 (fun x2 hf => ?_)
    refine v_icmp_ge (tgt := 81) hf dX15_freshen_14 (by decide) (fun hq hf => ?_) (fun hq hf => ?_)
    · refine v_iload_n (x := l1) dX15_freshen_81 rfl 1 rfl ?_
      exact v_iret hf dX15_freshen_82
    · refine v_iconst (v := 0) dX15_freshen_17 (by decide) ?_
      refine v_istore_n [(3, .int (0 : Int32)), (0, va_rf (some l0)), (1, .int l1), (2, .int l2)] dX15_freshen_18 rfl (by decide) rfl ?_
      refine v_sub [1, 2, 3, 0] (L2 := [(0, va_rf (some l0)), (1, .int l1), (2, .int l2), (3, .int (0 : Int32))]) rfl ?_
      exact t_X15_freshen_b19 hrec_9 _ _ _ _ _ _ hf
/-- LivesAheadModel.freshen()I -/
def f_X15_freshen (σ : TH) (p0 : Nat) : Option (Int32 × TH) :=
  gt_ (kd_ σ p0 = 17) <| lt_ (si_ σ 1600 p0 (0 : Int32)) fun s1 => f_X15_freshen_b9 fu_ s1 p0 (0 : Int32) (0 : Int32)
set_option maxHeartbeats 4000000 in
set_option maxRecDepth 100000 in
theorem c_X15_freshen {l : Launch} {D : va_G} {cy : Nat → ClassId} {ka : Nat → Nat} {σ z : TH} {p0 : Nat} {r : Int32} (hf : f_X15_freshen σ p0 = some (r, z)) : ct_ l D cy ka yX15_freshen 1 23 [va_rf (some p0)] σ (some (.int r)) z := by
  unfold f_X15_freshen at hf
  refine v_start (cc := cX15_freshen) (own := RX15) (maxL := 4) (ret := (some FieldType.int)) (nm := "freshen") (by decide +kernel) kw_2270 rfl rfl (by simp [lg_sl, va_rf_cat, cat_i, cat_l]) ?_
  refine v_eqL (L2 := [(0, va_rf (some p0))]) (by simp [lv_args, va_rf_cat, cat_i, cat_l]) ?_
  refine v_aload_n (x := (some p0)) dX15_freshen_0 rfl 0 rfl ?_
  refine v_iconst (v := 0) dX15_freshen_1 (by decide) ?_
  obtain ⟨hk_p0, hf⟩ := gt_of hf
  refine v_puti2 cb_16 hk_p0 0 1600 rfl (by decide) rfl (lk_n kw_1457 rfl) (Or.inl rfl) rfl rfl hf dX15_freshen_2 (fun s1 hts1 hf => ?_)
  have hk_p0 := tk_ hts1 hk_p0
  refine v_iconst (v := 0) dX15_freshen_5 (by decide) ?_
  refine v_istore_n [(1, .int (0 : Int32)), (0, va_rf (some p0))] dX15_freshen_6 rfl (by decide) rfl ?_
  refine v_iconst (v := 0) dX15_freshen_7 (by decide) ?_
  refine v_istore_n [(2, .int (0 : Int32)), (1, .int (0 : Int32)), (0, va_rf (some p0))] dX15_freshen_8 rfl (by decide) rfl ?_
  refine v_sub [2, 1, 0] (L2 := [(0, va_rf (some p0)), (1, .int (0 : Int32)), (2, .int (0 : Int32))]) rfl ?_
  exact t_X15_freshen_b9  _ _ _ _ _ hf
theorem dX15_hours_0 : decode cX15_hours 0 = .ok (.aload_n 0, 1) := by decide +kernel
theorem dX15_hours_1 : decode cX15_hours 1 = .ok (.iconst 0, 1) := by decide +kernel
theorem dX15_hours_2 : decode cX15_hours 2 = .ok (.putfield 1, 3) := by decide +kernel
theorem dX15_hours_5 : decode cX15_hours 5 = .ok (.aload_n 0, 1) := by decide +kernel
theorem dX15_hours_6 : decode cX15_hours 6 = .ok (.iload_n 1, 1) := by decide +kernel
theorem dX15_hours_7 : decode cX15_hours 7 = .ok (.invokevirtual 208, 3) := by decide +kernel
theorem dX15_hours_10 : decode cX15_hours 10 = .ok (.ifCond .ne 9, 3) := by decide +kernel
theorem dX15_hours_13 : decode cX15_hours 13 = .ok (.aload_n 0, 1) := by decide +kernel
theorem dX15_hours_14 : decode cX15_hours 14 = .ok (.iconst 1, 1) := by decide +kernel
theorem dX15_hours_15 : decode cX15_hours 15 = .ok (.invokevirtual 212, 3) := by decide +kernel
theorem dX15_hours_18 : decode cX15_hours 18 = .ok (.ireturn, 1) := by decide +kernel
theorem dX15_hours_19 : decode cX15_hours 19 = .ok (.iload_n 2, 1) := by decide +kernel
theorem dX15_hours_20 : decode cX15_hours 20 = .ok (.iconst 0, 1) := by decide +kernel
theorem dX15_hours_21 : decode cX15_hours 21 = .ok (.bipush 60, 2) := by decide +kernel
theorem dX15_hours_23 : decode cX15_hours 23 = .ok (.invokestatic 197, 3) := by decide +kernel
theorem dX15_hours_26 : decode cX15_hours 26 = .ok (.ifCond .ne 9, 3) := by decide +kernel
theorem dX15_hours_29 : decode cX15_hours 29 = .ok (.aload_n 0, 1) := by decide +kernel
theorem dX15_hours_30 : decode cX15_hours 30 = .ok (.iconst 2, 1) := by decide +kernel
theorem dX15_hours_31 : decode cX15_hours 31 = .ok (.invokevirtual 212, 3) := by decide +kernel
theorem dX15_hours_34 : decode cX15_hours 34 = .ok (.ireturn, 1) := by decide +kernel
theorem dX15_hours_35 : decode cX15_hours 35 = .ok (.aload_n 0, 1) := by decide +kernel
theorem dX15_hours_36 : decode cX15_hours 36 = .ok (.getfield 19, 3) := by decide +kernel
theorem dX15_hours_39 : decode cX15_hours 39 = .ok (.iload_n 1, 1) := by decide +kernel
theorem dX15_hours_40 : decode cX15_hours 40 = .ok (.iload_n 2, 1) := by decide +kernel
theorem dX15_hours_41 : decode cX15_hours 41 = .ok (.iastore, 1) := by decide +kernel
theorem dX15_hours_42 : decode cX15_hours 42 = .ok (.aload_n 0, 1) := by decide +kernel
theorem dX15_hours_43 : decode cX15_hours 43 = .ok (.invokevirtual 215, 3) := by decide +kernel
theorem dX15_hours_46 : decode cX15_hours 46 = .ok (.ireturn, 1) := by decide +kernel
/-- LivesAheadModel.hours(II)Z -/
def f_X15_hours (σ : TH) (p0 : Nat) (p1 : Int32) (p2 : Int32) : Option (Int32 × TH) :=
  gt_ (kd_ σ p0 = 17) <| lt_ (si_ σ 1600 p0 (0 : Int32)) fun s1 => bd_ (f_X15_isLiving s1 p0 p1) fun x2 s3 => if x2 = 0 then (bd_ (f_X15_denied s3 p0 (1 : Int32)) fun x4 s5 => gt_ (x4 = 0 ∨ x4 = 1) <| some (x4, s5)) else (bd_ (f_X15_in s3 p2 (0 : Int32) (60 : Int32)) fun x6 s7 => if x6 = 0 then (bd_ (f_X15_denied s7 p0 (2 : Int32)) fun x8 s9 => gt_ (x8 = 0 ∨ x8 = 1) <| some (x8, s9)) else (lt_ (fr_ s7 1607 p0) fun r10 => nn_ r10 fun a11 => gt_ (kd_ s7 a11 = 20) <| gt_ (¬ (p1 < 0 ∨ ln_ s7 a11 ≤ p1.toNatClampNeg)) <| lt_ (sa_ s7 a11 p1.toNatClampNeg p2) fun s12 => bd_ (f_X15_granted s12 p0) fun x13 s14 => gt_ (x13 = 0 ∨ x13 = 1) <| some (x13, s14)))
set_option maxHeartbeats 4000000 in
set_option maxRecDepth 100000 in
theorem c_X15_hours {l : Launch} {D : va_G} {cy : Nat → ClassId} {ka : Nat → Nat} {σ z : TH} {p0 : Nat} {p1 : Int32} {p2 : Int32} {r : Int32} (hf : f_X15_hours σ p0 p1 p2 = some (r, z)) : ct_ l D cy ka yX15_hours 1 22 [va_rf (some p0), .int p1, .int p2] σ (some (.int r)) z := by
  unfold f_X15_hours at hf
  refine v_start (cc := cX15_hours) (own := RX15) (maxL := 3) (ret := (some FieldType.boolean)) (nm := "hours") (by decide +kernel) kw_1740 rfl rfl (by simp [lg_sl, va_rf_cat, cat_i, cat_l]) ?_
  refine v_eqL (L2 := [(0, va_rf (some p0)), (1, .int p1), (2, .int p2)]) (by simp [lv_args, va_rf_cat, cat_i, cat_l]) ?_
  refine v_aload_n (x := (some p0)) dX15_hours_0 rfl 0 rfl ?_
  refine v_iconst (v := 0) dX15_hours_1 (by decide) ?_
  obtain ⟨hk_p0, hf⟩ := gt_of hf
  refine v_puti2 cb_16 hk_p0 0 1600 rfl (by decide) rfl (lk_n kw_1457 rfl) (Or.inl rfl) rfl rfl hf dX15_hours_2 (fun s1 hts1 hf => ?_)
  have hk_p0 := tk_ hts1 hk_p0
  refine v_aload_n (x := (some p0)) dX15_hours_5 rfl 0 rfl ?_
  refine v_iload_n (x := p1) dX15_hours_6 rfl 1 rfl ?_
  obtain ⟨x2, s3, hcs3, hf⟩ := bd_of hf
  have hts3 := c_X15_isLiving (l := l) (D := D) (cy := cy) (ka := ka) hcs3
  refine v_callV cb_16 hk_p0 (As := [.int p1]) (rest := []) hts3 yb_X15_isLiving kw_1741 kw_1743 kp_79 rfl ⟨Nat.le_of_ble_eq_true rfl, Nat.le_of_ble_eq_true rfl⟩ rfl (cat_len (Nat.le_of_ble_eq_true rfl)) dX15_hours_7 ?_
  have hk_p0 := tk_ hts3.1 hk_p0
  show v_ l D cy ka cX15_hours RX15 3 (some FieldType.boolean) "hours" 1 22 (qf_ D cy σ z (some (.int r))) σ z _ 10 [(0, va_rf (some p0)), (1, .int p1), (2, .int p2)] [.int x2]
  refine v_if_ne (tgt := 19) hf dX15_hours_10 (by decide) (fun hq hf => ?_) (fun hq hf => ?_)
  · refine v_aload_n (x := (some p0)) dX15_hours_13 rfl 0 rfl ?_
    refine v_iconst (v := 1) dX15_hours_14 (by decide) ?_
    obtain ⟨x4, s5, hcs5, hf⟩ := bd_of hf
    have hts5 := c_X15_denied (l := l) (D := D) (cy := cy) (ka := ka) hcs5
    refine v_callV cb_16 hk_p0 (As := [.int (1 : Int32)]) (rest := []) hts5 yb_X15_denied kw_1745 kw_1747 kp_80 rfl ⟨Nat.le_of_ble_eq_true rfl, Nat.le_of_ble_eq_true rfl⟩ rfl (cat_len (Nat.le_of_ble_eq_true rfl)) dX15_hours_15 ?_
    have hk_p0 := tk_ hts5.1 hk_p0
    show v_ l D cy ka cX15_hours RX15 3 (some FieldType.boolean) "hours" 1 22 (qf_ D cy σ z (some (.int r))) σ z _ 18 [(0, va_rf (some p0)), (1, .int p1), (2, .int p2)] [.int x4]
    obtain ⟨hb9, hf⟩ := gt_of hf
    exact v_zret hf (nz_ hb9) dX15_hours_18
  · refine v_iload_n (x := p2) dX15_hours_19 rfl 2 rfl ?_
    refine v_iconst (v := 0) dX15_hours_20 (by decide) ?_
    refine v_bipush (v := 60) dX15_hours_21 (by decide) ?_
    obtain ⟨x6, s7, hcs7, hf⟩ := bd_of hf
    have hts7 := c_X15_in (l := l) (D := D) (cy := cy) (ka := ka) hcs7
    refine v_callS (As := [.int p2, .int (0 : Int32), .int (60 : Int32)]) (rest := []) hts7 yb_X15_in kw_1726 kw_1727 rfl ⟨Nat.le_of_ble_eq_true rfl, Nat.le_of_ble_eq_true rfl⟩ rfl (cat_len (Nat.le_of_ble_eq_true rfl)) dX15_hours_23 ?_
    have hk_p0 := tk_ hts7.1 hk_p0
    show v_ l D cy ka cX15_hours RX15 3 (some FieldType.boolean) "hours" 1 22 (qf_ D cy σ z (some (.int r))) σ z _ 26 [(0, va_rf (some p0)), (1, .int p1), (2, .int p2)] [.int x6]
    refine v_if_ne (tgt := 35) hf dX15_hours_26 (by decide) (fun hq hf => ?_) (fun hq hf => ?_)
    · refine v_aload_n (x := (some p0)) dX15_hours_29 rfl 0 rfl ?_
      refine v_iconst (v := 2) dX15_hours_30 (by decide) ?_
      obtain ⟨x8, s9, hcs9, hf⟩ := bd_of hf
      have hts9 := c_X15_denied (l := l) (D := D) (cy := cy) (ka := ka) hcs9
      refine v_callV cb_16 hk_p0 (As := [.int (2 : Int32)]) (rest := []) hts9 yb_X15_denied kw_1745 kw_1747 kp_80 rfl ⟨Nat.le_of_ble_eq_true rfl, Nat.le_of_ble_eq_true rfl⟩ rfl (cat_len (Nat.le_of_ble_eq_true rfl)) dX15_hours_31 ?_
      have hk_p0 := tk_ hts9.1 hk_p0
      show v_ l D cy ka cX15_hours RX15 3 (some FieldType.boolean) "hours" 1 22 (qf_ D cy σ z (some (.int r))) σ z _ 34 [(0, va_rf (some p0)), (1, .int p1), (2, .int p2)] [.int x8]
      obtain ⟨hb9, hf⟩ := gt_of hf
      exact v_zret hf (nz_ hb9) dX15_hours_34
    · refine v_aload_n (x := (some p0)) dX15_hours_35 rfl 0 rfl ?_
      refine v_getr cb_16 hk_p0 7 1607 rfl (by decide) rfl (lk_n kw_1464 rfl) hf dX15_hours_36 (fun r10 hf => ?_)
      refine v_iload_n (x := p1) dX15_hours_39 rfl 1 rfl ?_
      refine v_iload_n (x := p2) dX15_hours_40 rfl 2 rfl ?_
      obtain ⟨a11, rfl, hf⟩ := nn_of hf
      obtain ⟨hk_a11, hf⟩ := gt_of hf
      refine v_iast2 hk_a11 hf dX15_hours_41 (fun s12 hts12 hf => ?_)
      have hk_p0 := tk_ hts12 hk_p0
      refine v_aload_n (x := (some p0)) dX15_hours_42 rfl 0 rfl ?_
      obtain ⟨x13, s14, hcs14, hf⟩ := bd_of hf
      have hts14 := c_X15_granted (l := l) (D := D) (cy := cy) (ka := ka) hcs14
      refine v_callV cb_16 hk_p0 (As := []) (rest := []) hts14 yb_X15_granted kw_1749 kw_1751 kp_81 rfl ⟨Nat.le_of_ble_eq_true rfl, Nat.le_of_ble_eq_true rfl⟩ rfl (cat_len (Nat.le_of_ble_eq_true rfl)) dX15_hours_43 ?_
      have hk_p0 := tk_ hts14.1 hk_p0
      show v_ l D cy ka cX15_hours RX15 3 (some FieldType.boolean) "hours" 1 22 (qf_ D cy σ z (some (.int r))) σ z _ 46 [(0, va_rf (some p0)), (1, .int p1), (2, .int p2)] [.int x13]
      obtain ⟨hb9, hf⟩ := gt_of hf
      exact v_zret hf (nz_ hb9) dX15_hours_46
theorem dX15_keeps_0 : decode cX15_keeps 0 = .ok (.aload_n 0, 1) := by decide +kernel
theorem dX15_keeps_1 : decode cX15_keeps 1 = .ok (.iconst 0, 1) := by decide +kernel
theorem dX15_keeps_2 : decode cX15_keeps 2 = .ok (.putfield 1, 3) := by decide +kernel
theorem dX15_keeps_5 : decode cX15_keeps 5 = .ok (.iload_n 1, 1) := by decide +kernel
theorem dX15_keeps_6 : decode cX15_keeps 6 = .ok (.invokestatic 250, 3) := by decide +kernel
theorem dX15_keeps_9 : decode cX15_keeps 9 = .ok (.ifCond .eq 14, 3) := by decide +kernel
theorem dX15_keeps_12 : decode cX15_keeps 12 = .ok (.iload_n 2, 1) := by decide +kernel
theorem dX15_keeps_13 : decode cX15_keeps 13 = .ok (.iconst 1, 1) := by decide +kernel
theorem dX15_keeps_14 : decode cX15_keeps 14 = .ok (.sipush 3650, 3) := by decide +kernel
theorem dX15_keeps_17 : decode cX15_keeps 17 = .ok (.invokestatic 197, 3) := by decide +kernel
theorem dX15_keeps_20 : decode cX15_keeps 20 = .ok (.ifCond .ne 9, 3) := by decide +kernel
theorem dX15_keeps_23 : decode cX15_keeps 23 = .ok (.aload_n 0, 1) := by decide +kernel
theorem dX15_keeps_24 : decode cX15_keeps 24 = .ok (.iconst 2, 1) := by decide +kernel
theorem dX15_keeps_25 : decode cX15_keeps 25 = .ok (.invokevirtual 212, 3) := by decide +kernel
theorem dX15_keeps_28 : decode cX15_keeps 28 = .ok (.ireturn, 1) := by decide +kernel
theorem dX15_keeps_29 : decode cX15_keeps 29 = .ok (.aload_n 0, 1) := by decide +kernel
theorem dX15_keeps_30 : decode cX15_keeps 30 = .ok (.getfield 51, 3) := by decide +kernel
theorem dX15_keeps_33 : decode cX15_keeps 33 = .ok (.iload_n 1, 1) := by decide +kernel
theorem dX15_keeps_34 : decode cX15_keeps 34 = .ok (.iload_n 2, 1) := by decide +kernel
theorem dX15_keeps_35 : decode cX15_keeps 35 = .ok (.iastore, 1) := by decide +kernel
theorem dX15_keeps_36 : decode cX15_keeps 36 = .ok (.aload_n 0, 1) := by decide +kernel
theorem dX15_keeps_37 : decode cX15_keeps 37 = .ok (.invokevirtual 215, 3) := by decide +kernel
theorem dX15_keeps_40 : decode cX15_keeps 40 = .ok (.ireturn, 1) := by decide +kernel
def f_X15_keeps_b23 (σ : TH) (l0 : Nat) : Option (Int32 × TH) :=
  gt_ (kd_ σ l0 = 17) <| bd_ (f_X15_denied σ l0 (2 : Int32)) fun x4 s5 => gt_ (x4 = 0 ∨ x4 = 1) <| some (x4, s5)
set_option maxHeartbeats 4000000 in
set_option maxRecDepth 100000 in
theorem t_X15_keeps_b23 {l : Launch} {D : va_G} {cy : Nat → ClassId} {ka : Nat → Nat} {σ0 z : TH} {r : Int32}  {σ : TH} {l0 : Nat} (hf : f_X15_keeps_b23 σ l0 = some (r, z)) : v_ l D cy ka cX15_keeps RX15 3 (some FieldType.boolean) "keeps" 1 22 (qf_ D cy σ0 z (some (.int r))) σ0 z σ 23 [(0, va_rf (some l0))] [] := by
  unfold f_X15_keeps_b23 at hf
  refine v_aload_n (x := (some l0)) dX15_keeps_23 rfl 0 rfl ?_
  refine v_iconst (v := 2) dX15_keeps_24 (by decide) ?_
  obtain ⟨hk_l0, hf⟩ := gt_of hf
  obtain ⟨x4, s5, hcs5, hf⟩ := bd_of hf
  have hts5 := c_X15_denied (l := l) (D := D) (cy := cy) (ka := ka) hcs5
  refine v_callV cb_16 hk_l0 (As := [.int (2 : Int32)]) (rest := []) hts5 yb_X15_denied kw_1745 kw_1747 kp_80 rfl ⟨Nat.le_of_ble_eq_true rfl, Nat.le_of_ble_eq_true rfl⟩ rfl (cat_len (Nat.le_of_ble_eq_true rfl)) dX15_keeps_25 ?_
  have hk_l0 := tk_ hts5.1 hk_l0
  show v_ l D cy ka cX15_keeps RX15 3 (some FieldType.boolean) "keeps" 1 22 (qf_ D cy σ0 z (some (.int r))) σ0 z _ 28 [(0, va_rf (some l0))] [.int x4]
  obtain ⟨hb9, hf⟩ := gt_of hf
  exact v_zret hf (nz_ hb9) dX15_keeps_28
/-- LivesAheadModel.keeps(II)Z -/
def f_X15_keeps (σ : TH) (p0 : Nat) (p1 : Int32) (p2 : Int32) : Option (Int32 × TH) :=
  gt_ (kd_ σ p0 = 17) <| lt_ (si_ σ 1600 p0 (0 : Int32)) fun s1 => bd_ (f_X15_isKind s1 p1) fun x2 s3 => if x2 = 0 then (f_X15_keeps_b23 s3 p0) else (bd_ (f_X15_in s3 p2 (1 : Int32) (3650 : Int32)) fun x6 s7 => if x6 = 0 then (f_X15_keeps_b23 s7 p0) else (lt_ (fr_ s7 1618 p0) fun r8 => nn_ r8 fun a9 => gt_ (kd_ s7 a9 = 20) <| gt_ (¬ (p1 < 0 ∨ ln_ s7 a9 ≤ p1.toNatClampNeg)) <| lt_ (sa_ s7 a9 p1.toNatClampNeg p2) fun s10 => bd_ (f_X15_granted s10 p0) fun x11 s12 => gt_ (x11 = 0 ∨ x11 = 1) <| some (x11, s12)))
set_option maxHeartbeats 4000000 in
set_option maxRecDepth 100000 in
theorem c_X15_keeps {l : Launch} {D : va_G} {cy : Nat → ClassId} {ka : Nat → Nat} {σ z : TH} {p0 : Nat} {p1 : Int32} {p2 : Int32} {r : Int32} (hf : f_X15_keeps σ p0 p1 p2 = some (r, z)) : ct_ l D cy ka yX15_keeps 1 22 [va_rf (some p0), .int p1, .int p2] σ (some (.int r)) z := by
  unfold f_X15_keeps at hf
  refine v_start (cc := cX15_keeps) (own := RX15) (maxL := 3) (ret := (some FieldType.boolean)) (nm := "keeps") (by decide +kernel) kw_1812 rfl rfl (by simp [lg_sl, va_rf_cat, cat_i, cat_l]) ?_
  refine v_eqL (L2 := [(0, va_rf (some p0)), (1, .int p1), (2, .int p2)]) (by simp [lv_args, va_rf_cat, cat_i, cat_l]) ?_
  refine v_aload_n (x := (some p0)) dX15_keeps_0 rfl 0 rfl ?_
  refine v_iconst (v := 0) dX15_keeps_1 (by decide) ?_
  obtain ⟨hk_p0, hf⟩ := gt_of hf
  refine v_puti2 cb_16 hk_p0 0 1600 rfl (by decide) rfl (lk_n kw_1457 rfl) (Or.inl rfl) rfl rfl hf dX15_keeps_2 (fun s1 hts1 hf => ?_)
  have hk_p0 := tk_ hts1 hk_p0
  refine v_iload_n (x := p1) dX15_keeps_5 rfl 1 rfl ?_
  obtain ⟨x2, s3, hcs3, hf⟩ := bd_of hf
  have hts3 := c_X15_isKind (l := l) (D := D) (cy := cy) (ka := ka) hcs3
  refine v_callS (As := [.int p1]) (rest := []) hts3 yb_X15_isKind kw_1813 kw_1814 rfl ⟨Nat.le_of_ble_eq_true rfl, Nat.le_of_ble_eq_true rfl⟩ rfl (cat_len (Nat.le_of_ble_eq_true rfl)) dX15_keeps_6 ?_
  have hk_p0 := tk_ hts3.1 hk_p0
  show v_ l D cy ka cX15_keeps RX15 3 (some FieldType.boolean) "keeps" 1 22 (qf_ D cy σ z (some (.int r))) σ z _ 9 [(0, va_rf (some p0)), (1, .int p1), (2, .int p2)] [.int x2]
  refine v_if_eq (tgt := 23) hf dX15_keeps_9 (by decide) (fun hq hf => ?_) (fun hq hf => ?_)
  · refine v_sub [0] (L2 := [(0, va_rf (some p0))]) rfl ?_
    exact t_X15_keeps_b23  hf
  · refine v_iload_n (x := p2) dX15_keeps_12 rfl 2 rfl ?_
    refine v_iconst (v := 1) dX15_keeps_13 (by decide) ?_
    refine v_sipush (v := 3650) dX15_keeps_14 (by decide) ?_
    obtain ⟨x6, s7, hcs7, hf⟩ := bd_of hf
    have hts7 := c_X15_in (l := l) (D := D) (cy := cy) (ka := ka) hcs7
    refine v_callS (As := [.int p2, .int (1 : Int32), .int (3650 : Int32)]) (rest := []) hts7 yb_X15_in kw_1726 kw_1727 rfl ⟨Nat.le_of_ble_eq_true rfl, Nat.le_of_ble_eq_true rfl⟩ rfl (cat_len (Nat.le_of_ble_eq_true rfl)) dX15_keeps_17 ?_
    have hk_p0 := tk_ hts7.1 hk_p0
    show v_ l D cy ka cX15_keeps RX15 3 (some FieldType.boolean) "keeps" 1 22 (qf_ D cy σ z (some (.int r))) σ z _ 20 [(0, va_rf (some p0)), (1, .int p1), (2, .int p2)] [.int x6]
    refine v_if_ne (tgt := 29) hf dX15_keeps_20 (by decide) (fun hq hf => ?_) (fun hq hf => ?_)
    · refine v_sub [0] (L2 := [(0, va_rf (some p0))]) rfl ?_
      exact t_X15_keeps_b23  hf
    · refine v_aload_n (x := (some p0)) dX15_keeps_29 rfl 0 rfl ?_
      refine v_getr cb_16 hk_p0 18 1618 rfl (by decide) rfl (lk_n kw_1475 rfl) hf dX15_keeps_30 (fun r8 hf => ?_)
      refine v_iload_n (x := p1) dX15_keeps_33 rfl 1 rfl ?_
      refine v_iload_n (x := p2) dX15_keeps_34 rfl 2 rfl ?_
      obtain ⟨a9, rfl, hf⟩ := nn_of hf
      obtain ⟨hk_a9, hf⟩ := gt_of hf
      refine v_iast2 hk_a9 hf dX15_keeps_35 (fun s10 hts10 hf => ?_)
      have hk_p0 := tk_ hts10 hk_p0
      refine v_aload_n (x := (some p0)) dX15_keeps_36 rfl 0 rfl ?_
      obtain ⟨x11, s12, hcs12, hf⟩ := bd_of hf
      have hts12 := c_X15_granted (l := l) (D := D) (cy := cy) (ka := ka) hcs12
      refine v_callV cb_16 hk_p0 (As := []) (rest := []) hts12 yb_X15_granted kw_1749 kw_1751 kp_81 rfl ⟨Nat.le_of_ble_eq_true rfl, Nat.le_of_ble_eq_true rfl⟩ rfl (cat_len (Nat.le_of_ble_eq_true rfl)) dX15_keeps_37 ?_
      have hk_p0 := tk_ hts12.1 hk_p0
      show v_ l D cy ka cX15_keeps RX15 3 (some FieldType.boolean) "keeps" 1 22 (qf_ D cy σ z (some (.int r))) σ z _ 40 [(0, va_rf (some p0)), (1, .int p1), (2, .int p2)] [.int x11]
      obtain ⟨hb9, hf⟩ := gt_of hf
      exact v_zret hf (nz_ hb9) dX15_keeps_40
theorem dX15_known_0 : decode cX15_known 0 = .ok (.aload_n 0, 1) := by decide +kernel
theorem dX15_known_1 : decode cX15_known 1 = .ok (.iconst 0, 1) := by decide +kernel
theorem dX15_known_2 : decode cX15_known 2 = .ok (.putfield 1, 3) := by decide +kernel
theorem dX15_known_5 : decode cX15_known 5 = .ok (.aload_n 0, 1) := by decide +kernel
theorem dX15_known_6 : decode cX15_known 6 = .ok (.iload_n 1, 1) := by decide +kernel
theorem dX15_known_7 : decode cX15_known 7 = .ok (.invokevirtual 227, 3) := by decide +kernel
theorem dX15_known_10 : decode cX15_known 10 = .ok (.ifCond .eq 10, 3) := by decide +kernel
theorem dX15_known_13 : decode cX15_known 13 = .ok (.iload_n 2, 1) := by decide +kernel
theorem dX15_known_14 : decode cX15_known 14 = .ok (.invokestatic 250, 3) := by decide +kernel
theorem dX15_known_17 : decode cX15_known 17 = .ok (.ifCond .ne 7, 3) := by decide +kernel
theorem dX15_known_20 : decode cX15_known 20 = .ok (.ldc_w 268, 3) := by decide +kernel
theorem dX15_known_23 : decode cX15_known 23 = .ok (.ireturn, 1) := by decide +kernel
theorem dX15_known_24 : decode cX15_known 24 = .ok (.aload_n 0, 1) := by decide +kernel
theorem dX15_known_25 : decode cX15_known 25 = .ok (.iload_n 1, 1) := by decide +kernel
theorem dX15_known_26 : decode cX15_known 26 = .ok (.iload_n 2, 1) := by decide +kernel
theorem dX15_known_27 : decode cX15_known 27 = .ok (.aload_n 0, 1) := by decide +kernel
theorem dX15_known_28 : decode cX15_known 28 = .ok (.invokevirtual 230, 3) := by decide +kernel
theorem dX15_known_31 : decode cX15_known 31 = .ok (.invokevirtual 262, 3) := by decide +kernel
theorem dX15_known_34 : decode cX15_known 34 = .ok (.istore 4, 2) := by decide +kernel
theorem dX15_known_36 : decode cX15_known 36 = .ok (.iload 4, 2) := by decide +kernel
theorem dX15_known_38 : decode cX15_known 38 = .ok (.iconst (-1), 1) := by decide +kernel
theorem dX15_known_39 : decode cX15_known 39 = .ok (.if_icmp .ne 7, 3) := by decide +kernel
theorem dX15_known_42 : decode cX15_known 42 = .ok (.ldc_w 268, 3) := by decide +kernel
theorem dX15_known_45 : decode cX15_known 45 = .ok (.ireturn, 1) := by decide +kernel
theorem dX15_known_46 : decode cX15_known 46 = .ok (.iload_n 3, 1) := by decide +kernel
theorem dX15_known_47 : decode cX15_known 47 = .ok (.tableswitch 107 0 5 #[37, 45, 61, 69, 81, 100], 37) := by decide +kernel
theorem dX15_known_84 : decode cX15_known 84 = .ok (.aload_n 0, 1) := by decide +kernel
theorem dX15_known_85 : decode cX15_known 85 = .ok (.getfield 63, 3) := by decide +kernel
theorem dX15_known_88 : decode cX15_known 88 = .ok (.iload 4, 2) := by decide +kernel
theorem dX15_known_90 : decode cX15_known 90 = .ok (.iaload, 1) := by decide +kernel
theorem dX15_known_91 : decode cX15_known 91 = .ok (.ireturn, 1) := by decide +kernel
theorem dX15_known_92 : decode cX15_known 92 = .ok (.aload_n 0, 1) := by decide +kernel
theorem dX15_known_93 : decode cX15_known 93 = .ok (.getfield 69, 3) := by decide +kernel
theorem dX15_known_96 : decode cX15_known 96 = .ok (.iload 4, 2) := by decide +kernel
theorem dX15_known_98 : decode cX15_known 98 = .ok (.baload, 1) := by decide +kernel
theorem dX15_known_99 : decode cX15_known 99 = .ok (.ifCond .eq 7, 3) := by decide +kernel
theorem dX15_known_102 : decode cX15_known 102 = .ok (.iconst 1, 1) := by decide +kernel
theorem dX15_known_103 : decode cX15_known 103 = .ok (.goto 4, 3) := by decide +kernel
theorem dX15_known_106 : decode cX15_known 106 = .ok (.iconst 0, 1) := by decide +kernel
theorem dX15_known_107 : decode cX15_known 107 = .ok (.ireturn, 1) := by decide +kernel
theorem dX15_known_108 : decode cX15_known 108 = .ok (.aload_n 0, 1) := by decide +kernel
theorem dX15_known_109 : decode cX15_known 109 = .ok (.getfield 66, 3) := by decide +kernel
theorem dX15_known_112 : decode cX15_known 112 = .ok (.iload 4, 2) := by decide +kernel
theorem dX15_known_114 : decode cX15_known 114 = .ok (.iaload, 1) := by decide +kernel
theorem dX15_known_115 : decode cX15_known 115 = .ok (.ireturn, 1) := by decide +kernel
theorem dX15_known_116 : decode cX15_known 116 = .ok (.aload_n 0, 1) := by decide +kernel
theorem dX15_known_117 : decode cX15_known 117 = .ok (.getfield 54, 3) := by decide +kernel
theorem dX15_known_120 : decode cX15_known 120 = .ok (.bipush 10, 2) := by decide +kernel
theorem dX15_known_122 : decode cX15_known 122 = .ok (.iload_n 1, 1) := by decide +kernel
theorem dX15_known_123 : decode cX15_known 123 = .ok (.imul, 1) := by decide +kernel
theorem dX15_known_124 : decode cX15_known 124 = .ok (.iload_n 2, 1) := by decide +kernel
theorem dX15_known_125 : decode cX15_known 125 = .ok (.iadd, 1) := by decide +kernel
theorem dX15_known_126 : decode cX15_known 126 = .ok (.iaload, 1) := by decide +kernel
theorem dX15_known_127 : decode cX15_known 127 = .ok (.ireturn, 1) := by decide +kernel
theorem dX15_known_128 : decode cX15_known 128 = .ok (.aload_n 0, 1) := by decide +kernel
theorem dX15_known_129 : decode cX15_known 129 = .ok (.iload_n 1, 1) := by decide +kernel
theorem dX15_known_130 : decode cX15_known 130 = .ok (.iload_n 2, 1) := by decide +kernel
theorem dX15_known_131 : decode cX15_known 131 = .ok (.aload_n 0, 1) := by decide +kernel
theorem dX15_known_132 : decode cX15_known 132 = .ok (.invokevirtual 230, 3) := by decide +kernel
theorem dX15_known_135 : decode cX15_known 135 = .ok (.invokevirtual 259, 3) := by decide +kernel
theorem dX15_known_138 : decode cX15_known 138 = .ok (.ifCond .eq 7, 3) := by decide +kernel
theorem dX15_known_141 : decode cX15_known 141 = .ok (.iconst 1, 1) := by decide +kernel
theorem dX15_known_142 : decode cX15_known 142 = .ok (.goto 4, 3) := by decide +kernel
theorem dX15_known_145 : decode cX15_known 145 = .ok (.iconst 0, 1) := by decide +kernel
theorem dX15_known_146 : decode cX15_known 146 = .ok (.ireturn, 1) := by decide +kernel
theorem dX15_known_147 : decode cX15_known 147 = .ok (.aload_n 0, 1) := by decide +kernel
theorem dX15_known_148 : decode cX15_known 148 = .ok (.iload_n 1, 1) := by decide +kernel
theorem dX15_known_149 : decode cX15_known 149 = .ok (.iload_n 2, 1) := by decide +kernel
theorem dX15_known_150 : decode cX15_known 150 = .ok (.invokevirtual 256, 3) := by decide +kernel
theorem dX15_known_153 : decode cX15_known 153 = .ok (.ireturn, 1) := by decide +kernel
theorem dX15_known_154 : decode cX15_known 154 = .ok (.iconst (-1), 1) := by decide +kernel
theorem dX15_known_155 : decode cX15_known 155 = .ok (.ireturn, 1) := by decide +kernel
def f_X15_known_b20 (σ : TH) : Option (Int32 × TH) :=
  some (((-2147483648) : Int32), σ)
set_option maxHeartbeats 4000000 in
set_option maxRecDepth 100000 in
theorem t_X15_known_b20 {l : Launch} {D : va_G} {cy : Nat → ClassId} {ka : Nat → Nat} {σ0 z : TH} {r : Int32}  {σ : TH}  (hf : f_X15_known_b20 σ  = some (r, z)) : v_ l D cy ka cX15_known RX15 5 (some FieldType.int) "known" 1 25 (qf_ D cy σ0 z (some (.int r))) σ0 z σ 20 [] [] := by
  unfold f_X15_known_b20 at hf
  refine v_ldcw (v := (-2147483648)) kw_1832 dX15_known_20 ?_
  exact v_iret hf dX15_known_23
def f_X15_known_b107 (σ : TH) (t0 : Int32) : Option (Int32 × TH) :=
  some (t0, σ)
set_option maxHeartbeats 4000000 in
set_option maxRecDepth 100000 in
theorem t_X15_known_b107 {l : Launch} {D : va_G} {cy : Nat → ClassId} {ka : Nat → Nat} {σ0 z : TH} {r : Int32}  {σ : TH} {t0 : Int32} (hf : f_X15_known_b107 σ t0 = some (r, z)) : v_ l D cy ka cX15_known RX15 5 (some FieldType.int) "known" 1 25 (qf_ D cy σ0 z (some (.int r))) σ0 z σ 107 [] [.int t0] := by
  unfold f_X15_known_b107 at hf
  exact v_iret hf dX15_known_107
def f_X15_known_b146 (σ : TH) (t0 : Int32) : Option (Int32 × TH) :=
  some (t0, σ)
set_option maxHeartbeats 4000000 in
set_option maxRecDepth 100000 in
theorem t_X15_known_b146 {l : Launch} {D : va_G} {cy : Nat → ClassId} {ka : Nat → Nat} {σ0 z : TH} {r : Int32}  {σ : TH} {t0 : Int32} (hf : f_X15_known_b146 σ t0 = some (r, z)) : v_ l D cy ka cX15_known RX15 5 (some FieldType.int) "known" 1 25 (qf_ D cy σ0 z (some (.int r))) σ0 z σ 146 [] [.int t0] := by
  unfold f_X15_known_b146 at hf
  exact v_iret hf dX15_known_146
/-- LivesAheadModel.known(III)I -/
def f_X15_known (σ : TH) (p0 : Nat) (p1 : Int32) (p2 : Int32) (p3 : Int32) : Option (Int32 × TH) :=
  gt_ (kd_ σ p0 = 17) <| lt_ (si_ σ 1600 p0 (0 : Int32)) fun s1 => bd_ (f_X15_isPerson s1 p0 p1) fun x2 s3 => if x2 = 0 then (f_X15_known_b20 s3 ) else (bd_ (f_X15_isKind s3 p2) fun x4 s5 => if x4 = 0 then (f_X15_known_b20 s5 ) else (bd_ (f_X15_today s5 p0) fun x6 s7 => bd_ (f_X15_tellingOn s7 p0 p1 p2 x6) fun x8 s9 => if x8 = (-1 : Int32) then (some (((-2147483648) : Int32), s9)) else (if p3 = 0 then (lt_ (fr_ s9 1622 p0) fun r10 => nn_ r10 fun a11 => gt_ (kd_ s9 a11 = 20) <| gt_ (¬ (x8 < 0 ∨ ln_ s9 a11 ≤ x8.toNatClampNeg)) <| lt_ (ai_ s9 a11 x8.toNatClampNeg) fun x12 => some (x12, s9)) else if p3 = 1 then (lt_ (fr_ s9 1624 p0) fun r13 => nn_ r13 fun a14 => gt_ (kd_ s9 a14 = 22) <| gt_ (¬ (x8 < 0 ∨ ln_ s9 a14 ≤ x8.toNatClampNeg)) <| lt_ (ai_ s9 a14 x8.toNatClampNeg) fun x15 => if x15 = 0 then (f_X15_known_b107 s9 (0 : Int32)) else (f_X15_known_b107 s9 (1 : Int32))) else if p3 = 2 then (lt_ (fr_ s9 1623 p0) fun r16 => nn_ r16 fun a17 => gt_ (kd_ s9 a17 = 20) <| gt_ (¬ (x8 < 0 ∨ ln_ s9 a17 ≤ x8.toNatClampNeg)) <| lt_ (ai_ s9 a17 x8.toNatClampNeg) fun x18 => some (x18, s9)) else if p3 = 3 then (lt_ (fr_ s9 1619 p0) fun r19 => nn_ r19 fun a20 => gt_ (kd_ s9 a20 = 20) <| gt_ (¬ ((((10 : Int32) * p1) + p2) < 0 ∨ ln_ s9 a20 ≤ (((10 : Int32) * p1) + p2 : Int32).toNatClampNeg)) <| lt_ (ai_ s9 a20 ((((10 : Int32) * p1) + p2 : Int32).toNatClampNeg)) fun x21 => some (x21, s9)) else if p3 = 4 then (bd_ (f_X15_today s9 p0) fun x22 s23 => bd_ (f_X15_isStale s23 p0 p1 p2 x22) fun x24 s25 => if x24 = 0 then (f_X15_known_b146 s25 (0 : Int32)) else (f_X15_known_b146 s25 (1 : Int32))) else if p3 = 5 then (bd_ (f_X15_many s9 p0 p1 p2) fun x26 s27 => some (x26, s27)) else (some ((-1 : Int32), s9)))))
set_option maxHeartbeats 4000000 in
set_option maxRecDepth 100000 in
theorem c_X15_known {l : Launch} {D : va_G} {cy : Nat → ClassId} {ka : Nat → Nat} {σ z : TH} {p0 : Nat} {p1 : Int32} {p2 : Int32} {p3 : Int32} {r : Int32} (hf : f_X15_known σ p0 p1 p2 p3 = some (r, z)) : ct_ l D cy ka yX15_known 1 25 [va_rf (some p0), .int p1, .int p2, .int p3] σ (some (.int r)) z := by
  unfold f_X15_known at hf
  refine v_start (cc := cX15_known) (own := RX15) (maxL := 5) (ret := (some FieldType.int)) (nm := "known") (by decide +kernel) kw_1831 rfl rfl (by simp [lg_sl, va_rf_cat, cat_i, cat_l]) ?_
  refine v_eqL (L2 := [(0, va_rf (some p0)), (1, .int p1), (2, .int p2), (3, .int p3)]) (by simp [lv_args, va_rf_cat, cat_i, cat_l]) ?_
  refine v_aload_n (x := (some p0)) dX15_known_0 rfl 0 rfl ?_
  refine v_iconst (v := 0) dX15_known_1 (by decide) ?_
  obtain ⟨hk_p0, hf⟩ := gt_of hf
  refine v_puti2 cb_16 hk_p0 0 1600 rfl (by decide) rfl (lk_n kw_1457 rfl) (Or.inl rfl) rfl rfl hf dX15_known_2 (fun s1 hts1 hf => ?_)
  have hk_p0 := tk_ hts1 hk_p0
  refine v_aload_n (x := (some p0)) dX15_known_5 rfl 0 rfl ?_
  refine v_iload_n (x := p1) dX15_known_6 rfl 1 rfl ?_
  obtain ⟨x2, s3, hcs3, hf⟩ := bd_of hf
  have hts3 := c_X15_isPerson (l := l) (D := D) (cy := cy) (ka := ka) hcs3
  refine v_callV cb_16 hk_p0 (As := [.int p1]) (rest := []) hts3 yb_X15_isPerson kw_1770 kw_1772 kp_83 rfl ⟨Nat.le_of_ble_eq_true rfl, Nat.le_of_ble_eq_true rfl⟩ rfl (cat_len (Nat.le_of_ble_eq_true rfl)) dX15_known_7 ?_
  have hk_p0 := tk_ hts3.1 hk_p0
  show v_ l D cy ka cX15_known RX15 5 (some FieldType.int) "known" 1 25 (qf_ D cy σ z (some (.int r))) σ z _ 10 [(0, va_rf (some p0)), (1, .int p1), (2, .int p2), (3, .int p3)] [.int x2]
  refine v_if_eq (tgt := 20) hf dX15_known_10 (by decide) (fun hq hf => ?_) (fun hq hf => ?_)
  · refine v_sub [] (L2 := []) rfl ?_
    exact t_X15_known_b20  hf
  · refine v_iload_n (x := p2) dX15_known_13 rfl 2 rfl ?_
    obtain ⟨x4, s5, hcs5, hf⟩ := bd_of hf
    have hts5 := c_X15_isKind (l := l) (D := D) (cy := cy) (ka := ka) hcs5
    refine v_callS (As := [.int p2]) (rest := []) hts5 yb_X15_isKind kw_1813 kw_1814 rfl ⟨Nat.le_of_ble_eq_true rfl, Nat.le_of_ble_eq_true rfl⟩ rfl (cat_len (Nat.le_of_ble_eq_true rfl)) dX15_known_14 ?_
    have hk_p0 := tk_ hts5.1 hk_p0
    show v_ l D cy ka cX15_known RX15 5 (some FieldType.int) "known" 1 25 (qf_ D cy σ z (some (.int r))) σ z _ 17 [(0, va_rf (some p0)), (1, .int p1), (2, .int p2), (3, .int p3)] [.int x4]
    refine v_if_ne (tgt := 24) hf dX15_known_17 (by decide) (fun hq hf => ?_) (fun hq hf => ?_)
    · refine v_sub [] (L2 := []) rfl ?_
      exact t_X15_known_b20  hf
    · refine v_aload_n (x := (some p0)) dX15_known_24 rfl 0 rfl ?_
      refine v_iload_n (x := p1) dX15_known_25 rfl 1 rfl ?_
      refine v_iload_n (x := p2) dX15_known_26 rfl 2 rfl ?_
      refine v_aload_n (x := (some p0)) dX15_known_27 rfl 0 rfl ?_
      obtain ⟨x6, s7, hcs7, hf⟩ := bd_of hf
      have hts7 := c_X15_today (l := l) (D := D) (cy := cy) (ka := ka) hcs7
      refine v_callV cb_16 hk_p0 (As := []) (rest := [.int p2, .int p1, va_rf (some p0)]) hts7 yb_X15_today kw_1774 kw_1776 kp_84 rfl ⟨Nat.le_of_ble_eq_true rfl, Nat.le_of_ble_eq_true rfl⟩ rfl (cat_len (Nat.le_of_ble_eq_true rfl)) dX15_known_28 ?_
      have hk_p0 := tk_ hts7.1 hk_p0
      show v_ l D cy ka cX15_known RX15 5 (some FieldType.int) "known" 1 25 (qf_ D cy σ z (some (.int r))) σ z _ 31 [(0, va_rf (some p0)), (1, .int p1), (2, .int p2), (3, .int p3)] [.int x6, .int p2, .int p1, va_rf (some p0)]
      obtain ⟨x8, s9, hcs9, hf⟩ := bd_of hf
      have hts9 := c_X15_tellingOn (l := l) (D := D) (cy := cy) (ka := ka) hcs9
      refine v_callV cb_16 hk_p0 (As := [.int p1, .int p2, .int x6]) (rest := []) hts9 yb_X15_tellingOn kw_1833 kw_1835 kp_92 rfl ⟨Nat.le_of_ble_eq_true rfl, Nat.le_of_ble_eq_true rfl⟩ rfl (cat_len (Nat.le_of_ble_eq_true rfl)) dX15_known_31 ?_
      have hk_p0 := tk_ hts9.1 hk_p0
      show v_ l D cy ka cX15_known RX15 5 (some FieldType.int) "known" 1 25 (qf_ D cy σ z (some (.int r))) σ z _ 34 [(0, va_rf (some p0)), (1, .int p1), (2, .int p2), (3, .int p3)] [.int x8]
      refine v_istore [(4, .int x8), (0, va_rf (some p0)), (1, .int p1), (2, .int p2), (3, .int p3)] dX15_known_34 (by decide) rfl ?_
      refine v_iload (x := x8) dX15_known_36 0 rfl ?_
      refine v_iconst (v := (-1)) dX15_known_38 (by decide) ?_
      refine v_icmp_ne (tgt := 46) hf dX15_known_39 (by decide) (fun hq hf => ?_) (fun hq hf => ?_)
      · refine v_ldcw (v := (-2147483648)) kw_1832 dX15_known_42 ?_
        exact v_iret hf dX15_known_45
      · refine v_iload_n (x := p3) dX15_known_46 rfl 4 rfl ?_
        by_cases hq0 : p3 = 0
        · rw [if_pos hq0] at hf
          refine v_tswIn (tgt := 84) (c9 := 0) hq0 dX15_known_47 (by decide) (by decide) rfl (by decide) ?_
          refine v_aload_n (x := (some p0)) dX15_known_84 rfl 1 rfl ?_
          refine v_getr cb_16 hk_p0 22 1622 rfl (by decide) rfl (lk_n kw_1479 rfl) hf dX15_known_85 (fun r10 hf => ?_)
          refine v_iload (x := x8) dX15_known_88 0 rfl ?_
          obtain ⟨a11, rfl, hf⟩ := nn_of hf
          obtain ⟨hk_a11, hf⟩ := gt_of hf
          refine v_iald hk_a11 hf dX15_known_90 (fun x12 hf => ?_)
          exact v_iret hf dX15_known_91
        rw [if_neg hq0] at hf
        by_cases hq1 : p3 = 1
        · rw [if_pos hq1] at hf
          refine v_tswIn (tgt := 92) (c9 := 1) hq1 dX15_known_47 (by decide) (by decide) rfl (by decide) ?_
          refine v_aload_n (x := (some p0)) dX15_known_92 rfl 1 rfl ?_
          refine v_getr cb_16 hk_p0 24 1624 rfl (by decide) rfl (lk_n kw_1481 rfl) hf dX15_known_93 (fun r13 hf => ?_)
          refine v_iload (x := x8) dX15_known_96 0 rfl ?_
          obtain ⟨a14, rfl, hf⟩ := nn_of hf
          obtain ⟨hk_a14, hf⟩ := gt_of hf
          refine v_zald hk_a14 hf dX15_known_98 (fun x15 hf => ?_)
          refine v_if_eq (tgt := 106) hf dX15_known_99 (by decide) (fun hq hf => ?_) (fun hq hf => ?_)
          · refine v_iconst (v := 0) dX15_known_106 (by decide) ?_
            refine v_sub [] (L2 := []) rfl ?_
            exact t_X15_known_b107  hf
          · refine v_iconst (v := 1) dX15_known_102 (by decide) ?_
            refine v_goto (tgt := 107) dX15_known_103 (by decide) ?_
            refine v_sub [] (L2 := []) rfl ?_
            exact t_X15_known_b107  hf
        rw [if_neg hq1] at hf
        by_cases hq2 : p3 = 2
        · rw [if_pos hq2] at hf
          refine v_tswIn (tgt := 108) (c9 := 2) hq2 dX15_known_47 (by decide) (by decide) rfl (by decide) ?_
          refine v_aload_n (x := (some p0)) dX15_known_108 rfl 1 rfl ?_
          refine v_getr cb_16 hk_p0 23 1623 rfl (by decide) rfl (lk_n kw_1480 rfl) hf dX15_known_109 (fun r16 hf => ?_)
          refine v_iload (x := x8) dX15_known_112 0 rfl ?_
          obtain ⟨a17, rfl, hf⟩ := nn_of hf
          obtain ⟨hk_a17, hf⟩ := gt_of hf
          refine v_iald hk_a17 hf dX15_known_114 (fun x18 hf => ?_)
          exact v_iret hf dX15_known_115
        rw [if_neg hq2] at hf
        by_cases hq3 : p3 = 3
        · rw [if_pos hq3] at hf
          refine v_tswIn (tgt := 116) (c9 := 3) hq3 dX15_known_47 (by decide) (by decide) rfl (by decide) ?_
          refine v_aload_n (x := (some p0)) dX15_known_116 rfl 1 rfl ?_
          refine v_getr cb_16 hk_p0 19 1619 rfl (by decide) rfl (lk_n kw_1476 rfl) hf dX15_known_117 (fun r19 hf => ?_)
          refine v_bipush (v := 10) dX15_known_120 (by decide) ?_
          refine v_iload_n (x := p1) dX15_known_122 rfl 2 rfl ?_
          refine v_imul dX15_known_123 ?_
          refine v_iload_n (x := p2) dX15_known_124 rfl 3 rfl ?_
          refine v_iadd dX15_known_125 ?_
          obtain ⟨a20, rfl, hf⟩ := nn_of hf
          obtain ⟨hk_a20, hf⟩ := gt_of hf
          refine v_iald hk_a20 hf dX15_known_126 (fun x21 hf => ?_)
          exact v_iret hf dX15_known_127
        rw [if_neg hq3] at hf
        by_cases hq4 : p3 = 4
        · rw [if_pos hq4] at hf
          refine v_tswIn (tgt := 128) (c9 := 4) hq4 dX15_known_47 (by decide) (by decide) rfl (by decide) ?_
          refine v_aload_n (x := (some p0)) dX15_known_128 rfl 1 rfl ?_
          refine v_iload_n (x := p1) dX15_known_129 rfl 2 rfl ?_
          refine v_iload_n (x := p2) dX15_known_130 rfl 3 rfl ?_
          refine v_aload_n (x := (some p0)) dX15_known_131 rfl 1 rfl ?_
          obtain ⟨x22, s23, hcs23, hf⟩ := bd_of hf
          have hts23 := c_X15_today (l := l) (D := D) (cy := cy) (ka := ka) hcs23
          refine v_callV cb_16 hk_p0 (As := []) (rest := [.int p2, .int p1, va_rf (some p0)]) hts23 yb_X15_today kw_1774 kw_1776 kp_84 rfl ⟨Nat.le_of_ble_eq_true rfl, Nat.le_of_ble_eq_true rfl⟩ rfl (cat_len (Nat.le_of_ble_eq_true rfl)) dX15_known_132 ?_
          have hk_p0 := tk_ hts23.1 hk_p0
          show v_ l D cy ka cX15_known RX15 5 (some FieldType.int) "known" 1 25 (qf_ D cy σ z (some (.int r))) σ z _ 135 [(4, .int x8), (0, va_rf (some p0)), (1, .int p1), (2, .int p2), (3, .int p3)] [.int x22, .int p2, .int p1, va_rf (some p0)]
          obtain ⟨x24, s25, hcs25, hf⟩ := bd_of hf
          have hts25 := c_X15_isStale (l := l) (D := D) (cy := cy) (ka := ka) hcs25
          refine v_callV cb_16 hk_p0 (As := [.int p1, .int p2, .int x22]) (rest := []) hts25 yb_X15_isStale kw_1801 kw_1803 kp_90 rfl ⟨Nat.le_of_ble_eq_true rfl, Nat.le_of_ble_eq_true rfl⟩ rfl (cat_len (Nat.le_of_ble_eq_true rfl)) dX15_known_135 ?_
          have hk_p0 := tk_ hts25.1 hk_p0
          show v_ l D cy ka cX15_known RX15 5 (some FieldType.int) "known" 1 25 (qf_ D cy σ z (some (.int r))) σ z _ 138 [(4, .int x8), (0, va_rf (some p0)), (1, .int p1), (2, .int p2), (3, .int p3)] [.int x24]
          refine v_if_eq (tgt := 145) hf dX15_known_138 (by decide) (fun hq hf => ?_) (fun hq hf => ?_)
          · refine v_iconst (v := 0) dX15_known_145 (by decide) ?_
            refine v_sub [] (L2 := []) rfl ?_
            exact t_X15_known_b146  hf
          · refine v_iconst (v := 1) dX15_known_141 (by decide) ?_
            refine v_goto (tgt := 146) dX15_known_142 (by decide) ?_
            refine v_sub [] (L2 := []) rfl ?_
            exact t_X15_known_b146  hf
        rw [if_neg hq4] at hf
        by_cases hq5 : p3 = 5
        · rw [if_pos hq5] at hf
          refine v_tswIn (tgt := 147) (c9 := 5) hq5 dX15_known_47 (by decide) (by decide) rfl (by decide) ?_
          refine v_aload_n (x := (some p0)) dX15_known_147 rfl 1 rfl ?_
          refine v_iload_n (x := p1) dX15_known_148 rfl 2 rfl ?_
          refine v_iload_n (x := p2) dX15_known_149 rfl 3 rfl ?_
          obtain ⟨x26, s27, hcs27, hf⟩ := bd_of hf
          have hts27 := c_X15_many (l := l) (D := D) (cy := cy) (ka := ka) hcs27
          refine v_callV cb_16 hk_p0 (As := [.int p1, .int p2]) (rest := []) hts27 yb_X15_many kw_1820 kw_1822 kp_91 rfl ⟨Nat.le_of_ble_eq_true rfl, Nat.le_of_ble_eq_true rfl⟩ rfl (cat_len (Nat.le_of_ble_eq_true rfl)) dX15_known_150 ?_
          have hk_p0 := tk_ hts27.1 hk_p0
          show v_ l D cy ka cX15_known RX15 5 (some FieldType.int) "known" 1 25 (qf_ D cy σ z (some (.int r))) σ z _ 153 [(4, .int x8), (0, va_rf (some p0)), (1, .int p1), (2, .int p2), (3, .int p3)] [.int x26]
          exact v_iret hf dX15_known_153
        rw [if_neg hq5] at hf
        refine v_tswOut (tgt := 154) 6 0 (by decide) (by decide) (fun j hj => ?_) (by decide) (by decide) dX15_known_47 (by decide) ?_
        · match j, hj with
          | 0, _ => exact hq0
          | 1, _ => exact hq1
          | 2, _ => exact hq2
          | 3, _ => exact hq3
          | 4, _ => exact hq4
          | 5, _ => exact hq5
          | j + 6, hj => exact absurd hj (by omega)
        · refine v_iconst (v := (-1)) dX15_known_154 (by decide) ?_
          exact v_iret hf dX15_known_155
theorem dX15_knownOn_0 : decode cX15_knownOn 0 = .ok (.aload_n 0, 1) := by decide +kernel
theorem dX15_knownOn_1 : decode cX15_knownOn 1 = .ok (.iconst 0, 1) := by decide +kernel
theorem dX15_knownOn_2 : decode cX15_knownOn 2 = .ok (.putfield 1, 3) := by decide +kernel
theorem dX15_knownOn_5 : decode cX15_knownOn 5 = .ok (.aload_n 0, 1) := by decide +kernel
theorem dX15_knownOn_6 : decode cX15_knownOn 6 = .ok (.iload_n 1, 1) := by decide +kernel
theorem dX15_knownOn_7 : decode cX15_knownOn 7 = .ok (.invokevirtual 227, 3) := by decide +kernel
theorem dX15_knownOn_10 : decode cX15_knownOn 10 = .ok (.ifCond .eq 21, 3) := by decide +kernel
theorem dX15_knownOn_13 : decode cX15_knownOn 13 = .ok (.iload_n 2, 1) := by decide +kernel
theorem dX15_knownOn_14 : decode cX15_knownOn 14 = .ok (.invokestatic 250, 3) := by decide +kernel
theorem dX15_knownOn_17 : decode cX15_knownOn 17 = .ok (.ifCond .eq 14, 3) := by decide +kernel
theorem dX15_knownOn_20 : decode cX15_knownOn 20 = .ok (.iload_n 3, 1) := by decide +kernel
theorem dX15_knownOn_21 : decode cX15_knownOn 21 = .ok (.iconst 0, 1) := by decide +kernel
theorem dX15_knownOn_22 : decode cX15_knownOn 22 = .ok (.sipush 3650, 3) := by decide +kernel
theorem dX15_knownOn_25 : decode cX15_knownOn 25 = .ok (.invokestatic 197, 3) := by decide +kernel
theorem dX15_knownOn_28 : decode cX15_knownOn 28 = .ok (.ifCond .ne 7, 3) := by decide +kernel
theorem dX15_knownOn_31 : decode cX15_knownOn 31 = .ok (.ldc_w 268, 3) := by decide +kernel
theorem dX15_knownOn_34 : decode cX15_knownOn 34 = .ok (.ireturn, 1) := by decide +kernel
theorem dX15_knownOn_35 : decode cX15_knownOn 35 = .ok (.aload_n 0, 1) := by decide +kernel
theorem dX15_knownOn_36 : decode cX15_knownOn 36 = .ok (.iload_n 1, 1) := by decide +kernel
theorem dX15_knownOn_37 : decode cX15_knownOn 37 = .ok (.iload_n 2, 1) := by decide +kernel
theorem dX15_knownOn_38 : decode cX15_knownOn 38 = .ok (.iload_n 3, 1) := by decide +kernel
theorem dX15_knownOn_39 : decode cX15_knownOn 39 = .ok (.invokevirtual 262, 3) := by decide +kernel
theorem dX15_knownOn_42 : decode cX15_knownOn 42 = .ok (.istore 4, 2) := by decide +kernel
theorem dX15_knownOn_44 : decode cX15_knownOn 44 = .ok (.iload 4, 2) := by decide +kernel
theorem dX15_knownOn_46 : decode cX15_knownOn 46 = .ok (.iconst (-1), 1) := by decide +kernel
theorem dX15_knownOn_47 : decode cX15_knownOn 47 = .ok (.if_icmp .ne 9, 3) := by decide +kernel
theorem dX15_knownOn_50 : decode cX15_knownOn 50 = .ok (.ldc_w 268, 3) := by decide +kernel
theorem dX15_knownOn_53 : decode cX15_knownOn 53 = .ok (.goto 10, 3) := by decide +kernel
theorem dX15_knownOn_56 : decode cX15_knownOn 56 = .ok (.aload_n 0, 1) := by decide +kernel
theorem dX15_knownOn_57 : decode cX15_knownOn 57 = .ok (.getfield 63, 3) := by decide +kernel
theorem dX15_knownOn_60 : decode cX15_knownOn 60 = .ok (.iload 4, 2) := by decide +kernel
theorem dX15_knownOn_62 : decode cX15_knownOn 62 = .ok (.iaload, 1) := by decide +kernel
theorem dX15_knownOn_63 : decode cX15_knownOn 63 = .ok (.ireturn, 1) := by decide +kernel
def f_X15_knownOn_b31 (σ : TH) : Option (Int32 × TH) :=
  some (((-2147483648) : Int32), σ)
set_option maxHeartbeats 4000000 in
set_option maxRecDepth 100000 in
theorem t_X15_knownOn_b31 {l : Launch} {D : va_G} {cy : Nat → ClassId} {ka : Nat → Nat} {σ0 z : TH} {r : Int32}  {σ : TH}  (hf : f_X15_knownOn_b31 σ  = some (r, z)) : v_ l D cy ka cX15_knownOn RX15 5 (some FieldType.int) "knownOn" 1 25 (qf_ D cy σ0 z (some (.int r))) σ0 z σ 31 [] [] := by
  unfold f_X15_knownOn_b31 at hf
  refine v_ldcw (v := (-2147483648)) kw_1832 dX15_knownOn_31 ?_
  exact v_iret hf dX15_knownOn_34
def f_X15_knownOn_b63 (σ : TH) (t0 : Int32) : Option (Int32 × TH) :=
  some (t0, σ)
set_option maxHeartbeats 4000000 in
set_option maxRecDepth 100000 in
theorem t_X15_knownOn_b63 {l : Launch} {D : va_G} {cy : Nat → ClassId} {ka : Nat → Nat} {σ0 z : TH} {r : Int32}  {σ : TH} {t0 : Int32} (hf : f_X15_knownOn_b63 σ t0 = some (r, z)) : v_ l D cy ka cX15_knownOn RX15 5 (some FieldType.int) "knownOn" 1 25 (qf_ D cy σ0 z (some (.int r))) σ0 z σ 63 [] [.int t0] := by
  unfold f_X15_knownOn_b63 at hf
  exact v_iret hf dX15_knownOn_63
/-- LivesAheadModel.knownOn(III)I -/
def f_X15_knownOn (σ : TH) (p0 : Nat) (p1 : Int32) (p2 : Int32) (p3 : Int32) : Option (Int32 × TH) :=
  gt_ (kd_ σ p0 = 17) <| lt_ (si_ σ 1600 p0 (0 : Int32)) fun s1 => bd_ (f_X15_isPerson s1 p0 p1) fun x2 s3 => if x2 = 0 then (f_X15_knownOn_b31 s3 ) else (bd_ (f_X15_isKind s3 p2) fun x4 s5 => if x4 = 0 then (f_X15_knownOn_b31 s5 ) else (bd_ (f_X15_in s5 p3 (0 : Int32) (3650 : Int32)) fun x6 s7 => if x6 = 0 then (f_X15_knownOn_b31 s7 ) else (bd_ (f_X15_tellingOn s7 p0 p1 p2 p3) fun x8 s9 => if x8 = (-1 : Int32) then (f_X15_knownOn_b63 s9 (((-2147483648) : Int32))) else (lt_ (fr_ s9 1622 p0) fun r10 => nn_ r10 fun a11 => gt_ (kd_ s9 a11 = 20) <| gt_ (¬ (x8 < 0 ∨ ln_ s9 a11 ≤ x8.toNatClampNeg)) <| lt_ (ai_ s9 a11 x8.toNatClampNeg) fun x12 => f_X15_knownOn_b63 s9 x12))))
set_option maxHeartbeats 4000000 in
set_option maxRecDepth 100000 in
theorem c_X15_knownOn {l : Launch} {D : va_G} {cy : Nat → ClassId} {ka : Nat → Nat} {σ z : TH} {p0 : Nat} {p1 : Int32} {p2 : Int32} {p3 : Int32} {r : Int32} (hf : f_X15_knownOn σ p0 p1 p2 p3 = some (r, z)) : ct_ l D cy ka yX15_knownOn 1 25 [va_rf (some p0), .int p1, .int p2, .int p3] σ (some (.int r)) z := by
  unfold f_X15_knownOn at hf
  refine v_start (cc := cX15_knownOn) (own := RX15) (maxL := 5) (ret := (some FieldType.int)) (nm := "knownOn") (by decide +kernel) kw_1840 rfl rfl (by simp [lg_sl, va_rf_cat, cat_i, cat_l]) ?_
  refine v_eqL (L2 := [(0, va_rf (some p0)), (1, .int p1), (2, .int p2), (3, .int p3)]) (by simp [lv_args, va_rf_cat, cat_i, cat_l]) ?_
  refine v_aload_n (x := (some p0)) dX15_knownOn_0 rfl 0 rfl ?_
  refine v_iconst (v := 0) dX15_knownOn_1 (by decide) ?_
  obtain ⟨hk_p0, hf⟩ := gt_of hf
  refine v_puti2 cb_16 hk_p0 0 1600 rfl (by decide) rfl (lk_n kw_1457 rfl) (Or.inl rfl) rfl rfl hf dX15_knownOn_2 (fun s1 hts1 hf => ?_)
  have hk_p0 := tk_ hts1 hk_p0
  refine v_aload_n (x := (some p0)) dX15_knownOn_5 rfl 0 rfl ?_
  refine v_iload_n (x := p1) dX15_knownOn_6 rfl 1 rfl ?_
  obtain ⟨x2, s3, hcs3, hf⟩ := bd_of hf
  have hts3 := c_X15_isPerson (l := l) (D := D) (cy := cy) (ka := ka) hcs3
  refine v_callV cb_16 hk_p0 (As := [.int p1]) (rest := []) hts3 yb_X15_isPerson kw_1770 kw_1772 kp_83 rfl ⟨Nat.le_of_ble_eq_true rfl, Nat.le_of_ble_eq_true rfl⟩ rfl (cat_len (Nat.le_of_ble_eq_true rfl)) dX15_knownOn_7 ?_
  have hk_p0 := tk_ hts3.1 hk_p0
  show v_ l D cy ka cX15_knownOn RX15 5 (some FieldType.int) "knownOn" 1 25 (qf_ D cy σ z (some (.int r))) σ z _ 10 [(0, va_rf (some p0)), (1, .int p1), (2, .int p2), (3, .int p3)] [.int x2]
  refine v_if_eq (tgt := 31) hf dX15_knownOn_10 (by decide) (fun hq hf => ?_) (fun hq hf => ?_)
  · refine v_sub [] (L2 := []) rfl ?_
    exact t_X15_knownOn_b31  hf
  · refine v_iload_n (x := p2) dX15_knownOn_13 rfl 2 rfl ?_
    obtain ⟨x4, s5, hcs5, hf⟩ := bd_of hf
    have hts5 := c_X15_isKind (l := l) (D := D) (cy := cy) (ka := ka) hcs5
    refine v_callS (As := [.int p2]) (rest := []) hts5 yb_X15_isKind kw_1813 kw_1814 rfl ⟨Nat.le_of_ble_eq_true rfl, Nat.le_of_ble_eq_true rfl⟩ rfl (cat_len (Nat.le_of_ble_eq_true rfl)) dX15_knownOn_14 ?_
    have hk_p0 := tk_ hts5.1 hk_p0
    show v_ l D cy ka cX15_knownOn RX15 5 (some FieldType.int) "knownOn" 1 25 (qf_ D cy σ z (some (.int r))) σ z _ 17 [(0, va_rf (some p0)), (1, .int p1), (2, .int p2), (3, .int p3)] [.int x4]
    refine v_if_eq (tgt := 31) hf dX15_knownOn_17 (by decide) (fun hq hf => ?_) (fun hq hf => ?_)
    · refine v_sub [] (L2 := []) rfl ?_
      exact t_X15_knownOn_b31  hf
    · refine v_iload_n (x := p3) dX15_knownOn_20 rfl 3 rfl ?_
      refine v_iconst (v := 0) dX15_knownOn_21 (by decide) ?_
      refine v_sipush (v := 3650) dX15_knownOn_22 (by decide) ?_
      obtain ⟨x6, s7, hcs7, hf⟩ := bd_of hf
      have hts7 := c_X15_in (l := l) (D := D) (cy := cy) (ka := ka) hcs7
      refine v_callS (As := [.int p3, .int (0 : Int32), .int (3650 : Int32)]) (rest := []) hts7 yb_X15_in kw_1726 kw_1727 rfl ⟨Nat.le_of_ble_eq_true rfl, Nat.le_of_ble_eq_true rfl⟩ rfl (cat_len (Nat.le_of_ble_eq_true rfl)) dX15_knownOn_25 ?_
      have hk_p0 := tk_ hts7.1 hk_p0
      show v_ l D cy ka cX15_knownOn RX15 5 (some FieldType.int) "knownOn" 1 25 (qf_ D cy σ z (some (.int r))) σ z _ 28 [(0, va_rf (some p0)), (1, .int p1), (2, .int p2), (3, .int p3)] [.int x6]
      refine v_if_ne (tgt := 35) hf dX15_knownOn_28 (by decide) (fun hq hf => ?_) (fun hq hf => ?_)
      · refine v_sub [] (L2 := []) rfl ?_
        exact t_X15_knownOn_b31  hf
      · refine v_aload_n (x := (some p0)) dX15_knownOn_35 rfl 0 rfl ?_
        refine v_iload_n (x := p1) dX15_knownOn_36 rfl 1 rfl ?_
        refine v_iload_n (x := p2) dX15_knownOn_37 rfl 2 rfl ?_
        refine v_iload_n (x := p3) dX15_knownOn_38 rfl 3 rfl ?_
        obtain ⟨x8, s9, hcs9, hf⟩ := bd_of hf
        have hts9 := c_X15_tellingOn (l := l) (D := D) (cy := cy) (ka := ka) hcs9
        refine v_callV cb_16 hk_p0 (As := [.int p1, .int p2, .int p3]) (rest := []) hts9 yb_X15_tellingOn kw_1833 kw_1835 kp_92 rfl ⟨Nat.le_of_ble_eq_true rfl, Nat.le_of_ble_eq_true rfl⟩ rfl (cat_len (Nat.le_of_ble_eq_true rfl)) dX15_knownOn_39 ?_
        have hk_p0 := tk_ hts9.1 hk_p0
        show v_ l D cy ka cX15_knownOn RX15 5 (some FieldType.int) "knownOn" 1 25 (qf_ D cy σ z (some (.int r))) σ z _ 42 [(0, va_rf (some p0)), (1, .int p1), (2, .int p2), (3, .int p3)] [.int x8]
        refine v_istore [(4, .int x8), (0, va_rf (some p0)), (1, .int p1), (2, .int p2), (3, .int p3)] dX15_knownOn_42 (by decide) rfl ?_
        refine v_iload (x := x8) dX15_knownOn_44 0 rfl ?_
        refine v_iconst (v := (-1)) dX15_knownOn_46 (by decide) ?_
        refine v_icmp_ne (tgt := 56) hf dX15_knownOn_47 (by decide) (fun hq hf => ?_) (fun hq hf => ?_)
        · refine v_ldcw (v := (-2147483648)) kw_1832 dX15_knownOn_50 ?_
          refine v_goto (tgt := 63) dX15_knownOn_53 (by decide) ?_
          refine v_sub [] (L2 := []) rfl ?_
          exact t_X15_knownOn_b63  hf
        · refine v_aload_n (x := (some p0)) dX15_knownOn_56 rfl 1 rfl ?_
          refine v_getr cb_16 hk_p0 22 1622 rfl (by decide) rfl (lk_n kw_1479 rfl) hf dX15_knownOn_57 (fun r10 hf => ?_)
          refine v_iload (x := x8) dX15_knownOn_60 0 rfl ?_
          obtain ⟨a11, rfl, hf⟩ := nn_of hf
          obtain ⟨hk_a11, hf⟩ := gt_of hf
          refine v_iald hk_a11 hf dX15_knownOn_62 (fun x12 hf => ?_)
          refine v_sub [] (L2 := []) rfl ?_
          exact t_X15_knownOn_b63  hf
theorem dX15_out_0 : decode cX15_out 0 = .ok (.aload_n 0, 1) := by decide +kernel
theorem dX15_out_1 : decode cX15_out 1 = .ok (.iload_n 1, 1) := by decide +kernel
theorem dX15_out_2 : decode cX15_out 2 = .ok (.ifCond .lt 11, 3) := by decide +kernel
theorem dX15_out_5 : decode cX15_out 5 = .ok (.iload_n 1, 1) := by decide +kernel
theorem dX15_out_6 : decode cX15_out 6 = .ok (.aload_n 0, 1) := by decide +kernel
theorem dX15_out_7 : decode cX15_out 7 = .ok (.getfield 517, 3) := by decide +kernel
theorem dX15_out_10 : decode cX15_out 10 = .ok (.if_icmp .lt 7, 3) := by decide +kernel
theorem dX15_out_13 : decode cX15_out 13 = .ok (.iconst 1, 1) := by decide +kernel
theorem dX15_out_14 : decode cX15_out 14 = .ok (.goto 4, 3) := by decide +kernel
theorem dX15_out_17 : decode cX15_out 17 = .ok (.iconst 0, 1) := by decide +kernel
theorem dX15_out_18 : decode cX15_out 18 = .ok (.putfield 1, 3) := by decide +kernel
theorem dX15_out_21 : decode cX15_out 21 = .ok (.aload_n 0, 1) := by decide +kernel
theorem dX15_out_22 : decode cX15_out 22 = .ok (.getfield 1, 3) := by decide +kernel
theorem dX15_out_25 : decode cX15_out 25 = .ok (.ifCond .le 7, 3) := by decide +kernel
theorem dX15_out_28 : decode cX15_out 28 = .ok (.iconst 0, 1) := by decide +kernel
theorem dX15_out_29 : decode cX15_out 29 = .ok (.goto 9, 3) := by decide +kernel
theorem dX15_out_32 : decode cX15_out 32 = .ok (.aload_n 0, 1) := by decide +kernel
theorem dX15_out_33 : decode cX15_out 33 = .ok (.getfield 86, 3) := by decide +kernel
theorem dX15_out_36 : decode cX15_out 36 = .ok (.iload_n 1, 1) := by decide +kernel
theorem dX15_out_37 : decode cX15_out 37 = .ok (.baload, 1) := by decide +kernel
theorem dX15_out_38 : decode cX15_out 38 = .ok (.ireturn, 1) := by decide +kernel
def f_X15_out_b38 (σ : TH) (t0 : Int32) : Option (Int32 × TH) :=
  some (t0, σ)
set_option maxHeartbeats 4000000 in
set_option maxRecDepth 100000 in
theorem t_X15_out_b38 {l : Launch} {D : va_G} {cy : Nat → ClassId} {ka : Nat → Nat} {σ0 z : TH} {r : Int32}  {σ : TH} {t0 : Int32} (hf : f_X15_out_b38 σ t0 = some (r, z)) : v_ l D cy ka cX15_out RX15 2 (some FieldType.int) "out" 0 0 (qf_ D cy σ0 z (some (.int r))) σ0 z σ 38 [] [.int t0] := by
  unfold f_X15_out_b38 at hf
  exact v_iret hf dX15_out_38
def f_X15_out_b18 (σ : TH) (l0 : Nat) (l1 : Int32) (t0 : Int32) (t1 : Option Nat) : Option (Int32 × TH) :=
  nn_ t1 fun a1 => gt_ (kd_ σ a1 = 17) <| lt_ (si_ σ 1600 a1 t0) fun s2 => gt_ (kd_ s2 l0 = 17) <| lt_ (fi_ s2 1600 l0) fun x3 => if x3 ≤ 0 then (lt_ (fr_ s2 1628 l0) fun r4 => nn_ r4 fun a5 => gt_ (kd_ s2 a5 = 21) <| gt_ (¬ (l1 < 0 ∨ ln_ s2 a5 ≤ l1.toNatClampNeg)) <| lt_ (ai_ s2 a5 l1.toNatClampNeg) fun x6 => f_X15_out_b38 s2 x6) else (f_X15_out_b38 s2 (0 : Int32))
set_option maxHeartbeats 4000000 in
set_option maxRecDepth 100000 in
theorem t_X15_out_b18 {l : Launch} {D : va_G} {cy : Nat → ClassId} {ka : Nat → Nat} {σ0 z : TH} {r : Int32}  {σ : TH} {l0 : Nat} {l1 : Int32} {t0 : Int32} {t1 : Option Nat} (hf : f_X15_out_b18 σ l0 l1 t0 t1 = some (r, z)) : v_ l D cy ka cX15_out RX15 2 (some FieldType.int) "out" 0 0 (qf_ D cy σ0 z (some (.int r))) σ0 z σ 18 [(0, va_rf (some l0)), (1, .int l1)] [.int t0, va_rf t1] := by
  unfold f_X15_out_b18 at hf
  obtain ⟨a1, rfl, hf⟩ := nn_of hf
  obtain ⟨hk_a1, hf⟩ := gt_of hf
  refine v_puti2 cb_16 hk_a1 0 1600 rfl (by decide) rfl (lk_n kw_1457 rfl) (Or.inl rfl) rfl rfl hf dX15_out_18 (fun s2 hts2 hf => ?_)
  refine v_aload_n (x := (some l0)) dX15_out_21 rfl 0 rfl ?_
  obtain ⟨hk_l0, hf⟩ := gt_of hf
  refine v_geti cb_16 hk_l0 0 1600 rfl (by decide) rfl (lk_n kw_1457 rfl) hf dX15_out_22 (fun x3 hf => ?_)
  refine v_if_le (tgt := 32) hf dX15_out_25 (by decide) (fun hq hf => ?_) (fun hq hf => ?_)
  · refine v_aload_n (x := (some l0)) dX15_out_32 rfl 0 rfl ?_
    refine v_getr cb_16 hk_l0 28 1628 rfl (by decide) rfl (lk_n kw_1485 rfl) hf dX15_out_33 (fun r4 hf => ?_)
    refine v_iload_n (x := l1) dX15_out_36 rfl 1 rfl ?_
    obtain ⟨a5, rfl, hf⟩ := nn_of hf
    obtain ⟨hk_a5, hf⟩ := gt_of hf
    refine v_bald hk_a5 hf dX15_out_37 (fun x6 hf => ?_)
    refine v_sub [] (L2 := []) rfl ?_
    exact t_X15_out_b38  hf
  · refine v_iconst (v := 0) dX15_out_28 (by decide) ?_
    refine v_goto (tgt := 38) dX15_out_29 (by decide) ?_
    refine v_sub [] (L2 := []) rfl ?_
    exact t_X15_out_b38  hf
def f_X15_out_b13 (σ : TH) (l0 : Nat) (l1 : Int32) (t0 : Option Nat) : Option (Int32 × TH) :=
  f_X15_out_b18 σ l0 l1 (1 : Int32) t0
set_option maxHeartbeats 4000000 in
set_option maxRecDepth 100000 in
theorem t_X15_out_b13 {l : Launch} {D : va_G} {cy : Nat → ClassId} {ka : Nat → Nat} {σ0 z : TH} {r : Int32}  {σ : TH} {l0 : Nat} {l1 : Int32} {t0 : Option Nat} (hf : f_X15_out_b13 σ l0 l1 t0 = some (r, z)) : v_ l D cy ka cX15_out RX15 2 (some FieldType.int) "out" 0 0 (qf_ D cy σ0 z (some (.int r))) σ0 z σ 13 [(0, va_rf (some l0)), (1, .int l1)] [va_rf t0] := by
  unfold f_X15_out_b13 at hf
  refine v_iconst (v := 1) dX15_out_13 (by decide) ?_
  refine v_goto (tgt := 18) dX15_out_14 (by decide) ?_
  refine v_sub [0, 1] (L2 := [(0, va_rf (some l0)), (1, .int l1)]) rfl ?_
  exact t_X15_out_b18  hf
/-- LivesAheadModel.out(I)I -/
def f_X15_out (σ : TH) (p0 : Nat) (p1 : Int32) : Option (Int32 × TH) :=
  if p1 < 0 then (f_X15_out_b13 σ p0 p1 (some p0)) else (gt_ (kd_ σ p0 = 17) <| lt_ (fi_ σ 1642 p0) fun x7 => if p1 < x7 then (f_X15_out_b18 σ p0 p1 (0 : Int32) (some p0)) else (f_X15_out_b13 σ p0 p1 (some p0)))
set_option maxHeartbeats 4000000 in
set_option maxRecDepth 100000 in
theorem c_X15_out {l : Launch} {D : va_G} {cy : Nat → ClassId} {ka : Nat → Nat} {σ z : TH} {p0 : Nat} {p1 : Int32} {r : Int32} (hf : f_X15_out σ p0 p1 = some (r, z)) : ct_ l D cy ka yX15_out 0 0 [va_rf (some p0), .int p1] σ (some (.int r)) z := by
  unfold f_X15_out at hf
  refine v_start (cc := cX15_out) (own := RX15) (maxL := 2) (ret := (some FieldType.int)) (nm := "out") (by decide +kernel) kw_2089 rfl rfl (by simp [lg_sl, va_rf_cat, cat_i, cat_l]) ?_
  refine v_eqL (L2 := [(0, va_rf (some p0)), (1, .int p1)]) (by simp [lv_args, va_rf_cat, cat_i, cat_l]) ?_
  refine v_aload_n (x := (some p0)) dX15_out_0 rfl 0 rfl ?_
  refine v_iload_n (x := p1) dX15_out_1 rfl 1 rfl ?_
  refine v_if_lt (tgt := 13) hf dX15_out_2 (by decide) (fun hq hf => ?_) (fun hq hf => ?_)
  · refine v_sub [0, 1] (L2 := [(0, va_rf (some p0)), (1, .int p1)]) rfl ?_
    exact t_X15_out_b13  hf
  · refine v_iload_n (x := p1) dX15_out_5 rfl 1 rfl ?_
    refine v_aload_n (x := (some p0)) dX15_out_6 rfl 0 rfl ?_
    obtain ⟨hk_p0, hf⟩ := gt_of hf
    refine v_geti cb_16 hk_p0 42 1642 rfl (by decide) rfl (lk_n kw_1499 rfl) hf dX15_out_7 (fun x7 hf => ?_)
    refine v_icmp_lt (tgt := 17) hf dX15_out_10 (by decide) (fun hq hf => ?_) (fun hq hf => ?_)
    · refine v_iconst (v := 0) dX15_out_17 (by decide) ?_
      refine v_sub [0, 1] (L2 := [(0, va_rf (some p0)), (1, .int p1)]) rfl ?_
      exact t_X15_out_b18  hf
    · refine v_sub [0, 1] (L2 := [(0, va_rf (some p0)), (1, .int p1)]) rfl ?_
      exact t_X15_out_b13  hf
theorem dX13_init_0 : decode cX13_init 0 = .ok (.aload_n 0, 1) := by decide +kernel
theorem dX13_init_1 : decode cX13_init 1 = .ok (.invokespecial 1, 3) := by decide +kernel
theorem dX13_init_4 : decode cX13_init 4 = .ok (.return_, 1) := by decide +kernel
/-- LivesAheadModel$Paragraph.<init>()V -/
def f_X13_init (σ : TH) (p0 : Nat) : Option (Unit × TH) :=
  some ((), σ)
set_option maxHeartbeats 4000000 in
set_option maxRecDepth 100000 in
theorem c_X13_init {l : Launch} {D : va_G} {cy : Nat → ClassId} {ka : Nat → Nat} {σ z : TH} {p0 : Nat} {r : Unit} (hf : f_X13_init σ p0 = some (r, z)) : ct_ l D cy ka yX13_init 1 20 [va_rf (some p0)] σ none z := by
  unfold f_X13_init at hf
  refine v_start (cc := cX13_init) (own := RX13) (maxL := 1) (ret := none) (nm := "<init>") (by decide +kernel) kw_2026 rfl rfl (by simp [lg_sl, va_rf_cat, cat_i, cat_l]) ?_
  refine v_eqL (L2 := [(0, va_rf (some p0))]) (by simp [lv_args, va_rf_cat, cat_i, cat_l]) ?_
  refine v_aload_n (x := (some p0)) dX13_init_0 rfl 0 rfl ?_
  refine v_objInit kw_2027 kw_40 kw_41 (by decide) (by decide) (cat_len (Nat.le_of_ble_eq_true rfl)) dX13_init_1 ?_
  exact v_vret hf dX13_init_4
theorem dX15_isTaped_0 : decode cX15_isTaped 0 = .ok (.iload_n 1, 1) := by decide +kernel
theorem dX15_isTaped_1 : decode cX15_isTaped 1 = .ok (.ifCond .lt 15, 3) := by decide +kernel
theorem dX15_isTaped_4 : decode cX15_isTaped 4 = .ok (.iload_n 1, 1) := by decide +kernel
theorem dX15_isTaped_5 : decode cX15_isTaped 5 = .ok (.aload_n 0, 1) := by decide +kernel
theorem dX15_isTaped_6 : decode cX15_isTaped 6 = .ok (.getfield 466, 3) := by decide +kernel
theorem dX15_isTaped_9 : decode cX15_isTaped 9 = .ok (.if_icmp .gt 7, 3) := by decide +kernel
theorem dX15_isTaped_12 : decode cX15_isTaped 12 = .ok (.iconst 1, 1) := by decide +kernel
theorem dX15_isTaped_13 : decode cX15_isTaped 13 = .ok (.goto 4, 3) := by decide +kernel
theorem dX15_isTaped_16 : decode cX15_isTaped 16 = .ok (.iconst 0, 1) := by decide +kernel
theorem dX15_isTaped_17 : decode cX15_isTaped 17 = .ok (.ireturn, 1) := by decide +kernel
def f_X15_isTaped_b17 (σ : TH) (t0 : Int32) : Option (Int32 × TH) :=
  gt_ (t0 = 0 ∨ t0 = 1) <| some (t0, σ)
set_option maxHeartbeats 4000000 in
set_option maxRecDepth 100000 in
theorem t_X15_isTaped_b17 {l : Launch} {D : va_G} {cy : Nat → ClassId} {ka : Nat → Nat} {σ0 z : TH} {r : Int32}  {σ : TH} {t0 : Int32} (hf : f_X15_isTaped_b17 σ t0 = some (r, z)) : v_ l D cy ka cX15_isTaped RX15 2 (some FieldType.boolean) "isTaped" 0 0 (qf_ D cy σ0 z (some (.int r))) σ0 z σ 17 [] [.int t0] := by
  unfold f_X15_isTaped_b17 at hf
  obtain ⟨hb9, hf⟩ := gt_of hf
  exact v_zret hf (nz_ hb9) dX15_isTaped_17
def f_X15_isTaped_b16 (σ : TH) : Option (Int32 × TH) :=
  f_X15_isTaped_b17 σ (0 : Int32)
set_option maxHeartbeats 4000000 in
set_option maxRecDepth 100000 in
theorem t_X15_isTaped_b16 {l : Launch} {D : va_G} {cy : Nat → ClassId} {ka : Nat → Nat} {σ0 z : TH} {r : Int32}  {σ : TH}  (hf : f_X15_isTaped_b16 σ  = some (r, z)) : v_ l D cy ka cX15_isTaped RX15 2 (some FieldType.boolean) "isTaped" 0 0 (qf_ D cy σ0 z (some (.int r))) σ0 z σ 16 [] [] := by
  unfold f_X15_isTaped_b16 at hf
  refine v_iconst (v := 0) dX15_isTaped_16 (by decide) ?_
  refine v_sub [] (L2 := []) rfl ?_
  exact t_X15_isTaped_b17  hf
/-- LivesAheadModel.isTaped(I)Z -/
def f_X15_isTaped (σ : TH) (p0 : Nat) (p1 : Int32) : Option (Int32 × TH) :=
  if p1 < 0 then (f_X15_isTaped_b16 σ ) else (gt_ (kd_ σ p0 = 17) <| lt_ (fi_ σ 1630 p0) fun x1 => if x1 < p1 then (f_X15_isTaped_b16 σ ) else (f_X15_isTaped_b17 σ (1 : Int32)))
set_option maxHeartbeats 4000000 in
set_option maxRecDepth 100000 in
theorem c_X15_isTaped {l : Launch} {D : va_G} {cy : Nat → ClassId} {ka : Nat → Nat} {σ z : TH} {p0 : Nat} {p1 : Int32} {r : Int32} (hf : f_X15_isTaped σ p0 p1 = some (r, z)) : ct_ l D cy ka yX15_isTaped 0 0 [va_rf (some p0), .int p1] σ (some (.int r)) z := by
  unfold f_X15_isTaped at hf
  refine v_start (cc := cX15_isTaped) (own := RX15) (maxL := 2) (ret := (some FieldType.boolean)) (nm := "isTaped") (by decide +kernel) kw_1864 rfl rfl (by simp [lg_sl, va_rf_cat, cat_i, cat_l]) ?_
  refine v_eqL (L2 := [(0, va_rf (some p0)), (1, .int p1)]) (by simp [lv_args, va_rf_cat, cat_i, cat_l]) ?_
  refine v_iload_n (x := p1) dX15_isTaped_0 rfl 1 rfl ?_
  refine v_if_lt (tgt := 16) hf dX15_isTaped_1 (by decide) (fun hq hf => ?_) (fun hq hf => ?_)
  · refine v_sub [] (L2 := []) rfl ?_
    exact t_X15_isTaped_b16  hf
  · refine v_iload_n (x := p1) dX15_isTaped_4 rfl 1 rfl ?_
    refine v_aload_n (x := (some p0)) dX15_isTaped_5 rfl 0 rfl ?_
    obtain ⟨hk_p0, hf⟩ := gt_of hf
    refine v_geti cb_16 hk_p0 30 1630 rfl (by decide) rfl (lk_n kw_1487 rfl) hf dX15_isTaped_6 (fun x1 hf => ?_)
    refine v_icmp_gt (tgt := 16) hf dX15_isTaped_9 (by decide) (fun hq hf => ?_) (fun hq hf => ?_)
    · refine v_sub [] (L2 := []) rfl ?_
      exact t_X15_isTaped_b16  hf
    · refine v_iconst (v := 1) dX15_isTaped_12 (by decide) ?_
      refine v_goto (tgt := 17) dX15_isTaped_13 (by decide) ?_
      refine v_sub [] (L2 := []) rfl ?_
      exact t_X15_isTaped_b17  hf
theorem dX15_takesText_0 : decode cX15_takesText 0 = .ok (.aload_n 1, 1) := by decide +kernel
theorem dX15_takesText_1 : decode cX15_takesText 1 = .ok (.iload_n 2, 1) := by decide +kernel
theorem dX15_takesText_2 : decode cX15_takesText 2 = .ok (.newarray .byte, 2) := by decide +kernel
theorem dX15_takesText_4 : decode cX15_takesText 4 = .ok (.putfield 483, 3) := by decide +kernel
theorem dX15_takesText_7 : decode cX15_takesText 7 = .ok (.iconst 0, 1) := by decide +kernel
theorem dX15_takesText_8 : decode cX15_takesText 8 = .ok (.istore_n 3, 1) := by decide +kernel
theorem dX15_takesText_9 : decode cX15_takesText 9 = .ok (.iload_n 3, 1) := by decide +kernel
theorem dX15_takesText_10 : decode cX15_takesText 10 = .ok (.iload_n 2, 1) := by decide +kernel
theorem dX15_takesText_11 : decode cX15_takesText 11 = .ok (.if_icmp .ge 21, 3) := by decide +kernel
theorem dX15_takesText_14 : decode cX15_takesText 14 = .ok (.aload_n 1, 1) := by decide +kernel
theorem dX15_takesText_15 : decode cX15_takesText 15 = .ok (.getfield 483, 3) := by decide +kernel
theorem dX15_takesText_18 : decode cX15_takesText 18 = .ok (.iload_n 3, 1) := by decide +kernel
theorem dX15_takesText_19 : decode cX15_takesText 19 = .ok (.aload_n 0, 1) := by decide +kernel
theorem dX15_takesText_20 : decode cX15_takesText 20 = .ok (.getfield 79, 3) := by decide +kernel
theorem dX15_takesText_23 : decode cX15_takesText 23 = .ok (.iload_n 3, 1) := by decide +kernel
theorem dX15_takesText_24 : decode cX15_takesText 24 = .ok (.baload, 1) := by decide +kernel
theorem dX15_takesText_25 : decode cX15_takesText 25 = .ok (.bastore, 1) := by decide +kernel
theorem dX15_takesText_26 : decode cX15_takesText 26 = .ok (.iinc 3 1, 3) := by decide +kernel
theorem dX15_takesText_29 : decode cX15_takesText 29 = .ok (.goto (-20), 3) := by decide +kernel
theorem dX15_takesText_32 : decode cX15_takesText 32 = .ok (.aload_n 1, 1) := by decide +kernel
theorem dX15_takesText_33 : decode cX15_takesText 33 = .ok (.aload_n 0, 1) := by decide +kernel
theorem dX15_takesText_34 : decode cX15_takesText 34 = .ok (.getfield 399, 3) := by decide +kernel
theorem dX15_takesText_37 : decode cX15_takesText 37 = .ok (.putfield 486, 3) := by decide +kernel
theorem dX15_takesText_40 : decode cX15_takesText 40 = .ok (.aload_n 1, 1) := by decide +kernel
theorem dX15_takesText_41 : decode cX15_takesText 41 = .ok (.aload_n 0, 1) := by decide +kernel
theorem dX15_takesText_42 : decode cX15_takesText 42 = .ok (.getfield 345, 3) := by decide +kernel
theorem dX15_takesText_45 : decode cX15_takesText 45 = .ok (.putfield 489, 3) := by decide +kernel
theorem dX15_takesText_48 : decode cX15_takesText 48 = .ok (.return_, 1) := by decide +kernel
def f_X15_takesText_b9 : Nat → TH → Nat → Option Nat → Int32 → Int32 → Option (Unit × TH)
  | 0, _, _, _, _, _ => none
  | n + 1, σ, l0, l1, l2, l3 => if l2 ≤ l3 then (gt_ (kd_ σ l0 = 17) <| lt_ (fi_ σ 1640 l0) fun x5 => nn_ l1 fun a6 => gt_ (kd_ σ a6 = 15) <| lt_ (si_ σ 1404 a6 x5) fun s7 => lt_ (fi_ s7 1638 l0) fun x8 => lt_ (si_ s7 1405 a6 x8) fun s9 => some ((), s9)) else (nn_ l1 fun a10 => gt_ (kd_ σ a10 = 15) <| lt_ (fr_ σ 1406 a10) fun r11 => gt_ (kd_ σ l0 = 17) <| lt_ (fr_ σ 1626 l0) fun r12 => nn_ r12 fun a13 => gt_ (kd_ σ a13 = 21) <| gt_ (¬ (l3 < 0 ∨ ln_ σ a13 ≤ l3.toNatClampNeg)) <| lt_ (ai_ σ a13 l3.toNatClampNeg) fun x14 => nn_ r11 fun a15 => gt_ (kd_ σ a15 = 21) <| gt_ (¬ (l3 < 0 ∨ ln_ σ a15 ≤ l3.toNatClampNeg)) <| lt_ (sa_ σ a15 l3.toNatClampNeg (vp_nar .byte x14)) fun s16 => lt_ (l3 + 1) fun x17 => (f_X15_takesText_b9 n) s16 l0 (some a10) l2 x17)
set_option maxHeartbeats 4000000 in
set_option maxRecDepth 100000 in
theorem t_X15_takesText_b9 {l : Launch} {D : va_G} {cy : Nat → ClassId} {ka : Nat → Nat} {σ0 z : TH} {r : Unit}  : ∀ (n : Nat) (σ : TH) (l0 : Nat) (l1 : Option Nat) (l2 : Int32) (l3 : Int32), f_X15_takesText_b9 n σ l0 l1 l2 l3 = some (r, z) → v_ l D cy ka cX15_takesText RX15 4 none "takesText" 0 0 (qf_ D cy σ0 z none) σ0 z σ 9 [(0, va_rf (some l0)), (1, va_rf l1), (2, .int l2), (3, .int l3)] [] := by
  intro n
  induction n with
  | zero => intro σ l0 l1 l2 l3 hf; unfold f_X15_takesText_b9 at hf; cases hf
  | succ n ih =>
    intro σ l0 l1 l2 l3 hf
    unfold f_X15_takesText_b9 at hf
    have hrec_9 := ih
    refine v_iload_n (x := l3) dX15_takesText_9 rfl 3 rfl ?_
    refine v_iload_n (x := l2) dX15_takesText_10 rfl 2 rfl ?_
    refine v_icmp_ge (tgt := 32) hf dX15_takesText_11 (by decide) (fun hq hf => ?_) (fun hq hf => ?_)
    · refine v_aload_n (x := l1) dX15_takesText_32 rfl 1 rfl ?_
      refine v_aload_n (x := (some l0)) dX15_takesText_33 rfl 0 rfl ?_
      obtain ⟨hk_l0, hf⟩ := gt_of hf
      refine v_geti cb_16 hk_l0 40 1640 rfl (by decide) rfl (lk_n kw_1497 rfl) hf dX15_takesText_34 (fun x5 hf => ?_)
      obtain ⟨a6, rfl, hf⟩ := nn_of hf
      obtain ⟨hk_a6, hf⟩ := gt_of hf
      refine v_puti2 cb_14 hk_a6 4 1404 rfl (by decide) rfl (lk_N kw_2032 rfl) (Or.inl rfl) rfl rfl hf dX15_takesText_37 (fun s7 hts7 hf => ?_)
      have hk_l0 := tk_ hts7 hk_l0
      have hk_a6 := tk_ hts7 hk_a6
      refine v_aload_n (x := (some a6)) dX15_takesText_40 rfl 1 rfl ?_
      refine v_aload_n (x := (some l0)) dX15_takesText_41 rfl 0 rfl ?_
      refine v_geti cb_16 hk_l0 38 1638 rfl (by decide) rfl (lk_n kw_1495 rfl) hf dX15_takesText_42 (fun x8 hf => ?_)
      refine v_puti2 cb_14 hk_a6 5 1405 rfl (by decide) rfl (lk_N kw_2033 rfl) (Or.inl rfl) rfl rfl hf dX15_takesText_45 (fun s9 hts9 hf => ?_)
      have hk_l0 := tk_ hts9 hk_l0
      have hk_a6 := tk_ hts9 hk_a6
      exact v_vret hf dX15_takesText_48
    · refine v_aload_n (x := l1) dX15_takesText_14 rfl 1 rfl ?_
      obtain ⟨a10, rfl, hf⟩ := nn_of hf
      obtain ⟨hk_a10, hf⟩ := gt_of hf
      refine v_getr cb_14 hk_a10 6 1406 rfl (by decide) rfl (lk_N kw_2034 rfl) hf dX15_takesText_15 (fun r11 hf => ?_)
      refine v_iload_n (x := l3) dX15_takesText_18 rfl 3 rfl ?_
      refine v_aload_n (x := (some l0)) dX15_takesText_19 rfl 0 rfl ?_
      obtain ⟨hk_l0, hf⟩ := gt_of hf
      refine v_getr cb_16 hk_l0 26 1626 rfl (by decide) rfl (lk_n kw_1483 rfl) hf dX15_takesText_20 (fun r12 hf => ?_)
      refine v_iload_n (x := l3) dX15_takesText_23 rfl 3 rfl ?_
      obtain ⟨a13, rfl, hf⟩ := nn_of hf
      obtain ⟨hk_a13, hf⟩ := gt_of hf
      refine v_bald hk_a13 hf dX15_takesText_24 (fun x14 hf => ?_)
      obtain ⟨a15, rfl, hf⟩ := nn_of hf
      obtain ⟨hk_a15, hf⟩ := gt_of hf
      refine v_bast2 hk_a15 hf dX15_takesText_25 (fun s16 hts16 hf => ?_)
      have hk_a10 := tk_ hts16 hk_a10
      have hk_l0 := tk_ hts16 hk_l0
      obtain ⟨x17, ex17⟩ : ∃ y : Int32, y = l3 + 1 := ⟨_, rfl⟩
      rw [lt_e, ← ex17] at hf
      refine v_iinc (v := x17) [(3, .int x17), (0, va_rf (some l0)), (1, va_rf (some a10)), (2, .int l2)] dX15_takesText_26 3 rfl (by rw [ex17]; rfl) (by decide) rfl ?_
      refine v_goto (tgt := 9) dX15_takesText_29 (by decide) ?_
      refine v_sub [1, 2, 3, 0] (L2 := [(0, va_rf (some l0)), (1, va_rf (some a10)), (2, .int l2), (3, .int x17)]) rfl ?_
      exact hrec_9 _ _ _ _ _ hf
/-- LivesAheadModel.takesText(LLivesAheadModel$Paragraph;I)V -/
def f_X15_takesText (σ : TH) (p0 : Nat) (p1 : Option Nat) (p2 : Int32) : Option (Unit × TH) :=
  gt_ (¬ p2 < 0 ∧ p2.toNatClampNeg ≤ 100000 ∧ kd_ σ (nx_ σ) = 0) <| lt_ (nx_ σ) fun a1 => lt_ (nw_ σ 21 p2.toNatClampNeg p2.toNatClampNeg) fun s2 => nn_ p1 fun a3 => gt_ (kd_ s2 a3 = 15) <| lt_ (sr_ s2 1406 a3 ((some a1))) fun s4 => f_X15_takesText_b9 fu_ s4 p0 (some a3) p2 (0 : Int32)
set_option maxHeartbeats 4000000 in
set_option maxRecDepth 100000 in
theorem c_X15_takesText {l : Launch} {D : va_G} {cy : Nat → ClassId} {ka : Nat → Nat} {σ z : TH} {p0 : Nat} {p1 : Option Nat} {p2 : Int32} {r : Unit} (hf : f_X15_takesText σ p0 p1 p2 = some (r, z)) : ct_ l D cy ka yX15_takesText 0 0 [va_rf (some p0), va_rf p1, .int p2] σ none z := by
  unfold f_X15_takesText at hf
  refine v_start (cc := cX15_takesText) (own := RX15) (maxL := 4) (ret := none) (nm := "takesText") (by decide +kernel) kw_2053 rfl rfl (by simp [lg_sl, va_rf_cat, cat_i, cat_l]) ?_
  refine v_eqL (L2 := [(0, va_rf (some p0)), (1, va_rf p1), (2, .int p2)]) (by simp [lv_args, va_rf_cat, cat_i, cat_l]) ?_
  refine v_aload_n (x := p1) dX15_takesText_0 rfl 1 rfl ?_
  refine v_iload_n (x := p2) dX15_takesText_1 rfl 2 rfl ?_
  refine v_newaB2 kw_136 hf dX15_takesText_2 (fun a1 s2 hts2 hk_a1 hf => ?_)
  obtain ⟨a3, rfl, hf⟩ := nn_of hf
  obtain ⟨hk_a3, hf⟩ := gt_of hf
  refine v_putr2 cb_14 hk_a3 6 1406 rfl (by decide) rfl (lk_N kw_2034 rfl) (Or.inl rfl) (nr_ _ (Or.inr ⟨_, rfl⟩)) (fr9_ _ (Or.inr ⟨_, rfl⟩)) hf dX15_takesText_4 (fun s4 hts4 hf => ?_)
  have hk_a3 := tk_ hts4 hk_a3
  refine v_iconst (v := 0) dX15_takesText_7 (by decide) ?_
  refine v_istore_n [(3, .int (0 : Int32)), (0, va_rf (some p0)), (1, va_rf (some a3)), (2, .int p2)] dX15_takesText_8 rfl (by decide) rfl ?_
  refine v_sub [1, 2, 3, 0] (L2 := [(0, va_rf (some p0)), (1, va_rf (some a3)), (2, .int p2), (3, .int (0 : Int32))]) rfl ?_
  exact t_X15_takesText_b9  _ _ _ _ _ _ hf
theorem dX15_pass_0 : decode cX15_pass 0 = .ok (.aload_n 0, 1) := by decide +kernel
theorem dX15_pass_1 : decode cX15_pass 1 = .ok (.iconst 0, 1) := by decide +kernel
theorem dX15_pass_2 : decode cX15_pass 2 = .ok (.putfield 1, 3) := by decide +kernel
theorem dX15_pass_5 : decode cX15_pass 5 = .ok (.iload_n 1, 1) := by decide +kernel
theorem dX15_pass_6 : decode cX15_pass 6 = .ok (.iconst 1, 1) := by decide +kernel
theorem dX15_pass_7 : decode cX15_pass 7 = .ok (.ldc_w 621, 3) := by decide +kernel
theorem dX15_pass_10 : decode cX15_pass 10 = .ok (.invokestatic 197, 3) := by decide +kernel
theorem dX15_pass_13 : decode cX15_pass 13 = .ok (.ifCond .eq 15, 3) := by decide +kernel
theorem dX15_pass_16 : decode cX15_pass 16 = .ok (.aload_n 0, 1) := by decide +kernel
theorem dX15_pass_17 : decode cX15_pass 17 = .ok (.getfield 188, 3) := by decide +kernel
theorem dX15_pass_20 : decode cX15_pass 20 = .ok (.iload_n 1, 1) := by decide +kernel
theorem dX15_pass_21 : decode cX15_pass 21 = .ok (.iadd, 1) := by decide +kernel
theorem dX15_pass_22 : decode cX15_pass 22 = .ok (.ldc_w 622, 3) := by decide +kernel
theorem dX15_pass_25 : decode cX15_pass 25 = .ok (.if_icmp .le 9, 3) := by decide +kernel
theorem dX15_pass_28 : decode cX15_pass 28 = .ok (.aload_n 0, 1) := by decide +kernel
theorem dX15_pass_29 : decode cX15_pass 29 = .ok (.iconst 2, 1) := by decide +kernel
theorem dX15_pass_30 : decode cX15_pass 30 = .ok (.invokevirtual 201, 3) := by decide +kernel
theorem dX15_pass_33 : decode cX15_pass 33 = .ok (.ireturn, 1) := by decide +kernel
theorem dX15_pass_34 : decode cX15_pass 34 = .ok (.aload_n 0, 1) := by decide +kernel
theorem dX15_pass_35 : decode cX15_pass 35 = .ok (.dup, 1) := by decide +kernel
theorem dX15_pass_36 : decode cX15_pass 36 = .ok (.getfield 188, 3) := by decide +kernel
theorem dX15_pass_39 : decode cX15_pass 39 = .ok (.iload_n 1, 1) := by decide +kernel
theorem dX15_pass_40 : decode cX15_pass 40 = .ok (.iadd, 1) := by decide +kernel
theorem dX15_pass_41 : decode cX15_pass 41 = .ok (.putfield 188, 3) := by decide +kernel
theorem dX15_pass_44 : decode cX15_pass 44 = .ok (.aload_n 0, 1) := by decide +kernel
theorem dX15_pass_45 : decode cX15_pass 45 = .ok (.aload_n 0, 1) := by decide +kernel
theorem dX15_pass_46 : decode cX15_pass 46 = .ok (.invokevirtual 230, 3) := by decide +kernel
theorem dX15_pass_49 : decode cX15_pass 49 = .ok (.invokevirtual 205, 3) := by decide +kernel
theorem dX15_pass_52 : decode cX15_pass 52 = .ok (.ireturn, 1) := by decide +kernel
def f_X15_pass_b28 (σ : TH) (l0 : Nat) : Option (Int32 × TH) :=
  gt_ (kd_ σ l0 = 17) <| bd_ (f_X15_refused σ l0 (2 : Int32)) fun x4 s5 => some (x4, s5)
set_option maxHeartbeats 4000000 in
set_option maxRecDepth 100000 in
theorem t_X15_pass_b28 {l : Launch} {D : va_G} {cy : Nat → ClassId} {ka : Nat → Nat} {σ0 z : TH} {r : Int32}  {σ : TH} {l0 : Nat} (hf : f_X15_pass_b28 σ l0 = some (r, z)) : v_ l D cy ka cX15_pass RX15 2 (some FieldType.int) "pass" 1 22 (qf_ D cy σ0 z (some (.int r))) σ0 z σ 28 [(0, va_rf (some l0))] [] := by
  unfold f_X15_pass_b28 at hf
  refine v_aload_n (x := (some l0)) dX15_pass_28 rfl 0 rfl ?_
  refine v_iconst (v := 2) dX15_pass_29 (by decide) ?_
  obtain ⟨hk_l0, hf⟩ := gt_of hf
  obtain ⟨x4, s5, hcs5, hf⟩ := bd_of hf
  have hts5 := c_X15_refused (l := l) (D := D) (cy := cy) (ka := ka) hcs5
  refine v_callV cb_16 hk_l0 (As := [.int (2 : Int32)]) (rest := []) hts5 yb_X15_refused kw_1729 kw_1731 kp_77 rfl ⟨Nat.le_of_ble_eq_true rfl, Nat.le_of_ble_eq_true rfl⟩ rfl (cat_len (Nat.le_of_ble_eq_true rfl)) dX15_pass_30 ?_
  have hk_l0 := tk_ hts5.1 hk_l0
  show v_ l D cy ka cX15_pass RX15 2 (some FieldType.int) "pass" 1 22 (qf_ D cy σ0 z (some (.int r))) σ0 z _ 33 [(0, va_rf (some l0))] [.int x4]
  exact v_iret hf dX15_pass_33
/-- LivesAheadModel.pass(I)I -/
def f_X15_pass (σ : TH) (p0 : Nat) (p1 : Int32) : Option (Int32 × TH) :=
  gt_ (kd_ σ p0 = 17) <| lt_ (si_ σ 1600 p0 (0 : Int32)) fun s1 => bd_ (f_X15_in s1 p1 (1 : Int32) (100000 : Int32)) fun x2 s3 => if x2 = 0 then (f_X15_pass_b28 s3 p0) else (lt_ (fi_ s3 1606 p0) fun x6 => if (x6 + p1) ≤ (5257439 : Int32) then (lt_ (fi_ s3 1606 p0) fun x7 => lt_ (si_ s3 1606 p0 (x7 + p1)) fun s8 => bd_ (f_X15_today s8 p0) fun x9 s10 => bd_ (f_X15_done s10 p0 x9) fun x11 s12 => some (x11, s12)) else (f_X15_pass_b28 s3 p0))
set_option maxHeartbeats 4000000 in
set_option maxRecDepth 100000 in
theorem c_X15_pass {l : Launch} {D : va_G} {cy : Nat → ClassId} {ka : Nat → Nat} {σ z : TH} {p0 : Nat} {p1 : Int32} {r : Int32} (hf : f_X15_pass σ p0 p1 = some (r, z)) : ct_ l D cy ka yX15_pass 1 22 [va_rf (some p0), .int p1] σ (some (.int r)) z := by
  unfold f_X15_pass at hf
  refine v_start (cc := cX15_pass) (own := RX15) (maxL := 2) (ret := (some FieldType.int)) (nm := "pass") (by decide +kernel) kw_2274 rfl rfl (by simp [lg_sl, va_rf_cat, cat_i, cat_l]) ?_
  refine v_eqL (L2 := [(0, va_rf (some p0)), (1, .int p1)]) (by simp [lv_args, va_rf_cat, cat_i, cat_l]) ?_
  refine v_aload_n (x := (some p0)) dX15_pass_0 rfl 0 rfl ?_
  refine v_iconst (v := 0) dX15_pass_1 (by decide) ?_
  obtain ⟨hk_p0, hf⟩ := gt_of hf
  refine v_puti2 cb_16 hk_p0 0 1600 rfl (by decide) rfl (lk_n kw_1457 rfl) (Or.inl rfl) rfl rfl hf dX15_pass_2 (fun s1 hts1 hf => ?_)
  have hk_p0 := tk_ hts1 hk_p0
  refine v_iload_n (x := p1) dX15_pass_5 rfl 1 rfl ?_
  refine v_iconst (v := 1) dX15_pass_6 (by decide) ?_
  refine v_ldcw (v := 100000) kw_2275 dX15_pass_7 ?_
  obtain ⟨x2, s3, hcs3, hf⟩ := bd_of hf
  have hts3 := c_X15_in (l := l) (D := D) (cy := cy) (ka := ka) hcs3
  refine v_callS (As := [.int p1, .int (1 : Int32), .int (100000 : Int32)]) (rest := []) hts3 yb_X15_in kw_1726 kw_1727 rfl ⟨Nat.le_of_ble_eq_true rfl, Nat.le_of_ble_eq_true rfl⟩ rfl (cat_len (Nat.le_of_ble_eq_true rfl)) dX15_pass_10 ?_
  have hk_p0 := tk_ hts3.1 hk_p0
  show v_ l D cy ka cX15_pass RX15 2 (some FieldType.int) "pass" 1 22 (qf_ D cy σ z (some (.int r))) σ z _ 13 [(0, va_rf (some p0)), (1, .int p1)] [.int x2]
  refine v_if_eq (tgt := 28) hf dX15_pass_13 (by decide) (fun hq hf => ?_) (fun hq hf => ?_)
  · refine v_sub [0] (L2 := [(0, va_rf (some p0))]) rfl ?_
    exact t_X15_pass_b28  hf
  · refine v_aload_n (x := (some p0)) dX15_pass_16 rfl 0 rfl ?_
    refine v_geti cb_16 hk_p0 6 1606 rfl (by decide) rfl (lk_n kw_1463 rfl) hf dX15_pass_17 (fun x6 hf => ?_)
    refine v_iload_n (x := p1) dX15_pass_20 rfl 1 rfl ?_
    refine v_iadd dX15_pass_21 ?_
    refine v_ldcw (v := 5257439) kw_2276 dX15_pass_22 ?_
    refine v_icmp_le (tgt := 34) hf dX15_pass_25 (by decide) (fun hq hf => ?_) (fun hq hf => ?_)
    · refine v_aload_n (x := (some p0)) dX15_pass_34 rfl 0 rfl ?_
      refine v_dup dX15_pass_35 (va_rf_cat _) ?_
      refine v_geti cb_16 hk_p0 6 1606 rfl (by decide) rfl (lk_n kw_1463 rfl) hf dX15_pass_36 (fun x7 hf => ?_)
      refine v_iload_n (x := p1) dX15_pass_39 rfl 1 rfl ?_
      refine v_iadd dX15_pass_40 ?_
      refine v_puti2 cb_16 hk_p0 6 1606 rfl (by decide) rfl (lk_n kw_1463 rfl) (Or.inl rfl) rfl rfl hf dX15_pass_41 (fun s8 hts8 hf => ?_)
      have hk_p0 := tk_ hts8 hk_p0
      refine v_aload_n (x := (some p0)) dX15_pass_44 rfl 0 rfl ?_
      refine v_aload_n (x := (some p0)) dX15_pass_45 rfl 0 rfl ?_
      obtain ⟨x9, s10, hcs10, hf⟩ := bd_of hf
      have hts10 := c_X15_today (l := l) (D := D) (cy := cy) (ka := ka) hcs10
      refine v_callV cb_16 hk_p0 (As := []) (rest := [va_rf (some p0)]) hts10 yb_X15_today kw_1774 kw_1776 kp_84 rfl ⟨Nat.le_of_ble_eq_true rfl, Nat.le_of_ble_eq_true rfl⟩ rfl (cat_len (Nat.le_of_ble_eq_true rfl)) dX15_pass_46 ?_
      have hk_p0 := tk_ hts10.1 hk_p0
      show v_ l D cy ka cX15_pass RX15 2 (some FieldType.int) "pass" 1 22 (qf_ D cy σ z (some (.int r))) σ z _ 49 [(0, va_rf (some p0)), (1, .int p1)] [.int x9, va_rf (some p0)]
      obtain ⟨x11, s12, hcs12, hf⟩ := bd_of hf
      have hts12 := c_X15_done (l := l) (D := D) (cy := cy) (ka := ka) hcs12
      refine v_callV cb_16 hk_p0 (As := [.int x9]) (rest := []) hts12 yb_X15_done kw_1733 kw_1735 kp_78 rfl ⟨Nat.le_of_ble_eq_true rfl, Nat.le_of_ble_eq_true rfl⟩ rfl (cat_len (Nat.le_of_ble_eq_true rfl)) dX15_pass_49 ?_
      have hk_p0 := tk_ hts12.1 hk_p0
      show v_ l D cy ka cX15_pass RX15 2 (some FieldType.int) "pass" 1 22 (qf_ D cy σ z (some (.int r))) σ z _ 52 [(0, va_rf (some p0)), (1, .int p1)] [.int x11]
      exact v_iret hf dX15_pass_52
    · refine v_sub [0] (L2 := [(0, va_rf (some p0))]) rfl ?_
      exact t_X15_pass_b28  hf
theorem dX15_peril_0 : decode cX15_peril 0 = .ok (.aload_n 0, 1) := by decide +kernel
theorem dX15_peril_1 : decode cX15_peril 1 = .ok (.iconst 0, 1) := by decide +kernel
theorem dX15_peril_2 : decode cX15_peril 2 = .ok (.putfield 1, 3) := by decide +kernel
theorem dX15_peril_5 : decode cX15_peril 5 = .ok (.aload_n 0, 1) := by decide +kernel
theorem dX15_peril_6 : decode cX15_peril 6 = .ok (.iload_n 1, 1) := by decide +kernel
theorem dX15_peril_7 : decode cX15_peril 7 = .ok (.invokevirtual 227, 3) := by decide +kernel
theorem dX15_peril_10 : decode cX15_peril 10 = .ok (.ifCond .ne 9, 3) := by decide +kernel
theorem dX15_peril_13 : decode cX15_peril 13 = .ok (.aload_n 0, 1) := by decide +kernel
theorem dX15_peril_14 : decode cX15_peril 14 = .ok (.iconst 1, 1) := by decide +kernel
theorem dX15_peril_15 : decode cX15_peril 15 = .ok (.invokevirtual 212, 3) := by decide +kernel
theorem dX15_peril_18 : decode cX15_peril 18 = .ok (.ireturn, 1) := by decide +kernel
theorem dX15_peril_19 : decode cX15_peril 19 = .ok (.aload_n 0, 1) := by decide +kernel
theorem dX15_peril_20 : decode cX15_peril 20 = .ok (.getfield 48, 3) := by decide +kernel
theorem dX15_peril_23 : decode cX15_peril 23 = .ok (.iload_n 1, 1) := by decide +kernel
theorem dX15_peril_24 : decode cX15_peril 24 = .ok (.iload_n 2, 1) := by decide +kernel
theorem dX15_peril_25 : decode cX15_peril 25 = .ok (.bastore, 1) := by decide +kernel
theorem dX15_peril_26 : decode cX15_peril 26 = .ok (.aload_n 0, 1) := by decide +kernel
theorem dX15_peril_27 : decode cX15_peril 27 = .ok (.invokevirtual 215, 3) := by decide +kernel
theorem dX15_peril_30 : decode cX15_peril 30 = .ok (.ireturn, 1) := by decide +kernel
/-- LivesAheadModel.peril(IZ)Z -/
def f_X15_peril (σ : TH) (p0 : Nat) (p1 : Int32) (p2 : Int32) : Option (Int32 × TH) :=
  gt_ (kd_ σ p0 = 17) <| lt_ (si_ σ 1600 p0 (0 : Int32)) fun s1 => bd_ (f_X15_isPerson s1 p0 p1) fun x2 s3 => if x2 = 0 then (bd_ (f_X15_denied s3 p0 (1 : Int32)) fun x4 s5 => gt_ (x4 = 0 ∨ x4 = 1) <| some (x4, s5)) else (lt_ (fr_ s3 1616 p0) fun r6 => nn_ r6 fun a7 => gt_ (kd_ s3 a7 = 22) <| gt_ (¬ (p1 < 0 ∨ ln_ s3 a7 ≤ p1.toNatClampNeg)) <| lt_ (sa_ s3 a7 p1.toNatClampNeg (vp_nar .boolean p2)) fun s8 => bd_ (f_X15_granted s8 p0) fun x9 s10 => gt_ (x9 = 0 ∨ x9 = 1) <| some (x9, s10))
set_option maxHeartbeats 4000000 in
set_option maxRecDepth 100000 in
theorem c_X15_peril {l : Launch} {D : va_G} {cy : Nat → ClassId} {ka : Nat → Nat} {σ z : TH} {p0 : Nat} {p1 : Int32} {p2 : Int32} {r : Int32} (hf : f_X15_peril σ p0 p1 p2 = some (r, z)) : ct_ l D cy ka yX15_peril 1 21 [va_rf (some p0), .int p1, .int p2] σ (some (.int r)) z := by
  unfold f_X15_peril at hf
  refine v_start (cc := cX15_peril) (own := RX15) (maxL := 3) (ret := (some FieldType.boolean)) (nm := "peril") (by decide +kernel) kw_1808 rfl rfl (by simp [lg_sl, va_rf_cat, cat_i, cat_l]) ?_
  refine v_eqL (L2 := [(0, va_rf (some p0)), (1, .int p1), (2, .int p2)]) (by simp [lv_args, va_rf_cat, cat_i, cat_l]) ?_
  refine v_aload_n (x := (some p0)) dX15_peril_0 rfl 0 rfl ?_
  refine v_iconst (v := 0) dX15_peril_1 (by decide) ?_
  obtain ⟨hk_p0, hf⟩ := gt_of hf
  refine v_puti2 cb_16 hk_p0 0 1600 rfl (by decide) rfl (lk_n kw_1457 rfl) (Or.inl rfl) rfl rfl hf dX15_peril_2 (fun s1 hts1 hf => ?_)
  have hk_p0 := tk_ hts1 hk_p0
  refine v_aload_n (x := (some p0)) dX15_peril_5 rfl 0 rfl ?_
  refine v_iload_n (x := p1) dX15_peril_6 rfl 1 rfl ?_
  obtain ⟨x2, s3, hcs3, hf⟩ := bd_of hf
  have hts3 := c_X15_isPerson (l := l) (D := D) (cy := cy) (ka := ka) hcs3
  refine v_callV cb_16 hk_p0 (As := [.int p1]) (rest := []) hts3 yb_X15_isPerson kw_1770 kw_1772 kp_83 rfl ⟨Nat.le_of_ble_eq_true rfl, Nat.le_of_ble_eq_true rfl⟩ rfl (cat_len (Nat.le_of_ble_eq_true rfl)) dX15_peril_7 ?_
  have hk_p0 := tk_ hts3.1 hk_p0
  show v_ l D cy ka cX15_peril RX15 3 (some FieldType.boolean) "peril" 1 21 (qf_ D cy σ z (some (.int r))) σ z _ 10 [(0, va_rf (some p0)), (1, .int p1), (2, .int p2)] [.int x2]
  refine v_if_ne (tgt := 19) hf dX15_peril_10 (by decide) (fun hq hf => ?_) (fun hq hf => ?_)
  · refine v_aload_n (x := (some p0)) dX15_peril_13 rfl 0 rfl ?_
    refine v_iconst (v := 1) dX15_peril_14 (by decide) ?_
    obtain ⟨x4, s5, hcs5, hf⟩ := bd_of hf
    have hts5 := c_X15_denied (l := l) (D := D) (cy := cy) (ka := ka) hcs5
    refine v_callV cb_16 hk_p0 (As := [.int (1 : Int32)]) (rest := []) hts5 yb_X15_denied kw_1745 kw_1747 kp_80 rfl ⟨Nat.le_of_ble_eq_true rfl, Nat.le_of_ble_eq_true rfl⟩ rfl (cat_len (Nat.le_of_ble_eq_true rfl)) dX15_peril_15 ?_
    have hk_p0 := tk_ hts5.1 hk_p0
    show v_ l D cy ka cX15_peril RX15 3 (some FieldType.boolean) "peril" 1 21 (qf_ D cy σ z (some (.int r))) σ z _ 18 [(0, va_rf (some p0)), (1, .int p1), (2, .int p2)] [.int x4]
    obtain ⟨hb9, hf⟩ := gt_of hf
    exact v_zret hf (nz_ hb9) dX15_peril_18
  · refine v_aload_n (x := (some p0)) dX15_peril_19 rfl 0 rfl ?_
    refine v_getr cb_16 hk_p0 16 1616 rfl (by decide) rfl (lk_n kw_1473 rfl) hf dX15_peril_20 (fun r6 hf => ?_)
    refine v_iload_n (x := p1) dX15_peril_23 rfl 1 rfl ?_
    refine v_iload_n (x := p2) dX15_peril_24 rfl 2 rfl ?_
    obtain ⟨a7, rfl, hf⟩ := nn_of hf
    obtain ⟨hk_a7, hf⟩ := gt_of hf
    refine v_zast2 hk_a7 hf dX15_peril_25 (fun s8 hts8 hf => ?_)
    have hk_p0 := tk_ hts8 hk_p0
    refine v_aload_n (x := (some p0)) dX15_peril_26 rfl 0 rfl ?_
    obtain ⟨x9, s10, hcs10, hf⟩ := bd_of hf
    have hts10 := c_X15_granted (l := l) (D := D) (cy := cy) (ka := ka) hcs10
    refine v_callV cb_16 hk_p0 (As := []) (rest := []) hts10 yb_X15_granted kw_1749 kw_1751 kp_81 rfl ⟨Nat.le_of_ble_eq_true rfl, Nat.le_of_ble_eq_true rfl⟩ rfl (cat_len (Nat.le_of_ble_eq_true rfl)) dX15_peril_27 ?_
    have hk_p0 := tk_ hts10.1 hk_p0
    show v_ l D cy ka cX15_peril RX15 3 (some FieldType.boolean) "peril" 1 21 (qf_ D cy σ z (some (.int r))) σ z _ 30 [(0, va_rf (some p0)), (1, .int p1), (2, .int p2)] [.int x9]
    obtain ⟨hb9, hf⟩ := gt_of hf
    exact v_zret hf (nz_ hb9) dX15_peril_30
theorem dX15_person_0 : decode cX15_person 0 = .ok (.aload_n 0, 1) := by decide +kernel
theorem dX15_person_1 : decode cX15_person 1 = .ok (.iconst 0, 1) := by decide +kernel
theorem dX15_person_2 : decode cX15_person 2 = .ok (.putfield 1, 3) := by decide +kernel
theorem dX15_person_5 : decode cX15_person 5 = .ok (.aload_n 0, 1) := by decide +kernel
theorem dX15_person_6 : decode cX15_person 6 = .ok (.iload 4, 2) := by decide +kernel
theorem dX15_person_8 : decode cX15_person 8 = .ok (.invokevirtual 208, 3) := by decide +kernel
theorem dX15_person_11 : decode cX15_person 11 = .ok (.ifCond .ne 9, 3) := by decide +kernel
theorem dX15_person_14 : decode cX15_person 14 = .ok (.aload_n 0, 1) := by decide +kernel
theorem dX15_person_15 : decode cX15_person 15 = .ok (.iconst 1, 1) := by decide +kernel
theorem dX15_person_16 : decode cX15_person 16 = .ok (.invokevirtual 201, 3) := by decide +kernel
theorem dX15_person_19 : decode cX15_person 19 = .ok (.ireturn, 1) := by decide +kernel
theorem dX15_person_20 : decode cX15_person 20 = .ok (.iload_n 1, 1) := by decide +kernel
theorem dX15_person_21 : decode cX15_person 21 = .ok (.iconst 0, 1) := by decide +kernel
theorem dX15_person_22 : decode cX15_person 22 = .ok (.bipush 99, 2) := by decide +kernel
theorem dX15_person_24 : decode cX15_person 24 = .ok (.invokestatic 197, 3) := by decide +kernel
theorem dX15_person_27 : decode cX15_person 27 = .ok (.ifCond .eq 23, 3) := by decide +kernel
theorem dX15_person_30 : decode cX15_person 30 = .ok (.iload_n 2, 1) := by decide +kernel
theorem dX15_person_31 : decode cX15_person 31 = .ok (.iconst 1, 1) := by decide +kernel
theorem dX15_person_32 : decode cX15_person 32 = .ok (.ldc 222, 2) := by decide +kernel
theorem dX15_person_34 : decode cX15_person 34 = .ok (.invokestatic 197, 3) := by decide +kernel
theorem dX15_person_37 : decode cX15_person 37 = .ok (.ifCond .eq 13, 3) := by decide +kernel
theorem dX15_person_40 : decode cX15_person 40 = .ok (.iload_n 3, 1) := by decide +kernel
theorem dX15_person_41 : decode cX15_person 41 = .ok (.iconst 1, 1) := by decide +kernel
theorem dX15_person_42 : decode cX15_person 42 = .ok (.bipush 100, 2) := by decide +kernel
theorem dX15_person_44 : decode cX15_person 44 = .ok (.invokestatic 197, 3) := by decide +kernel
theorem dX15_person_47 : decode cX15_person 47 = .ok (.ifCond .ne 9, 3) := by decide +kernel
theorem dX15_person_50 : decode cX15_person 50 = .ok (.aload_n 0, 1) := by decide +kernel
theorem dX15_person_51 : decode cX15_person 51 = .ok (.iconst 2, 1) := by decide +kernel
theorem dX15_person_52 : decode cX15_person 52 = .ok (.invokevirtual 201, 3) := by decide +kernel
theorem dX15_person_55 : decode cX15_person 55 = .ok (.ireturn, 1) := by decide +kernel
theorem dX15_person_56 : decode cX15_person 56 = .ok (.aload_n 0, 1) := by decide +kernel
theorem dX15_person_57 : decode cX15_person 57 = .ok (.getfield 191, 3) := by decide +kernel
theorem dX15_person_60 : decode cX15_person 60 = .ok (.bipush 30, 2) := by decide +kernel
theorem dX15_person_62 : decode cX15_person 62 = .ok (.if_icmp .ne 9, 3) := by decide +kernel
theorem dX15_person_65 : decode cX15_person 65 = .ok (.aload_n 0, 1) := by decide +kernel
theorem dX15_person_66 : decode cX15_person 66 = .ok (.iconst 3, 1) := by decide +kernel
theorem dX15_person_67 : decode cX15_person 67 = .ok (.invokevirtual 201, 3) := by decide +kernel
theorem dX15_person_70 : decode cX15_person 70 = .ok (.ireturn, 1) := by decide +kernel
theorem dX15_person_71 : decode cX15_person 71 = .ok (.aload_n 0, 1) := by decide +kernel
theorem dX15_person_72 : decode cX15_person 72 = .ok (.getfield 23, 3) := by decide +kernel
theorem dX15_person_75 : decode cX15_person 75 = .ok (.aload_n 0, 1) := by decide +kernel
theorem dX15_person_76 : decode cX15_person 76 = .ok (.getfield 191, 3) := by decide +kernel
theorem dX15_person_79 : decode cX15_person 79 = .ok (.iload_n 1, 1) := by decide +kernel
theorem dX15_person_80 : decode cX15_person 80 = .ok (.iastore, 1) := by decide +kernel
theorem dX15_person_81 : decode cX15_person 81 = .ok (.aload_n 0, 1) := by decide +kernel
theorem dX15_person_82 : decode cX15_person 82 = .ok (.getfield 26, 3) := by decide +kernel
theorem dX15_person_85 : decode cX15_person 85 = .ok (.aload_n 0, 1) := by decide +kernel
theorem dX15_person_86 : decode cX15_person 86 = .ok (.getfield 191, 3) := by decide +kernel
theorem dX15_person_89 : decode cX15_person 89 = .ok (.iload_n 2, 1) := by decide +kernel
theorem dX15_person_90 : decode cX15_person 90 = .ok (.iastore, 1) := by decide +kernel
theorem dX15_person_91 : decode cX15_person 91 = .ok (.aload_n 0, 1) := by decide +kernel
theorem dX15_person_92 : decode cX15_person 92 = .ok (.getfield 29, 3) := by decide +kernel
theorem dX15_person_95 : decode cX15_person 95 = .ok (.aload_n 0, 1) := by decide +kernel
theorem dX15_person_96 : decode cX15_person 96 = .ok (.getfield 191, 3) := by decide +kernel
theorem dX15_person_99 : decode cX15_person 99 = .ok (.iload_n 3, 1) := by decide +kernel
theorem dX15_person_100 : decode cX15_person 100 = .ok (.iastore, 1) := by decide +kernel
theorem dX15_person_101 : decode cX15_person 101 = .ok (.aload_n 0, 1) := by decide +kernel
theorem dX15_person_102 : decode cX15_person 102 = .ok (.getfield 32, 3) := by decide +kernel
theorem dX15_person_105 : decode cX15_person 105 = .ok (.aload_n 0, 1) := by decide +kernel
theorem dX15_person_106 : decode cX15_person 106 = .ok (.getfield 191, 3) := by decide +kernel
theorem dX15_person_109 : decode cX15_person 109 = .ok (.iload 4, 2) := by decide +kernel
theorem dX15_person_111 : decode cX15_person 111 = .ok (.iastore, 1) := by decide +kernel
theorem dX15_person_112 : decode cX15_person 112 = .ok (.aload_n 0, 1) := by decide +kernel
theorem dX15_person_113 : decode cX15_person 113 = .ok (.getfield 35, 3) := by decide +kernel
theorem dX15_person_116 : decode cX15_person 116 = .ok (.aload_n 0, 1) := by decide +kernel
theorem dX15_person_117 : decode cX15_person 117 = .ok (.getfield 191, 3) := by decide +kernel
theorem dX15_person_120 : decode cX15_person 120 = .ok (.bipush (-2), 2) := by decide +kernel
theorem dX15_person_122 : decode cX15_person 122 = .ok (.iastore, 1) := by decide +kernel
theorem dX15_person_123 : decode cX15_person 123 = .ok (.aload_n 0, 1) := by decide +kernel
theorem dX15_person_124 : decode cX15_person 124 = .ok (.dup, 1) := by decide +kernel
theorem dX15_person_125 : decode cX15_person 125 = .ok (.getfield 191, 3) := by decide +kernel
theorem dX15_person_128 : decode cX15_person 128 = .ok (.iconst 1, 1) := by decide +kernel
theorem dX15_person_129 : decode cX15_person 129 = .ok (.iadd, 1) := by decide +kernel
theorem dX15_person_130 : decode cX15_person 130 = .ok (.putfield 191, 3) := by decide +kernel
theorem dX15_person_133 : decode cX15_person 133 = .ok (.aload_n 0, 1) := by decide +kernel
theorem dX15_person_134 : decode cX15_person 134 = .ok (.aload_n 0, 1) := by decide +kernel
theorem dX15_person_135 : decode cX15_person 135 = .ok (.getfield 191, 3) := by decide +kernel
theorem dX15_person_138 : decode cX15_person 138 = .ok (.iconst 1, 1) := by decide +kernel
theorem dX15_person_139 : decode cX15_person 139 = .ok (.isub, 1) := by decide +kernel
theorem dX15_person_140 : decode cX15_person 140 = .ok (.invokevirtual 205, 3) := by decide +kernel
theorem dX15_person_143 : decode cX15_person 143 = .ok (.ireturn, 1) := by decide +kernel
def f_X15_person_b50 (σ : TH) (l0 : Nat) : Option (Int32 × TH) :=
  gt_ (kd_ σ l0 = 17) <| bd_ (f_X15_refused σ l0 (2 : Int32)) fun x8 s9 => some (x8, s9)
set_option maxHeartbeats 4000000 in
set_option maxRecDepth 100000 in
theorem t_X15_person_b50 {l : Launch} {D : va_G} {cy : Nat → ClassId} {ka : Nat → Nat} {σ0 z : TH} {r : Int32}  {σ : TH} {l0 : Nat} (hf : f_X15_person_b50 σ l0 = some (r, z)) : v_ l D cy ka cX15_person RX15 5 (some FieldType.int) "person" 1 22 (qf_ D cy σ0 z (some (.int r))) σ0 z σ 50 [(0, va_rf (some l0))] [] := by
  unfold f_X15_person_b50 at hf
  refine v_aload_n (x := (some l0)) dX15_person_50 rfl 0 rfl ?_
  refine v_iconst (v := 2) dX15_person_51 (by decide) ?_
  obtain ⟨hk_l0, hf⟩ := gt_of hf
  obtain ⟨x8, s9, hcs9, hf⟩ := bd_of hf
  have hts9 := c_X15_refused (l := l) (D := D) (cy := cy) (ka := ka) hcs9
  refine v_callV cb_16 hk_l0 (As := [.int (2 : Int32)]) (rest := []) hts9 yb_X15_refused kw_1729 kw_1731 kp_77 rfl ⟨Nat.le_of_ble_eq_true rfl, Nat.le_of_ble_eq_true rfl⟩ rfl (cat_len (Nat.le_of_ble_eq_true rfl)) dX15_person_52 ?_
  have hk_l0 := tk_ hts9.1 hk_l0
  show v_ l D cy ka cX15_person RX15 5 (some FieldType.int) "person" 1 22 (qf_ D cy σ0 z (some (.int r))) σ0 z _ 55 [(0, va_rf (some l0))] [.int x8]
  exact v_iret hf dX15_person_55
/-- LivesAheadModel.person(IIII)I -/
def f_X15_person (σ : TH) (p0 : Nat) (p1 : Int32) (p2 : Int32) (p3 : Int32) (p4 : Int32) : Option (Int32 × TH) :=
  gt_ (kd_ σ p0 = 17) <| lt_ (si_ σ 1600 p0 (0 : Int32)) fun s1 => bd_ (f_X15_isLiving s1 p0 p4) fun x2 s3 => if x2 = 0 then (bd_ (f_X15_refused s3 p0 (1 : Int32)) fun x4 s5 => some (x4, s5)) else (bd_ (f_X15_in s3 p1 (0 : Int32) (99 : Int32)) fun x6 s7 => if x6 = 0 then (f_X15_person_b50 s7 p0) else (bd_ (f_X15_in s7 p2 (1 : Int32) (36500 : Int32)) fun x10 s11 => if x10 = 0 then (f_X15_person_b50 s11 p0) else (bd_ (f_X15_in s11 p3 (1 : Int32) (100 : Int32)) fun x12 s13 => if x12 = 0 then (f_X15_person_b50 s13 p0) else (lt_ (fi_ s13 1605 p0) fun x14 => if x14 = (30 : Int32) then (bd_ (f_X15_refused s13 p0 (3 : Int32)) fun x15 s16 => some (x15, s16)) else (lt_ (fr_ s13 1608 p0) fun r17 => lt_ (fi_ s13 1605 p0) fun x18 => nn_ r17 fun a19 => gt_ (kd_ s13 a19 = 20) <| gt_ (¬ (x18 < 0 ∨ ln_ s13 a19 ≤ x18.toNatClampNeg)) <| lt_ (sa_ s13 a19 x18.toNatClampNeg p1) fun s20 => lt_ (fr_ s20 1609 p0) fun r21 => lt_ (fi_ s20 1605 p0) fun x22 => nn_ r21 fun a23 => gt_ (kd_ s20 a23 = 20) <| gt_ (¬ (x22 < 0 ∨ ln_ s20 a23 ≤ x22.toNatClampNeg)) <| lt_ (sa_ s20 a23 x22.toNatClampNeg p2) fun s24 => lt_ (fr_ s24 1610 p0) fun r25 => lt_ (fi_ s24 1605 p0) fun x26 => nn_ r25 fun a27 => gt_ (kd_ s24 a27 = 20) <| gt_ (¬ (x26 < 0 ∨ ln_ s24 a27 ≤ x26.toNatClampNeg)) <| lt_ (sa_ s24 a27 x26.toNatClampNeg p3) fun s28 => lt_ (fr_ s28 1611 p0) fun r29 => lt_ (fi_ s28 1605 p0) fun x30 => nn_ r29 fun a31 => gt_ (kd_ s28 a31 = 20) <| gt_ (¬ (x30 < 0 ∨ ln_ s28 a31 ≤ x30.toNatClampNeg)) <| lt_ (sa_ s28 a31 x30.toNatClampNeg p4) fun s32 => lt_ (fr_ s32 1612 p0) fun r33 => lt_ (fi_ s32 1605 p0) fun x34 => nn_ r33 fun a35 => gt_ (kd_ s32 a35 = 20) <| gt_ (¬ (x34 < 0 ∨ ln_ s32 a35 ≤ x34.toNatClampNeg)) <| lt_ (sa_ s32 a35 x34.toNatClampNeg (-2 : Int32)) fun s36 => lt_ (fi_ s36 1605 p0) fun x37 => lt_ (si_ s36 1605 p0 (x37 + (1 : Int32))) fun s38 => lt_ (fi_ s38 1605 p0) fun x39 => bd_ (f_X15_done s38 p0 (x39 - (1 : Int32))) fun x40 s41 => some (x40, s41))))))
set_option maxHeartbeats 4000000 in
set_option maxRecDepth 100000 in
theorem c_X15_person {l : Launch} {D : va_G} {cy : Nat → ClassId} {ka : Nat → Nat} {σ z : TH} {p0 : Nat} {p1 : Int32} {p2 : Int32} {p3 : Int32} {p4 : Int32} {r : Int32} (hf : f_X15_person σ p0 p1 p2 p3 p4 = some (r, z)) : ct_ l D cy ka yX15_person 1 22 [va_rf (some p0), .int p1, .int p2, .int p3, .int p4] σ (some (.int r)) z := by
  unfold f_X15_person at hf
  refine v_start (cc := cX15_person) (own := RX15) (maxL := 5) (ret := (some FieldType.int)) (nm := "person") (by decide +kernel) kw_1764 rfl rfl (by simp [lg_sl, va_rf_cat, cat_i, cat_l]) ?_
  refine v_eqL (L2 := [(0, va_rf (some p0)), (1, .int p1), (2, .int p2), (3, .int p3), (4, .int p4)]) (by simp [lv_args, va_rf_cat, cat_i, cat_l]) ?_
  refine v_aload_n (x := (some p0)) dX15_person_0 rfl 0 rfl ?_
  refine v_iconst (v := 0) dX15_person_1 (by decide) ?_
  obtain ⟨hk_p0, hf⟩ := gt_of hf
  refine v_puti2 cb_16 hk_p0 0 1600 rfl (by decide) rfl (lk_n kw_1457 rfl) (Or.inl rfl) rfl rfl hf dX15_person_2 (fun s1 hts1 hf => ?_)
  have hk_p0 := tk_ hts1 hk_p0
  refine v_aload_n (x := (some p0)) dX15_person_5 rfl 0 rfl ?_
  refine v_iload (x := p4) dX15_person_6 4 rfl ?_
  obtain ⟨x2, s3, hcs3, hf⟩ := bd_of hf
  have hts3 := c_X15_isLiving (l := l) (D := D) (cy := cy) (ka := ka) hcs3
  refine v_callV cb_16 hk_p0 (As := [.int p4]) (rest := []) hts3 yb_X15_isLiving kw_1741 kw_1743 kp_79 rfl ⟨Nat.le_of_ble_eq_true rfl, Nat.le_of_ble_eq_true rfl⟩ rfl (cat_len (Nat.le_of_ble_eq_true rfl)) dX15_person_8 ?_
  have hk_p0 := tk_ hts3.1 hk_p0
  show v_ l D cy ka cX15_person RX15 5 (some FieldType.int) "person" 1 22 (qf_ D cy σ z (some (.int r))) σ z _ 11 [(0, va_rf (some p0)), (1, .int p1), (2, .int p2), (3, .int p3), (4, .int p4)] [.int x2]
  refine v_if_ne (tgt := 20) hf dX15_person_11 (by decide) (fun hq hf => ?_) (fun hq hf => ?_)
  · refine v_aload_n (x := (some p0)) dX15_person_14 rfl 0 rfl ?_
    refine v_iconst (v := 1) dX15_person_15 (by decide) ?_
    obtain ⟨x4, s5, hcs5, hf⟩ := bd_of hf
    have hts5 := c_X15_refused (l := l) (D := D) (cy := cy) (ka := ka) hcs5
    refine v_callV cb_16 hk_p0 (As := [.int (1 : Int32)]) (rest := []) hts5 yb_X15_refused kw_1729 kw_1731 kp_77 rfl ⟨Nat.le_of_ble_eq_true rfl, Nat.le_of_ble_eq_true rfl⟩ rfl (cat_len (Nat.le_of_ble_eq_true rfl)) dX15_person_16 ?_
    have hk_p0 := tk_ hts5.1 hk_p0
    show v_ l D cy ka cX15_person RX15 5 (some FieldType.int) "person" 1 22 (qf_ D cy σ z (some (.int r))) σ z _ 19 [(0, va_rf (some p0)), (1, .int p1), (2, .int p2), (3, .int p3), (4, .int p4)] [.int x4]
    exact v_iret hf dX15_person_19
  · refine v_iload_n (x := p1) dX15_person_20 rfl 1 rfl ?_
    refine v_iconst (v := 0) dX15_person_21 (by decide) ?_
    refine v_bipush (v := 99) dX15_person_22 (by decide) ?_
    obtain ⟨x6, s7, hcs7, hf⟩ := bd_of hf
    have hts7 := c_X15_in (l := l) (D := D) (cy := cy) (ka := ka) hcs7
    refine v_callS (As := [.int p1, .int (0 : Int32), .int (99 : Int32)]) (rest := []) hts7 yb_X15_in kw_1726 kw_1727 rfl ⟨Nat.le_of_ble_eq_true rfl, Nat.le_of_ble_eq_true rfl⟩ rfl (cat_len (Nat.le_of_ble_eq_true rfl)) dX15_person_24 ?_
    have hk_p0 := tk_ hts7.1 hk_p0
    show v_ l D cy ka cX15_person RX15 5 (some FieldType.int) "person" 1 22 (qf_ D cy σ z (some (.int r))) σ z _ 27 [(0, va_rf (some p0)), (1, .int p1), (2, .int p2), (3, .int p3), (4, .int p4)] [.int x6]
    refine v_if_eq (tgt := 50) hf dX15_person_27 (by decide) (fun hq hf => ?_) (fun hq hf => ?_)
    · refine v_sub [0] (L2 := [(0, va_rf (some p0))]) rfl ?_
      exact t_X15_person_b50  hf
    · refine v_iload_n (x := p2) dX15_person_30 rfl 2 rfl ?_
      refine v_iconst (v := 1) dX15_person_31 (by decide) ?_
      refine v_ldc (v := 36500) kw_1765 dX15_person_32 ?_
      obtain ⟨x10, s11, hcs11, hf⟩ := bd_of hf
      have hts11 := c_X15_in (l := l) (D := D) (cy := cy) (ka := ka) hcs11
      refine v_callS (As := [.int p2, .int (1 : Int32), .int (36500 : Int32)]) (rest := []) hts11 yb_X15_in kw_1726 kw_1727 rfl ⟨Nat.le_of_ble_eq_true rfl, Nat.le_of_ble_eq_true rfl⟩ rfl (cat_len (Nat.le_of_ble_eq_true rfl)) dX15_person_34 ?_
      have hk_p0 := tk_ hts11.1 hk_p0
      show v_ l D cy ka cX15_person RX15 5 (some FieldType.int) "person" 1 22 (qf_ D cy σ z (some (.int r))) σ z _ 37 [(0, va_rf (some p0)), (1, .int p1), (2, .int p2), (3, .int p3), (4, .int p4)] [.int x10]
      refine v_if_eq (tgt := 50) hf dX15_person_37 (by decide) (fun hq hf => ?_) (fun hq hf => ?_)
      · refine v_sub [0] (L2 := [(0, va_rf (some p0))]) rfl ?_
        exact t_X15_person_b50  hf
      · refine v_iload_n (x := p3) dX15_person_40 rfl 3 rfl ?_
        refine v_iconst (v := 1) dX15_person_41 (by decide) ?_
        refine v_bipush (v := 100) dX15_person_42 (by decide) ?_
        obtain ⟨x12, s13, hcs13, hf⟩ := bd_of hf
        have hts13 := c_X15_in (l := l) (D := D) (cy := cy) (ka := ka) hcs13
        refine v_callS (As := [.int p3, .int (1 : Int32), .int (100 : Int32)]) (rest := []) hts13 yb_X15_in kw_1726 kw_1727 rfl ⟨Nat.le_of_ble_eq_true rfl, Nat.le_of_ble_eq_true rfl⟩ rfl (cat_len (Nat.le_of_ble_eq_true rfl)) dX15_person_44 ?_
        have hk_p0 := tk_ hts13.1 hk_p0
        show v_ l D cy ka cX15_person RX15 5 (some FieldType.int) "person" 1 22 (qf_ D cy σ z (some (.int r))) σ z _ 47 [(0, va_rf (some p0)), (1, .int p1), (2, .int p2), (3, .int p3), (4, .int p4)] [.int x12]
        refine v_if_ne (tgt := 56) hf dX15_person_47 (by decide) (fun hq hf => ?_) (fun hq hf => ?_)
        · refine v_sub [0] (L2 := [(0, va_rf (some p0))]) rfl ?_
          exact t_X15_person_b50  hf
        · refine v_aload_n (x := (some p0)) dX15_person_56 rfl 0 rfl ?_
          refine v_geti cb_16 hk_p0 5 1605 rfl (by decide) rfl (lk_n kw_1462 rfl) hf dX15_person_57 (fun x14 hf => ?_)
          refine v_bipush (v := 30) dX15_person_60 (by decide) ?_
          refine v_icmp_ne (tgt := 71) hf dX15_person_62 (by decide) (fun hq hf => ?_) (fun hq hf => ?_)
          · refine v_aload_n (x := (some p0)) dX15_person_65 rfl 0 rfl ?_
            refine v_iconst (v := 3) dX15_person_66 (by decide) ?_
            obtain ⟨x15, s16, hcs16, hf⟩ := bd_of hf
            have hts16 := c_X15_refused (l := l) (D := D) (cy := cy) (ka := ka) hcs16
            refine v_callV cb_16 hk_p0 (As := [.int (3 : Int32)]) (rest := []) hts16 yb_X15_refused kw_1729 kw_1731 kp_77 rfl ⟨Nat.le_of_ble_eq_true rfl, Nat.le_of_ble_eq_true rfl⟩ rfl (cat_len (Nat.le_of_ble_eq_true rfl)) dX15_person_67 ?_
            have hk_p0 := tk_ hts16.1 hk_p0
            show v_ l D cy ka cX15_person RX15 5 (some FieldType.int) "person" 1 22 (qf_ D cy σ z (some (.int r))) σ z _ 70 [(0, va_rf (some p0)), (1, .int p1), (2, .int p2), (3, .int p3), (4, .int p4)] [.int x15]
            exact v_iret hf dX15_person_70
          · refine v_aload_n (x := (some p0)) dX15_person_71 rfl 0 rfl ?_
            refine v_getr cb_16 hk_p0 8 1608 rfl (by decide) rfl (lk_n kw_1465 rfl) hf dX15_person_72 (fun r17 hf => ?_)
            refine v_aload_n (x := (some p0)) dX15_person_75 rfl 0 rfl ?_
            refine v_geti cb_16 hk_p0 5 1605 rfl (by decide) rfl (lk_n kw_1462 rfl) hf dX15_person_76 (fun x18 hf => ?_)
            refine v_iload_n (x := p1) dX15_person_79 rfl 1 rfl ?_
            obtain ⟨a19, rfl, hf⟩ := nn_of hf
            obtain ⟨hk_a19, hf⟩ := gt_of hf
            refine v_iast2 hk_a19 hf dX15_person_80 (fun s20 hts20 hf => ?_)
            have hk_p0 := tk_ hts20 hk_p0
            refine v_aload_n (x := (some p0)) dX15_person_81 rfl 0 rfl ?_
            refine v_getr cb_16 hk_p0 9 1609 rfl (by decide) rfl (lk_n kw_1466 rfl) hf dX15_person_82 (fun r21 hf => ?_)
            refine v_aload_n (x := (some p0)) dX15_person_85 rfl 0 rfl ?_
            refine v_geti cb_16 hk_p0 5 1605 rfl (by decide) rfl (lk_n kw_1462 rfl) hf dX15_person_86 (fun x22 hf => ?_)
            refine v_iload_n (x := p2) dX15_person_89 rfl 2 rfl ?_
            obtain ⟨a23, rfl, hf⟩ := nn_of hf
            obtain ⟨hk_a23, hf⟩ := gt_of hf
            refine v_iast2 hk_a23 hf dX15_person_90 (fun s24 hts24 hf => ?_)
            have hk_p0 := tk_ hts24 hk_p0
            refine v_aload_n (x := (some p0)) dX15_person_91 rfl 0 rfl ?_
            refine v_getr cb_16 hk_p0 10 1610 rfl (by decide) rfl (lk_n kw_1467 rfl) hf dX15_person_92 (fun r25 hf => ?_)
            refine v_aload_n (x := (some p0)) dX15_person_95 rfl 0 rfl ?_
            refine v_geti cb_16 hk_p0 5 1605 rfl (by decide) rfl (lk_n kw_1462 rfl) hf dX15_person_96 (fun x26 hf => ?_)
            refine v_iload_n (x := p3) dX15_person_99 rfl 3 rfl ?_
            obtain ⟨a27, rfl, hf⟩ := nn_of hf
            obtain ⟨hk_a27, hf⟩ := gt_of hf
            refine v_iast2 hk_a27 hf dX15_person_100 (fun s28 hts28 hf => ?_)
            have hk_p0 := tk_ hts28 hk_p0
            refine v_aload_n (x := (some p0)) dX15_person_101 rfl 0 rfl ?_
            refine v_getr cb_16 hk_p0 11 1611 rfl (by decide) rfl (lk_n kw_1468 rfl) hf dX15_person_102 (fun r29 hf => ?_)
            refine v_aload_n (x := (some p0)) dX15_person_105 rfl 0 rfl ?_
            refine v_geti cb_16 hk_p0 5 1605 rfl (by decide) rfl (lk_n kw_1462 rfl) hf dX15_person_106 (fun x30 hf => ?_)
            refine v_iload (x := p4) dX15_person_109 4 rfl ?_
            obtain ⟨a31, rfl, hf⟩ := nn_of hf
            obtain ⟨hk_a31, hf⟩ := gt_of hf
            refine v_iast2 hk_a31 hf dX15_person_111 (fun s32 hts32 hf => ?_)
            have hk_p0 := tk_ hts32 hk_p0
            refine v_aload_n (x := (some p0)) dX15_person_112 rfl 0 rfl ?_
            refine v_getr cb_16 hk_p0 12 1612 rfl (by decide) rfl (lk_n kw_1469 rfl) hf dX15_person_113 (fun r33 hf => ?_)
            refine v_aload_n (x := (some p0)) dX15_person_116 rfl 0 rfl ?_
            refine v_geti cb_16 hk_p0 5 1605 rfl (by decide) rfl (lk_n kw_1462 rfl) hf dX15_person_117 (fun x34 hf => ?_)
            refine v_bipush (v := (-2)) dX15_person_120 (by decide) ?_
            obtain ⟨a35, rfl, hf⟩ := nn_of hf
            obtain ⟨hk_a35, hf⟩ := gt_of hf
            refine v_iast2 hk_a35 hf dX15_person_122 (fun s36 hts36 hf => ?_)
            have hk_p0 := tk_ hts36 hk_p0
            refine v_aload_n (x := (some p0)) dX15_person_123 rfl 0 rfl ?_
            refine v_dup dX15_person_124 (va_rf_cat _) ?_
            refine v_geti cb_16 hk_p0 5 1605 rfl (by decide) rfl (lk_n kw_1462 rfl) hf dX15_person_125 (fun x37 hf => ?_)
            refine v_iconst (v := 1) dX15_person_128 (by decide) ?_
            refine v_iadd dX15_person_129 ?_
            refine v_puti2 cb_16 hk_p0 5 1605 rfl (by decide) rfl (lk_n kw_1462 rfl) (Or.inl rfl) rfl rfl hf dX15_person_130 (fun s38 hts38 hf => ?_)
            have hk_p0 := tk_ hts38 hk_p0
            refine v_aload_n (x := (some p0)) dX15_person_133 rfl 0 rfl ?_
            refine v_aload_n (x := (some p0)) dX15_person_134 rfl 0 rfl ?_
            refine v_geti cb_16 hk_p0 5 1605 rfl (by decide) rfl (lk_n kw_1462 rfl) hf dX15_person_135 (fun x39 hf => ?_)
            refine v_iconst (v := 1) dX15_person_138 (by decide) ?_
            refine v_isub dX15_person_139 ?_
            obtain ⟨x40, s41, hcs41, hf⟩ := bd_of hf
            have hts41 := c_X15_done (l := l) (D := D) (cy := cy) (ka := ka) hcs41
            refine v_callV cb_16 hk_p0 (As := [.int (x39 - (1 : Int32))]) (rest := []) hts41 yb_X15_done kw_1733 kw_1735 kp_78 rfl ⟨Nat.le_of_ble_eq_true rfl, Nat.le_of_ble_eq_true rfl⟩ rfl (cat_len (Nat.le_of_ble_eq_true rfl)) dX15_person_140 ?_
            have hk_p0 := tk_ hts41.1 hk_p0
            show v_ l D cy ka cX15_person RX15 5 (some FieldType.int) "person" 1 22 (qf_ D cy σ z (some (.int r))) σ z _ 143 [(0, va_rf (some p0)), (1, .int p1), (2, .int p2), (3, .int p3), (4, .int p4)] [.int x40]
            exact v_iret hf dX15_person_143
theorem dX15_picture_0 : decode cX15_picture 0 = .ok (.aload_n 0, 1) := by decide +kernel
theorem dX15_picture_1 : decode cX15_picture 1 = .ok (.iconst 0, 1) := by decide +kernel
theorem dX15_picture_2 : decode cX15_picture 2 = .ok (.putfield 1, 3) := by decide +kernel
theorem dX15_picture_5 : decode cX15_picture 5 = .ok (.aload_n 0, 1) := by decide +kernel
theorem dX15_picture_6 : decode cX15_picture 6 = .ok (.iload_n 1, 1) := by decide +kernel
theorem dX15_picture_7 : decode cX15_picture 7 = .ok (.invokevirtual 227, 3) := by decide +kernel
theorem dX15_picture_10 : decode cX15_picture 10 = .ok (.ifCond .ne 9, 3) := by decide +kernel
theorem dX15_picture_13 : decode cX15_picture 13 = .ok (.aload_n 0, 1) := by decide +kernel
theorem dX15_picture_14 : decode cX15_picture 14 = .ok (.iconst 1, 1) := by decide +kernel
theorem dX15_picture_15 : decode cX15_picture 15 = .ok (.invokevirtual 201, 3) := by decide +kernel
theorem dX15_picture_18 : decode cX15_picture 18 = .ok (.ireturn, 1) := by decide +kernel
theorem dX15_picture_19 : decode cX15_picture 19 = .ok (.iload_n 2, 1) := by decide +kernel
theorem dX15_picture_20 : decode cX15_picture 20 = .ok (.iconst 1, 1) := by decide +kernel
theorem dX15_picture_21 : decode cX15_picture 21 = .ok (.bipush 100, 2) := by decide +kernel
theorem dX15_picture_23 : decode cX15_picture 23 = .ok (.invokestatic 197, 3) := by decide +kernel
theorem dX15_picture_26 : decode cX15_picture 26 = .ok (.ifCond .eq 37, 3) := by decide +kernel
theorem dX15_picture_29 : decode cX15_picture 29 = .ok (.iload_n 3, 1) := by decide +kernel
theorem dX15_picture_30 : decode cX15_picture 30 = .ok (.iconst 0, 1) := by decide +kernel
theorem dX15_picture_31 : decode cX15_picture 31 = .ok (.sipush 3650, 3) := by decide +kernel
theorem dX15_picture_34 : decode cX15_picture 34 = .ok (.invokestatic 197, 3) := by decide +kernel
theorem dX15_picture_37 : decode cX15_picture 37 = .ok (.ifCond .eq 26, 3) := by decide +kernel
theorem dX15_picture_40 : decode cX15_picture 40 = .ok (.iload 4, 2) := by decide +kernel
theorem dX15_picture_42 : decode cX15_picture 42 = .ok (.iload_n 3, 1) := by decide +kernel
theorem dX15_picture_43 : decode cX15_picture 43 = .ok (.sipush 3650, 3) := by decide +kernel
theorem dX15_picture_46 : decode cX15_picture 46 = .ok (.invokestatic 197, 3) := by decide +kernel
theorem dX15_picture_49 : decode cX15_picture 49 = .ok (.ifCond .eq 14, 3) := by decide +kernel
theorem dX15_picture_52 : decode cX15_picture 52 = .ok (.iload 5, 2) := by decide +kernel
theorem dX15_picture_54 : decode cX15_picture 54 = .ok (.iconst 1, 1) := by decide +kernel
theorem dX15_picture_55 : decode cX15_picture 55 = .ok (.bipush 99, 2) := by decide +kernel
theorem dX15_picture_57 : decode cX15_picture 57 = .ok (.invokestatic 197, 3) := by decide +kernel
theorem dX15_picture_60 : decode cX15_picture 60 = .ok (.ifCond .ne 9, 3) := by decide +kernel
theorem dX15_picture_63 : decode cX15_picture 63 = .ok (.aload_n 0, 1) := by decide +kernel
theorem dX15_picture_64 : decode cX15_picture 64 = .ok (.iconst 2, 1) := by decide +kernel
theorem dX15_picture_65 : decode cX15_picture 65 = .ok (.invokevirtual 201, 3) := by decide +kernel
theorem dX15_picture_68 : decode cX15_picture 68 = .ok (.ireturn, 1) := by decide +kernel
theorem dX15_picture_69 : decode cX15_picture 69 = .ok (.aload_n 0, 1) := by decide +kernel
theorem dX15_picture_70 : decode cX15_picture 70 = .ok (.getfield 559, 3) := by decide +kernel
theorem dX15_picture_73 : decode cX15_picture 73 = .ok (.bipush 40, 2) := by decide +kernel
theorem dX15_picture_75 : decode cX15_picture 75 = .ok (.if_icmp .ne 9, 3) := by decide +kernel
theorem dX15_picture_78 : decode cX15_picture 78 = .ok (.aload_n 0, 1) := by decide +kernel
theorem dX15_picture_79 : decode cX15_picture 79 = .ok (.iconst 3, 1) := by decide +kernel
theorem dX15_picture_80 : decode cX15_picture 80 = .ok (.invokevirtual 201, 3) := by decide +kernel
theorem dX15_picture_83 : decode cX15_picture 83 = .ok (.ireturn, 1) := by decide +kernel
theorem dX15_picture_84 : decode cX15_picture 84 = .ok (.aload_n 0, 1) := by decide +kernel
theorem dX15_picture_85 : decode cX15_picture 85 = .ok (.getfield 143, 3) := by decide +kernel
theorem dX15_picture_88 : decode cX15_picture 88 = .ok (.aload_n 0, 1) := by decide +kernel
theorem dX15_picture_89 : decode cX15_picture 89 = .ok (.getfield 559, 3) := by decide +kernel
theorem dX15_picture_92 : decode cX15_picture 92 = .ok (.iload_n 1, 1) := by decide +kernel
theorem dX15_picture_93 : decode cX15_picture 93 = .ok (.iastore, 1) := by decide +kernel
theorem dX15_picture_94 : decode cX15_picture 94 = .ok (.aload_n 0, 1) := by decide +kernel
theorem dX15_picture_95 : decode cX15_picture 95 = .ok (.getfield 146, 3) := by decide +kernel
theorem dX15_picture_98 : decode cX15_picture 98 = .ok (.aload_n 0, 1) := by decide +kernel
theorem dX15_picture_99 : decode cX15_picture 99 = .ok (.getfield 559, 3) := by decide +kernel
theorem dX15_picture_102 : decode cX15_picture 102 = .ok (.iload_n 2, 1) := by decide +kernel
theorem dX15_picture_103 : decode cX15_picture 103 = .ok (.iastore, 1) := by decide +kernel
theorem dX15_picture_104 : decode cX15_picture 104 = .ok (.aload_n 0, 1) := by decide +kernel
theorem dX15_picture_105 : decode cX15_picture 105 = .ok (.getfield 149, 3) := by decide +kernel
theorem dX15_picture_108 : decode cX15_picture 108 = .ok (.aload_n 0, 1) := by decide +kernel
theorem dX15_picture_109 : decode cX15_picture 109 = .ok (.getfield 559, 3) := by decide +kernel
theorem dX15_picture_112 : decode cX15_picture 112 = .ok (.iload_n 3, 1) := by decide +kernel
theorem dX15_picture_113 : decode cX15_picture 113 = .ok (.iastore, 1) := by decide +kernel
theorem dX15_picture_114 : decode cX15_picture 114 = .ok (.aload_n 0, 1) := by decide +kernel
theorem dX15_picture_115 : decode cX15_picture 115 = .ok (.getfield 152, 3) := by decide +kernel
theorem dX15_picture_118 : decode cX15_picture 118 = .ok (.aload_n 0, 1) := by decide +kernel
theorem dX15_picture_119 : decode cX15_picture 119 = .ok (.getfield 559, 3) := by decide +kernel
theorem dX15_picture_122 : decode cX15_picture 122 = .ok (.iload 4, 2) := by decide +kernel
theorem dX15_picture_124 : decode cX15_picture 124 = .ok (.iastore, 1) := by decide +kernel
theorem dX15_picture_125 : decode cX15_picture 125 = .ok (.aload_n 0, 1) := by decide +kernel
theorem dX15_picture_126 : decode cX15_picture 126 = .ok (.getfield 155, 3) := by decide +kernel
theorem dX15_picture_129 : decode cX15_picture 129 = .ok (.aload_n 0, 1) := by decide +kernel
theorem dX15_picture_130 : decode cX15_picture 130 = .ok (.getfield 559, 3) := by decide +kernel
theorem dX15_picture_133 : decode cX15_picture 133 = .ok (.iload 5, 2) := by decide +kernel
theorem dX15_picture_135 : decode cX15_picture 135 = .ok (.iastore, 1) := by decide +kernel
theorem dX15_picture_136 : decode cX15_picture 136 = .ok (.aload_n 0, 1) := by decide +kernel
theorem dX15_picture_137 : decode cX15_picture 137 = .ok (.dup, 1) := by decide +kernel
theorem dX15_picture_138 : decode cX15_picture 138 = .ok (.getfield 559, 3) := by decide +kernel
theorem dX15_picture_141 : decode cX15_picture 141 = .ok (.iconst 1, 1) := by decide +kernel
theorem dX15_picture_142 : decode cX15_picture 142 = .ok (.iadd, 1) := by decide +kernel
theorem dX15_picture_143 : decode cX15_picture 143 = .ok (.putfield 559, 3) := by decide +kernel
theorem dX15_picture_146 : decode cX15_picture 146 = .ok (.aload_n 0, 1) := by decide +kernel
theorem dX15_picture_147 : decode cX15_picture 147 = .ok (.aload_n 0, 1) := by decide +kernel
theorem dX15_picture_148 : decode cX15_picture 148 = .ok (.getfield 559, 3) := by decide +kernel
theorem dX15_picture_151 : decode cX15_picture 151 = .ok (.iconst 1, 1) := by decide +kernel
theorem dX15_picture_152 : decode cX15_picture 152 = .ok (.isub, 1) := by decide +kernel
theorem dX15_picture_153 : decode cX15_picture 153 = .ok (.invokevirtual 205, 3) := by decide +kernel
theorem dX15_picture_156 : decode cX15_picture 156 = .ok (.ireturn, 1) := by decide +kernel
def f_X15_picture_b63 (σ : TH) (l0 : Nat) : Option (Int32 × TH) :=
  gt_ (kd_ σ l0 = 17) <| bd_ (f_X15_refused σ l0 (2 : Int32)) fun x8 s9 => some (x8, s9)
set_option maxHeartbeats 4000000 in
set_option maxRecDepth 100000 in
theorem t_X15_picture_b63 {l : Launch} {D : va_G} {cy : Nat → ClassId} {ka : Nat → Nat} {σ0 z : TH} {r : Int32}  {σ : TH} {l0 : Nat} (hf : f_X15_picture_b63 σ l0 = some (r, z)) : v_ l D cy ka cX15_picture RX15 6 (some FieldType.int) "picture" 1 22 (qf_ D cy σ0 z (some (.int r))) σ0 z σ 63 [(0, va_rf (some l0))] [] := by
  unfold f_X15_picture_b63 at hf
  refine v_aload_n (x := (some l0)) dX15_picture_63 rfl 0 rfl ?_
  refine v_iconst (v := 2) dX15_picture_64 (by decide) ?_
  obtain ⟨hk_l0, hf⟩ := gt_of hf
  obtain ⟨x8, s9, hcs9, hf⟩ := bd_of hf
  have hts9 := c_X15_refused (l := l) (D := D) (cy := cy) (ka := ka) hcs9
  refine v_callV cb_16 hk_l0 (As := [.int (2 : Int32)]) (rest := []) hts9 yb_X15_refused kw_1729 kw_1731 kp_77 rfl ⟨Nat.le_of_ble_eq_true rfl, Nat.le_of_ble_eq_true rfl⟩ rfl (cat_len (Nat.le_of_ble_eq_true rfl)) dX15_picture_65 ?_
  have hk_l0 := tk_ hts9.1 hk_l0
  show v_ l D cy ka cX15_picture RX15 6 (some FieldType.int) "picture" 1 22 (qf_ D cy σ0 z (some (.int r))) σ0 z _ 68 [(0, va_rf (some l0))] [.int x8]
  exact v_iret hf dX15_picture_68
/-- LivesAheadModel.picture(IIIII)I -/
def f_X15_picture (σ : TH) (p0 : Nat) (p1 : Int32) (p2 : Int32) (p3 : Int32) (p4 : Int32) (p5 : Int32) : Option (Int32 × TH) :=
  gt_ (kd_ σ p0 = 17) <| lt_ (si_ σ 1600 p0 (0 : Int32)) fun s1 => bd_ (f_X15_isPerson s1 p0 p1) fun x2 s3 => if x2 = 0 then (bd_ (f_X15_refused s3 p0 (1 : Int32)) fun x4 s5 => some (x4, s5)) else (bd_ (f_X15_in s3 p2 (1 : Int32) (100 : Int32)) fun x6 s7 => if x6 = 0 then (f_X15_picture_b63 s7 p0) else (bd_ (f_X15_in s7 p3 (0 : Int32) (3650 : Int32)) fun x10 s11 => if x10 = 0 then (f_X15_picture_b63 s11 p0) else (bd_ (f_X15_in s11 p4 p3 (3650 : Int32)) fun x12 s13 => if x12 = 0 then (f_X15_picture_b63 s13 p0) else (bd_ (f_X15_in s13 p5 (1 : Int32) (99 : Int32)) fun x14 s15 => if x14 = 0 then (f_X15_picture_b63 s15 p0) else (lt_ (fi_ s15 1669 p0) fun x16 => if x16 = (40 : Int32) then (bd_ (f_X15_refused s15 p0 (3 : Int32)) fun x17 s18 => some (x17, s18)) else (lt_ (fr_ s15 1672 p0) fun r19 => lt_ (fi_ s15 1669 p0) fun x20 => nn_ r19 fun a21 => gt_ (kd_ s15 a21 = 20) <| gt_ (¬ (x20 < 0 ∨ ln_ s15 a21 ≤ x20.toNatClampNeg)) <| lt_ (sa_ s15 a21 x20.toNatClampNeg p1) fun s22 => lt_ (fr_ s22 1673 p0) fun r23 => lt_ (fi_ s22 1669 p0) fun x24 => nn_ r23 fun a25 => gt_ (kd_ s22 a25 = 20) <| gt_ (¬ (x24 < 0 ∨ ln_ s22 a25 ≤ x24.toNatClampNeg)) <| lt_ (sa_ s22 a25 x24.toNatClampNeg p2) fun s26 => lt_ (fr_ s26 1674 p0) fun r27 => lt_ (fi_ s26 1669 p0) fun x28 => nn_ r27 fun a29 => gt_ (kd_ s26 a29 = 20) <| gt_ (¬ (x28 < 0 ∨ ln_ s26 a29 ≤ x28.toNatClampNeg)) <| lt_ (sa_ s26 a29 x28.toNatClampNeg p3) fun s30 => lt_ (fr_ s30 1675 p0) fun r31 => lt_ (fi_ s30 1669 p0) fun x32 => nn_ r31 fun a33 => gt_ (kd_ s30 a33 = 20) <| gt_ (¬ (x32 < 0 ∨ ln_ s30 a33 ≤ x32.toNatClampNeg)) <| lt_ (sa_ s30 a33 x32.toNatClampNeg p4) fun s34 => lt_ (fr_ s34 1676 p0) fun r35 => lt_ (fi_ s34 1669 p0) fun x36 => nn_ r35 fun a37 => gt_ (kd_ s34 a37 = 20) <| gt_ (¬ (x36 < 0 ∨ ln_ s34 a37 ≤ x36.toNatClampNeg)) <| lt_ (sa_ s34 a37 x36.toNatClampNeg p5) fun s38 => lt_ (fi_ s38 1669 p0) fun x39 => lt_ (si_ s38 1669 p0 (x39 + (1 : Int32))) fun s40 => lt_ (fi_ s40 1669 p0) fun x41 => bd_ (f_X15_done s40 p0 (x41 - (1 : Int32))) fun x42 s43 => some (x42, s43)))))))
set_option maxHeartbeats 4000000 in
set_option maxRecDepth 100000 in
theorem c_X15_picture {l : Launch} {D : va_G} {cy : Nat → ClassId} {ka : Nat → Nat} {σ z : TH} {p0 : Nat} {p1 : Int32} {p2 : Int32} {p3 : Int32} {p4 : Int32} {p5 : Int32} {r : Int32} (hf : f_X15_picture σ p0 p1 p2 p3 p4 p5 = some (r, z)) : ct_ l D cy ka yX15_picture 1 22 [va_rf (some p0), .int p1, .int p2, .int p3, .int p4, .int p5] σ (some (.int r)) z := by
  unfold f_X15_picture at hf
  refine v_start (cc := cX15_picture) (own := RX15) (maxL := 6) (ret := (some FieldType.int)) (nm := "picture") (by decide +kernel) kw_2149 rfl rfl (by simp [lg_sl, va_rf_cat, cat_i, cat_l]) ?_
  refine v_eqL (L2 := [(0, va_rf (some p0)), (1, .int p1), (2, .int p2), (3, .int p3), (4, .int p4), (5, .int p5)]) (by simp [lv_args, va_rf_cat, cat_i, cat_l]) ?_
  refine v_aload_n (x := (some p0)) dX15_picture_0 rfl 0 rfl ?_
  refine v_iconst (v := 0) dX15_picture_1 (by decide) ?_
  obtain ⟨hk_p0, hf⟩ := gt_of hf
  refine v_puti2 cb_16 hk_p0 0 1600 rfl (by decide) rfl (lk_n kw_1457 rfl) (Or.inl rfl) rfl rfl hf dX15_picture_2 (fun s1 hts1 hf => ?_)
  have hk_p0 := tk_ hts1 hk_p0
  refine v_aload_n (x := (some p0)) dX15_picture_5 rfl 0 rfl ?_
  refine v_iload_n (x := p1) dX15_picture_6 rfl 1 rfl ?_
  obtain ⟨x2, s3, hcs3, hf⟩ := bd_of hf
  have hts3 := c_X15_isPerson (l := l) (D := D) (cy := cy) (ka := ka) hcs3
  refine v_callV cb_16 hk_p0 (As := [.int p1]) (rest := []) hts3 yb_X15_isPerson kw_1770 kw_1772 kp_83 rfl ⟨Nat.le_of_ble_eq_true rfl, Nat.le_of_ble_eq_true rfl⟩ rfl (cat_len (Nat.le_of_ble_eq_true rfl)) dX15_picture_7 ?_
  have hk_p0 := tk_ hts3.1 hk_p0
  show v_ l D cy ka cX15_picture RX15 6 (some FieldType.int) "picture" 1 22 (qf_ D cy σ z (some (.int r))) σ z _ 10 [(0, va_rf (some p0)), (1, .int p1), (2, .int p2), (3, .int p3), (4, .int p4), (5, .int p5)] [.int x2]
  refine v_if_ne (tgt := 19) hf dX15_picture_10 (by decide) (fun hq hf => ?_) (fun hq hf => ?_)
  · refine v_aload_n (x := (some p0)) dX15_picture_13 rfl 0 rfl ?_
    refine v_iconst (v := 1) dX15_picture_14 (by decide) ?_
    obtain ⟨x4, s5, hcs5, hf⟩ := bd_of hf
    have hts5 := c_X15_refused (l := l) (D := D) (cy := cy) (ka := ka) hcs5
    refine v_callV cb_16 hk_p0 (As := [.int (1 : Int32)]) (rest := []) hts5 yb_X15_refused kw_1729 kw_1731 kp_77 rfl ⟨Nat.le_of_ble_eq_true rfl, Nat.le_of_ble_eq_true rfl⟩ rfl (cat_len (Nat.le_of_ble_eq_true rfl)) dX15_picture_15 ?_
    have hk_p0 := tk_ hts5.1 hk_p0
    show v_ l D cy ka cX15_picture RX15 6 (some FieldType.int) "picture" 1 22 (qf_ D cy σ z (some (.int r))) σ z _ 18 [(0, va_rf (some p0)), (1, .int p1), (2, .int p2), (3, .int p3), (4, .int p4), (5, .int p5)] [.int x4]
    exact v_iret hf dX15_picture_18
  · refine v_iload_n (x := p2) dX15_picture_19 rfl 2 rfl ?_
    refine v_iconst (v := 1) dX15_picture_20 (by decide) ?_
    refine v_bipush (v := 100) dX15_picture_21 (by decide) ?_
    obtain ⟨x6, s7, hcs7, hf⟩ := bd_of hf
    have hts7 := c_X15_in (l := l) (D := D) (cy := cy) (ka := ka) hcs7
    refine v_callS (As := [.int p2, .int (1 : Int32), .int (100 : Int32)]) (rest := []) hts7 yb_X15_in kw_1726 kw_1727 rfl ⟨Nat.le_of_ble_eq_true rfl, Nat.le_of_ble_eq_true rfl⟩ rfl (cat_len (Nat.le_of_ble_eq_true rfl)) dX15_picture_23 ?_
    have hk_p0 := tk_ hts7.1 hk_p0
    show v_ l D cy ka cX15_picture RX15 6 (some FieldType.int) "picture" 1 22 (qf_ D cy σ z (some (.int r))) σ z _ 26 [(0, va_rf (some p0)), (1, .int p1), (2, .int p2), (3, .int p3), (4, .int p4), (5, .int p5)] [.int x6]
    refine v_if_eq (tgt := 63) hf dX15_picture_26 (by decide) (fun hq hf => ?_) (fun hq hf => ?_)
    · refine v_sub [0] (L2 := [(0, va_rf (some p0))]) rfl ?_
      exact t_X15_picture_b63  hf
    · refine v_iload_n (x := p3) dX15_picture_29 rfl 3 rfl ?_
      refine v_iconst (v := 0) dX15_picture_30 (by decide) ?_
      refine v_sipush (v := 3650) dX15_picture_31 (by decide) ?_
      obtain ⟨x10, s11, hcs11, hf⟩ := bd_of hf
      have hts11 := c_X15_in (l := l) (D := D) (cy := cy) (ka := ka) hcs11
      refine v_callS (As := [.int p3, .int (0 : Int32), .int (3650 : Int32)]) (rest := []) hts11 yb_X15_in kw_1726 kw_1727 rfl ⟨Nat.le_of_ble_eq_true rfl, Nat.le_of_ble_eq_true rfl⟩ rfl (cat_len (Nat.le_of_ble_eq_true rfl)) dX15_picture_34 ?_
      have hk_p0 := tk_ hts11.1 hk_p0
      show v_ l D cy ka cX15_picture RX15 6 (some FieldType.int) "picture" 1 22 (qf_ D cy σ z (some (.int r))) σ z _ 37 [(0, va_rf (some p0)), (1, .int p1), (2, .int p2), (3, .int p3), (4, .int p4), (5, .int p5)] [.int x10]
      refine v_if_eq (tgt := 63) hf dX15_picture_37 (by decide) (fun hq hf => ?_) (fun hq hf => ?_)
      · refine v_sub [0] (L2 := [(0, va_rf (some p0))]) rfl ?_
        exact t_X15_picture_b63  hf
      · refine v_iload (x := p4) dX15_picture_40 4 rfl ?_
        refine v_iload_n (x := p3) dX15_picture_42 rfl 3 rfl ?_
        refine v_sipush (v := 3650) dX15_picture_43 (by decide) ?_
        obtain ⟨x12, s13, hcs13, hf⟩ := bd_of hf
        have hts13 := c_X15_in (l := l) (D := D) (cy := cy) (ka := ka) hcs13
        refine v_callS (As := [.int p4, .int p3, .int (3650 : Int32)]) (rest := []) hts13 yb_X15_in kw_1726 kw_1727 rfl ⟨Nat.le_of_ble_eq_true rfl, Nat.le_of_ble_eq_true rfl⟩ rfl (cat_len (Nat.le_of_ble_eq_true rfl)) dX15_picture_46 ?_
        have hk_p0 := tk_ hts13.1 hk_p0
        show v_ l D cy ka cX15_picture RX15 6 (some FieldType.int) "picture" 1 22 (qf_ D cy σ z (some (.int r))) σ z _ 49 [(0, va_rf (some p0)), (1, .int p1), (2, .int p2), (3, .int p3), (4, .int p4), (5, .int p5)] [.int x12]
        refine v_if_eq (tgt := 63) hf dX15_picture_49 (by decide) (fun hq hf => ?_) (fun hq hf => ?_)
        · refine v_sub [0] (L2 := [(0, va_rf (some p0))]) rfl ?_
          exact t_X15_picture_b63  hf
        · refine v_iload (x := p5) dX15_picture_52 5 rfl ?_
          refine v_iconst (v := 1) dX15_picture_54 (by decide) ?_
          refine v_bipush (v := 99) dX15_picture_55 (by decide) ?_
          obtain ⟨x14, s15, hcs15, hf⟩ := bd_of hf
          have hts15 := c_X15_in (l := l) (D := D) (cy := cy) (ka := ka) hcs15
          refine v_callS (As := [.int p5, .int (1 : Int32), .int (99 : Int32)]) (rest := []) hts15 yb_X15_in kw_1726 kw_1727 rfl ⟨Nat.le_of_ble_eq_true rfl, Nat.le_of_ble_eq_true rfl⟩ rfl (cat_len (Nat.le_of_ble_eq_true rfl)) dX15_picture_57 ?_
          have hk_p0 := tk_ hts15.1 hk_p0
          show v_ l D cy ka cX15_picture RX15 6 (some FieldType.int) "picture" 1 22 (qf_ D cy σ z (some (.int r))) σ z _ 60 [(0, va_rf (some p0)), (1, .int p1), (2, .int p2), (3, .int p3), (4, .int p4), (5, .int p5)] [.int x14]
          refine v_if_ne (tgt := 69) hf dX15_picture_60 (by decide) (fun hq hf => ?_) (fun hq hf => ?_)
          · refine v_sub [0] (L2 := [(0, va_rf (some p0))]) rfl ?_
            exact t_X15_picture_b63  hf
          · refine v_aload_n (x := (some p0)) dX15_picture_69 rfl 0 rfl ?_
            refine v_geti cb_16 hk_p0 69 1669 rfl (by decide) rfl (lk_n kw_1526 rfl) hf dX15_picture_70 (fun x16 hf => ?_)
            refine v_bipush (v := 40) dX15_picture_73 (by decide) ?_
            refine v_icmp_ne (tgt := 84) hf dX15_picture_75 (by decide) (fun hq hf => ?_) (fun hq hf => ?_)
            · refine v_aload_n (x := (some p0)) dX15_picture_78 rfl 0 rfl ?_
              refine v_iconst (v := 3) dX15_picture_79 (by decide) ?_
              obtain ⟨x17, s18, hcs18, hf⟩ := bd_of hf
              have hts18 := c_X15_refused (l := l) (D := D) (cy := cy) (ka := ka) hcs18
              refine v_callV cb_16 hk_p0 (As := [.int (3 : Int32)]) (rest := []) hts18 yb_X15_refused kw_1729 kw_1731 kp_77 rfl ⟨Nat.le_of_ble_eq_true rfl, Nat.le_of_ble_eq_true rfl⟩ rfl (cat_len (Nat.le_of_ble_eq_true rfl)) dX15_picture_80 ?_
              have hk_p0 := tk_ hts18.1 hk_p0
              show v_ l D cy ka cX15_picture RX15 6 (some FieldType.int) "picture" 1 22 (qf_ D cy σ z (some (.int r))) σ z _ 83 [(0, va_rf (some p0)), (1, .int p1), (2, .int p2), (3, .int p3), (4, .int p4), (5, .int p5)] [.int x17]
              exact v_iret hf dX15_picture_83
            · refine v_aload_n (x := (some p0)) dX15_picture_84 rfl 0 rfl ?_
              refine v_getr cb_16 hk_p0 72 1672 rfl (by decide) rfl (lk_n kw_1529 rfl) hf dX15_picture_85 (fun r19 hf => ?_)
              refine v_aload_n (x := (some p0)) dX15_picture_88 rfl 0 rfl ?_
              refine v_geti cb_16 hk_p0 69 1669 rfl (by decide) rfl (lk_n kw_1526 rfl) hf dX15_picture_89 (fun x20 hf => ?_)
              refine v_iload_n (x := p1) dX15_picture_92 rfl 1 rfl ?_
              obtain ⟨a21, rfl, hf⟩ := nn_of hf
              obtain ⟨hk_a21, hf⟩ := gt_of hf
              refine v_iast2 hk_a21 hf dX15_picture_93 (fun s22 hts22 hf => ?_)
              have hk_p0 := tk_ hts22 hk_p0
              refine v_aload_n (x := (some p0)) dX15_picture_94 rfl 0 rfl ?_
              refine v_getr cb_16 hk_p0 73 1673 rfl (by decide) rfl (lk_n kw_1530 rfl) hf dX15_picture_95 (fun r23 hf => ?_)
              refine v_aload_n (x := (some p0)) dX15_picture_98 rfl 0 rfl ?_
              refine v_geti cb_16 hk_p0 69 1669 rfl (by decide) rfl (lk_n kw_1526 rfl) hf dX15_picture_99 (fun x24 hf => ?_)
              refine v_iload_n (x := p2) dX15_picture_102 rfl 2 rfl ?_
              obtain ⟨a25, rfl, hf⟩ := nn_of hf
              obtain ⟨hk_a25, hf⟩ := gt_of hf
              refine v_iast2 hk_a25 hf dX15_picture_103 (fun s26 hts26 hf => ?_)
              have hk_p0 := tk_ hts26 hk_p0
              refine v_aload_n (x := (some p0)) dX15_picture_104 rfl 0 rfl ?_
              refine v_getr cb_16 hk_p0 74 1674 rfl (by decide) rfl (lk_n kw_1531 rfl) hf dX15_picture_105 (fun r27 hf => ?_)
              refine v_aload_n (x := (some p0)) dX15_picture_108 rfl 0 rfl ?_
              refine v_geti cb_16 hk_p0 69 1669 rfl (by decide) rfl (lk_n kw_1526 rfl) hf dX15_picture_109 (fun x28 hf => ?_)
              refine v_iload_n (x := p3) dX15_picture_112 rfl 3 rfl ?_
              obtain ⟨a29, rfl, hf⟩ := nn_of hf
              obtain ⟨hk_a29, hf⟩ := gt_of hf
              refine v_iast2 hk_a29 hf dX15_picture_113 (fun s30 hts30 hf => ?_)
              have hk_p0 := tk_ hts30 hk_p0
              refine v_aload_n (x := (some p0)) dX15_picture_114 rfl 0 rfl ?_
              refine v_getr cb_16 hk_p0 75 1675 rfl (by decide) rfl (lk_n kw_1532 rfl) hf dX15_picture_115 (fun r31 hf => ?_)
              refine v_aload_n (x := (some p0)) dX15_picture_118 rfl 0 rfl ?_
              refine v_geti cb_16 hk_p0 69 1669 rfl (by decide) rfl (lk_n kw_1526 rfl) hf dX15_picture_119 (fun x32 hf => ?_)
              refine v_iload (x := p4) dX15_picture_122 4 rfl ?_
              obtain ⟨a33, rfl, hf⟩ := nn_of hf
              obtain ⟨hk_a33, hf⟩ := gt_of hf
              refine v_iast2 hk_a33 hf dX15_picture_124 (fun s34 hts34 hf => ?_)
              have hk_p0 := tk_ hts34 hk_p0
              refine v_aload_n (x := (some p0)) dX15_picture_125 rfl 0 rfl ?_
              refine v_getr cb_16 hk_p0 76 1676 rfl (by decide) rfl (lk_n kw_1533 rfl) hf dX15_picture_126 (fun r35 hf => ?_)
              refine v_aload_n (x := (some p0)) dX15_picture_129 rfl 0 rfl ?_
              refine v_geti cb_16 hk_p0 69 1669 rfl (by decide) rfl (lk_n kw_1526 rfl) hf dX15_picture_130 (fun x36 hf => ?_)
              refine v_iload (x := p5) dX15_picture_133 5 rfl ?_
              obtain ⟨a37, rfl, hf⟩ := nn_of hf
              obtain ⟨hk_a37, hf⟩ := gt_of hf
              refine v_iast2 hk_a37 hf dX15_picture_135 (fun s38 hts38 hf => ?_)
              have hk_p0 := tk_ hts38 hk_p0
              refine v_aload_n (x := (some p0)) dX15_picture_136 rfl 0 rfl ?_
              refine v_dup dX15_picture_137 (va_rf_cat _) ?_
              refine v_geti cb_16 hk_p0 69 1669 rfl (by decide) rfl (lk_n kw_1526 rfl) hf dX15_picture_138 (fun x39 hf => ?_)
              refine v_iconst (v := 1) dX15_picture_141 (by decide) ?_
              refine v_iadd dX15_picture_142 ?_
              refine v_puti2 cb_16 hk_p0 69 1669 rfl (by decide) rfl (lk_n kw_1526 rfl) (Or.inl rfl) rfl rfl hf dX15_picture_143 (fun s40 hts40 hf => ?_)
              have hk_p0 := tk_ hts40 hk_p0
              refine v_aload_n (x := (some p0)) dX15_picture_146 rfl 0 rfl ?_
              refine v_aload_n (x := (some p0)) dX15_picture_147 rfl 0 rfl ?_
              refine v_geti cb_16 hk_p0 69 1669 rfl (by decide) rfl (lk_n kw_1526 rfl) hf dX15_picture_148 (fun x41 hf => ?_)
              refine v_iconst (v := 1) dX15_picture_151 (by decide) ?_
              refine v_isub dX15_picture_152 ?_
              obtain ⟨x42, s43, hcs43, hf⟩ := bd_of hf
              have hts43 := c_X15_done (l := l) (D := D) (cy := cy) (ka := ka) hcs43
              refine v_callV cb_16 hk_p0 (As := [.int (x41 - (1 : Int32))]) (rest := []) hts43 yb_X15_done kw_1733 kw_1735 kp_78 rfl ⟨Nat.le_of_ble_eq_true rfl, Nat.le_of_ble_eq_true rfl⟩ rfl (cat_len (Nat.le_of_ble_eq_true rfl)) dX15_picture_153 ?_
              have hk_p0 := tk_ hts43.1 hk_p0
              show v_ l D cy ka cX15_picture RX15 6 (some FieldType.int) "picture" 1 22 (qf_ D cy σ z (some (.int r))) σ z _ 156 [(0, va_rf (some p0)), (1, .int p1), (2, .int p2), (3, .int p3), (4, .int p4), (5, .int p5)] [.int x42]
              exact v_iret hf dX15_picture_156
