/-! Functions over the typed heap and contracts, by wip/gen/gen.py: X11_paragraph X11_paragraphOf X11_peril X11_person X11_picture X11_print X11_keepReport X11_report X11_rewrite X11_rule X11_rumour X11_said X11_dayMostSaid X11_tell X11_used X11_placeOfLeast -/
theorem dX11_paragraph_0 : decode cX11_paragraph 0 = .ok (.aload_n 0, 1) := by decide +kernel
theorem dX11_paragraph_1 : decode cX11_paragraph 1 = .ok (.iload_n 1, 1) := by decide +kernel
theorem dX11_paragraph_2 : decode cX11_paragraph 2 = .ok (.invokevirtual 149, 3) := by decide +kernel
theorem dX11_paragraph_5 : decode cX11_paragraph 5 = .ok (.astore 5, 2) := by decide +kernel
theorem dX11_paragraph_7 : decode cX11_paragraph 7 = .ok (.aload 5, 2) := by decide +kernel
theorem dX11_paragraph_9 : decode cX11_paragraph 9 = .ok (.ifnonnull 9, 3) := by decide +kernel
theorem dX11_paragraph_12 : decode cX11_paragraph 12 = .ok (.aload_n 0, 1) := by decide +kernel
theorem dX11_paragraph_13 : decode cX11_paragraph 13 = .ok (.iconst 1, 1) := by decide +kernel
theorem dX11_paragraph_14 : decode cX11_paragraph 14 = .ok (.invokevirtual 97, 3) := by decide +kernel
theorem dX11_paragraph_17 : decode cX11_paragraph 17 = .ok (.ireturn, 1) := by decide +kernel
theorem dX11_paragraph_18 : decode cX11_paragraph 18 = .ok (.iload_n 2, 1) := by decide +kernel
theorem dX11_paragraph_19 : decode cX11_paragraph 19 = .ok (.iconst 0, 1) := by decide +kernel
theorem dX11_paragraph_20 : decode cX11_paragraph 20 = .ok (.sipush 999, 3) := by decide +kernel
theorem dX11_paragraph_23 : decode cX11_paragraph 23 = .ok (.invokestatic 93, 3) := by decide +kernel
theorem dX11_paragraph_26 : decode cX11_paragraph 26 = .ok (.ifCond .eq 30, 3) := by decide +kernel
theorem dX11_paragraph_29 : decode cX11_paragraph 29 = .ok (.iload_n 3, 1) := by decide +kernel
theorem dX11_paragraph_30 : decode cX11_paragraph 30 = .ok (.iconst (-1), 1) := by decide +kernel
theorem dX11_paragraph_31 : decode cX11_paragraph 31 = .ok (.aload 5, 2) := by decide +kernel
theorem dX11_paragraph_33 : decode cX11_paragraph 33 = .ok (.getfield 179, 3) := by decide +kernel
theorem dX11_paragraph_36 : decode cX11_paragraph 36 = .ok (.iconst 1, 1) := by decide +kernel
theorem dX11_paragraph_37 : decode cX11_paragraph 37 = .ok (.isub, 1) := by decide +kernel
theorem dX11_paragraph_38 : decode cX11_paragraph 38 = .ok (.invokestatic 93, 3) := by decide +kernel
theorem dX11_paragraph_41 : decode cX11_paragraph 41 = .ok (.ifCond .eq 15, 3) := by decide +kernel
theorem dX11_paragraph_44 : decode cX11_paragraph 44 = .ok (.aload_n 0, 1) := by decide +kernel
theorem dX11_paragraph_45 : decode cX11_paragraph 45 = .ok (.getfield 41, 3) := by decide +kernel
theorem dX11_paragraph_48 : decode cX11_paragraph 48 = .ok (.iload 4, 2) := by decide +kernel
theorem dX11_paragraph_50 : decode cX11_paragraph 50 = .ok (.invokevirtual 251, 3) := by decide +kernel
theorem dX11_paragraph_53 : decode cX11_paragraph 53 = .ok (.ifCond .ne 9, 3) := by decide +kernel
theorem dX11_paragraph_56 : decode cX11_paragraph 56 = .ok (.aload_n 0, 1) := by decide +kernel
theorem dX11_paragraph_57 : decode cX11_paragraph 57 = .ok (.iconst 2, 1) := by decide +kernel
theorem dX11_paragraph_58 : decode cX11_paragraph 58 = .ok (.invokevirtual 97, 3) := by decide +kernel
theorem dX11_paragraph_61 : decode cX11_paragraph 61 = .ok (.ireturn, 1) := by decide +kernel
theorem dX11_paragraph_62 : decode cX11_paragraph 62 = .ok (.aload_n 0, 1) := by decide +kernel
theorem dX11_paragraph_63 : decode cX11_paragraph 63 = .ok (.getfield 41, 3) := by decide +kernel
theorem dX11_paragraph_66 : decode cX11_paragraph 66 = .ok (.iload 4, 2) := by decide +kernel
theorem dX11_paragraph_68 : decode cX11_paragraph 68 = .ok (.iconst 0, 1) := by decide +kernel
theorem dX11_paragraph_69 : decode cX11_paragraph 69 = .ok (.invokevirtual 254, 3) := by decide +kernel
theorem dX11_paragraph_72 : decode cX11_paragraph 72 = .ok (.astore 6, 2) := by decide +kernel
theorem dX11_paragraph_74 : decode cX11_paragraph 74 = .ok (.aload 6, 2) := by decide +kernel
theorem dX11_paragraph_76 : decode cX11_paragraph 76 = .ok (.ifnonnull 9, 3) := by decide +kernel
theorem dX11_paragraph_79 : decode cX11_paragraph 79 = .ok (.aload_n 0, 1) := by decide +kernel
theorem dX11_paragraph_80 : decode cX11_paragraph 80 = .ok (.iconst 4, 1) := by decide +kernel
theorem dX11_paragraph_81 : decode cX11_paragraph 81 = .ok (.invokevirtual 97, 3) := by decide +kernel
theorem dX11_paragraph_84 : decode cX11_paragraph 84 = .ok (.ireturn, 1) := by decide +kernel
theorem dX11_paragraph_85 : decode cX11_paragraph 85 = .ok (.aload 5, 2) := by decide +kernel
theorem dX11_paragraph_87 : decode cX11_paragraph 87 = .ok (.getfield 179, 3) := by decide +kernel
theorem dX11_paragraph_90 : decode cX11_paragraph 90 = .ok (.istore 7, 2) := by decide +kernel
theorem dX11_paragraph_92 : decode cX11_paragraph 92 = .ok (.iload 7, 2) := by decide +kernel
theorem dX11_paragraph_94 : decode cX11_paragraph 94 = .ok (.bipush 14, 2) := by decide +kernel
theorem dX11_paragraph_96 : decode cX11_paragraph 96 = .ok (.if_icmp .ge 13, 3) := by decide +kernel
theorem dX11_paragraph_99 : decode cX11_paragraph 99 = .ok (.aload_n 0, 1) := by decide +kernel
theorem dX11_paragraph_100 : decode cX11_paragraph 100 = .ok (.getfield 63, 3) := by decide +kernel
theorem dX11_paragraph_103 : decode cX11_paragraph 103 = .ok (.sipush 150, 3) := by decide +kernel
theorem dX11_paragraph_106 : decode cX11_paragraph 106 = .ok (.if_icmp .lt 9, 3) := by decide +kernel
theorem dX11_paragraph_109 : decode cX11_paragraph 109 = .ok (.aload_n 0, 1) := by decide +kernel
theorem dX11_paragraph_110 : decode cX11_paragraph 110 = .ok (.iconst 3, 1) := by decide +kernel
theorem dX11_paragraph_111 : decode cX11_paragraph 111 = .ok (.invokevirtual 97, 3) := by decide +kernel
theorem dX11_paragraph_114 : decode cX11_paragraph 114 = .ok (.ireturn, 1) := by decide +kernel
theorem dX11_paragraph_115 : decode cX11_paragraph 115 = .ok (.aload 5, 2) := by decide +kernel
theorem dX11_paragraph_117 : decode cX11_paragraph 117 = .ok (.getfield 258, 3) := by decide +kernel
theorem dX11_paragraph_120 : decode cX11_paragraph 120 = .ok (.iload 7, 2) := by decide +kernel
theorem dX11_paragraph_122 : decode cX11_paragraph 122 = .ok (.aload 6, 2) := by decide +kernel
theorem dX11_paragraph_124 : decode cX11_paragraph 124 = .ok (.aastore, 1) := by decide +kernel
theorem dX11_paragraph_125 : decode cX11_paragraph 125 = .ok (.aload 5, 2) := by decide +kernel
theorem dX11_paragraph_127 : decode cX11_paragraph 127 = .ok (.getfield 262, 3) := by decide +kernel
theorem dX11_paragraph_130 : decode cX11_paragraph 130 = .ok (.iload 7, 2) := by decide +kernel
theorem dX11_paragraph_132 : decode cX11_paragraph 132 = .ok (.iload_n 2, 1) := by decide +kernel
theorem dX11_paragraph_133 : decode cX11_paragraph 133 = .ok (.iastore, 1) := by decide +kernel
theorem dX11_paragraph_134 : decode cX11_paragraph 134 = .ok (.aload 5, 2) := by decide +kernel
theorem dX11_paragraph_136 : decode cX11_paragraph 136 = .ok (.getfield 265, 3) := by decide +kernel
theorem dX11_paragraph_139 : decode cX11_paragraph 139 = .ok (.iload 7, 2) := by decide +kernel
theorem dX11_paragraph_141 : decode cX11_paragraph 141 = .ok (.iload_n 3, 1) := by decide +kernel
theorem dX11_paragraph_142 : decode cX11_paragraph 142 = .ok (.iastore, 1) := by decide +kernel
theorem dX11_paragraph_143 : decode cX11_paragraph 143 = .ok (.aload 5, 2) := by decide +kernel
theorem dX11_paragraph_145 : decode cX11_paragraph 145 = .ok (.dup, 1) := by decide +kernel
theorem dX11_paragraph_146 : decode cX11_paragraph 146 = .ok (.getfield 179, 3) := by decide +kernel
theorem dX11_paragraph_149 : decode cX11_paragraph 149 = .ok (.iconst 1, 1) := by decide +kernel
theorem dX11_paragraph_150 : decode cX11_paragraph 150 = .ok (.iadd, 1) := by decide +kernel
theorem dX11_paragraph_151 : decode cX11_paragraph 151 = .ok (.putfield 179, 3) := by decide +kernel
theorem dX11_paragraph_154 : decode cX11_paragraph 154 = .ok (.aload_n 0, 1) := by decide +kernel
theorem dX11_paragraph_155 : decode cX11_paragraph 155 = .ok (.dup, 1) := by decide +kernel
theorem dX11_paragraph_156 : decode cX11_paragraph 156 = .ok (.getfield 63, 3) := by decide +kernel
theorem dX11_paragraph_159 : decode cX11_paragraph 159 = .ok (.iconst 1, 1) := by decide +kernel
theorem dX11_paragraph_160 : decode cX11_paragraph 160 = .ok (.iadd, 1) := by decide +kernel
theorem dX11_paragraph_161 : decode cX11_paragraph 161 = .ok (.putfield 63, 3) := by decide +kernel
theorem dX11_paragraph_164 : decode cX11_paragraph 164 = .ok (.aload_n 0, 1) := by decide +kernel
theorem dX11_paragraph_165 : decode cX11_paragraph 165 = .ok (.iload 7, 2) := by decide +kernel
theorem dX11_paragraph_167 : decode cX11_paragraph 167 = .ok (.invokevirtual 114, 3) := by decide +kernel
theorem dX11_paragraph_170 : decode cX11_paragraph 170 = .ok (.ireturn, 1) := by decide +kernel
def f_X11_paragraph_b56 (σ : TH) (l0 : Nat) : Option (Int32 × TH) :=
  gt_ (kd_ σ l0 = 13) <| bd_ (f_X11_refused σ l0 (2 : Int32)) fun x8 s9 => some (x8, s9)
set_option maxHeartbeats 4000000 in
set_option maxRecDepth 100000 in
theorem t_X11_paragraph_b56 {l : Launch} {D : va_G} {cy : Nat → ClassId} {ka : Nat → Nat} {σ0 z : TH} {r : Int32}  {σ : TH} {l0 : Nat} (hf : f_X11_paragraph_b56 σ l0 = some (r, z)) : v_ l D cy ka cX11_paragraph RX11 8 (some FieldType.int) "paragraph" 9 199 (qf_ D cy σ0 z (some (.int r))) σ0 z σ 56 [(0, va_rf (some l0))] [] := by
  unfold f_X11_paragraph_b56 at hf
  refine v_aload_n (x := (some l0)) dX11_paragraph_56 rfl 0 rfl ?_
  refine v_iconst (v := 2) dX11_paragraph_57 (by decide) ?_
  obtain ⟨hk_l0, hf⟩ := gt_of hf
  obtain ⟨x8, s9, hcs9, hf⟩ := bd_of hf
  have hts9 := c_X11_refused (l := l) (D := D) (cy := cy) (ka := ka) hcs9
  refine v_callV cb_12 hk_l0 (As := [.int (2 : Int32)]) (rest := []) hts9 yb_X11_refused kw_307 kw_309 kp_0 rfl ⟨Nat.le_of_ble_eq_true rfl, Nat.le_of_ble_eq_true rfl⟩ rfl (cat_len (Nat.le_of_ble_eq_true rfl)) dX11_paragraph_58 ?_
  have hk_l0 := tk_ hts9.1 hk_l0
  show v_ l D cy ka cX11_paragraph RX11 8 (some FieldType.int) "paragraph" 9 199 (qf_ D cy σ0 z (some (.int r))) σ0 z _ 61 [(0, va_rf (some l0))] [.int x8]
  exact v_iret hf dX11_paragraph_61
def f_X11_paragraph_b109 (σ : TH) (l0 : Nat) : Option (Int32 × TH) :=
  gt_ (kd_ σ l0 = 13) <| bd_ (f_X11_refused σ l0 (3 : Int32)) fun x25 s26 => some (x25, s26)
set_option maxHeartbeats 4000000 in
set_option maxRecDepth 100000 in
theorem t_X11_paragraph_b109 {l : Launch} {D : va_G} {cy : Nat → ClassId} {ka : Nat → Nat} {σ0 z : TH} {r : Int32}  {σ : TH} {l0 : Nat} (hf : f_X11_paragraph_b109 σ l0 = some (r, z)) : v_ l D cy ka cX11_paragraph RX11 8 (some FieldType.int) "paragraph" 9 199 (qf_ D cy σ0 z (some (.int r))) σ0 z σ 109 [(0, va_rf (some l0))] [] := by
  unfold f_X11_paragraph_b109 at hf
  refine v_aload_n (x := (some l0)) dX11_paragraph_109 rfl 0 rfl ?_
  refine v_iconst (v := 3) dX11_paragraph_110 (by decide) ?_
  obtain ⟨hk_l0, hf⟩ := gt_of hf
  obtain ⟨x25, s26, hcs26, hf⟩ := bd_of hf
  have hts26 := c_X11_refused (l := l) (D := D) (cy := cy) (ka := ka) hcs26
  refine v_callV cb_12 hk_l0 (As := [.int (3 : Int32)]) (rest := []) hts26 yb_X11_refused kw_307 kw_309 kp_0 rfl ⟨Nat.le_of_ble_eq_true rfl, Nat.le_of_ble_eq_true rfl⟩ rfl (cat_len (Nat.le_of_ble_eq_true rfl)) dX11_paragraph_111 ?_
  have hk_l0 := tk_ hts26.1 hk_l0
  show v_ l D cy ka cX11_paragraph RX11 8 (some FieldType.int) "paragraph" 9 199 (qf_ D cy σ0 z (some (.int r))) σ0 z _ 114 [(0, va_rf (some l0))] [.int x25]
  exact v_iret hf dX11_paragraph_114
/-- LivesAhead.paragraph(IIII)I -/
def f_X11_paragraph (σ : TH) (p0 : Nat) (p1 : Int32) (p2 : Int32) (p3 : Int32) (p4 : Int32) : Option (Int32 × TH) :=
  gt_ (kd_ σ p0 = 13) <| bd_ (f_X11_personAt σ p0 p1) fun r1 s2 => oc_ r1 (bd_ (f_X11_refused s2 p0 (1 : Int32)) fun x4 s5 => some (x4, s5)) (fun a3 => bd_ (f_X11_within s2 p2 (0 : Int32) (999 : Int32)) fun x6 s7 => if x6 = 0 then (f_X11_paragraph_b56 s7 p0) else (gt_ (kd_ s7 a3 = 4) <| lt_ (fi_ s7 313 a3) fun x10 => bd_ (f_X11_within s7 p3 (-1 : Int32) (x10 - (1 : Int32))) fun x11 s12 => if x11 = 0 then (f_X11_paragraph_b56 s12 p0) else (lt_ (fr_ s12 1208 p0) fun r13 => nn_ r13 fun a14 => gt_ (kd_ s12 a14 = 8) <| bd_ (f_X6_holds s12 a14 p4) fun x15 s16 => if x15 = 0 then (f_X11_paragraph_b56 s16 p0) else (lt_ (fr_ s16 1208 p0) fun r17 => nn_ r17 fun a18 => gt_ (kd_ s16 a18 = 8) <| bd_ (f_X6_read s16 a18 p4 (0 : Int32)) fun r19 s20 => oc_ r19 (bd_ (f_X11_refused s20 p0 (4 : Int32)) fun x22 s23 => some (x22, s23)) (fun a21 => lt_ (fi_ s20 313 a3) fun x24 => if (14 : Int32) ≤ x24 then (f_X11_paragraph_b109 s20 p0) else (lt_ (fi_ s20 1212 p0) fun x27 => if x27 < (150 : Int32) then (lt_ (fr_ s20 310 a3) fun r28 => nn_ r28 fun a29 => gt_ (kd_ s20 a29 = 26) <| gt_ (kd_ s20 a21 = 11) <| gt_ (¬ (x24 < 0 ∨ ln_ s20 a29 ≤ x24.toNatClampNeg)) <| lt_ (sq_ s20 a29 x24.toNatClampNeg (some a21)) fun s30 => lt_ (fr_ s30 311 a3) fun r31 => nn_ r31 fun a32 => gt_ (kd_ s30 a32 = 20) <| gt_ (¬ (x24 < 0 ∨ ln_ s30 a32 ≤ x24.toNatClampNeg)) <| lt_ (sa_ s30 a32 x24.toNatClampNeg p2) fun s33 => lt_ (fr_ s33 312 a3) fun r34 => nn_ r34 fun a35 => gt_ (kd_ s33 a35 = 20) <| gt_ (¬ (x24 < 0 ∨ ln_ s33 a35 ≤ x24.toNatClampNeg)) <| lt_ (sa_ s33 a35 x24.toNatClampNeg p3) fun s36 => lt_ (fi_ s36 313 a3) fun x37 => lt_ (si_ s36 313 a3 (x37 + (1 : Int32))) fun s38 => lt_ (fi_ s38 1212 p0) fun x39 => lt_ (si_ s38 1212 p0 (x39 + (1 : Int32))) fun s40 => bd_ (f_X11_granted s40 p0 x24) fun x41 s42 => some (x41, s42)) else (f_X11_paragraph_b109 s20 p0)))))))
set_option maxHeartbeats 4000000 in
set_option maxRecDepth 100000 in
theorem c_X11_paragraph {l : Launch} {D : va_G} {cy : Nat → ClassId} {ka : Nat → Nat} {σ z : TH} {p0 : Nat} {p1 : Int32} {p2 : Int32} {p3 : Int32} {p4 : Int32} {r : Int32} (hf : f_X11_paragraph σ p0 p1 p2 p3 p4 = some (r, z)) : ct_ l D cy ka yX11_paragraph 9 199 [va_rf (some p0), .int p1, .int p2, .int p3, .int p4] σ (some (.int r)) z := by
  unfold f_X11_paragraph at hf
  refine v_start (cc := cX11_paragraph) (own := RX11) (maxL := 8) (ret := (some FieldType.int)) (nm := "paragraph") (by decide +kernel) kw_654 rfl rfl (by simp [lg_sl, va_rf_cat, cat_i, cat_l]) ?_
  refine v_eqL (L2 := [(0, va_rf (some p0)), (1, .int p1), (2, .int p2), (3, .int p3), (4, .int p4)]) (by simp [lv_args, va_rf_cat, cat_i, cat_l]) ?_
  refine v_aload_n (x := (some p0)) dX11_paragraph_0 rfl 0 rfl ?_
  refine v_iload_n (x := p1) dX11_paragraph_1 rfl 1 rfl ?_
  obtain ⟨hk_p0, hf⟩ := gt_of hf
  obtain ⟨r1, s2, hcs2, hf⟩ := bd_of hf
  have hts2 := c_X11_personAt (l := l) (D := D) (cy := cy) (ka := ka) hcs2
  refine v_callV cb_12 hk_p0 (As := [.int p1]) (rest := []) hts2 yb_X11_personAt kw_526 kw_528 kp_11 rfl ⟨Nat.le_of_ble_eq_true rfl, Nat.le_of_ble_eq_true rfl⟩ rfl (cat_len (Nat.le_of_ble_eq_true rfl)) dX11_paragraph_2 ?_
  have hk_p0 := tk_ hts2.1 hk_p0
  show v_ l D cy ka cX11_paragraph RX11 8 (some FieldType.int) "paragraph" 9 199 (qf_ D cy σ z (some (.int r))) σ z _ 5 [(0, va_rf (some p0)), (1, .int p1), (2, .int p2), (3, .int p3), (4, .int p4)] [va_rf r1]
  refine v_astore [(5, va_rf r1), (0, va_rf (some p0)), (1, .int p1), (2, .int p2), (3, .int p3), (4, .int p4)] dX11_paragraph_5 (by decide) rfl ?_
  refine v_aload (x := r1) dX11_paragraph_7 0 rfl ?_
  refine v_ifnonnull2 (tgt := 18) hf dX11_paragraph_9 (by decide) (fun e9 hf9 => ?_) (fun a3 e9 hf9 => ?_)
  · subst e9
    replace hf := hf9
    clear hf9
    refine v_aload_n (x := (some p0)) dX11_paragraph_12 rfl 1 rfl ?_
    refine v_iconst (v := 1) dX11_paragraph_13 (by decide) ?_
    obtain ⟨x4, s5, hcs5, hf⟩ := bd_of hf
    have hts5 := c_X11_refused (l := l) (D := D) (cy := cy) (ka := ka) hcs5
    refine v_callV cb_12 hk_p0 (As := [.int (1 : Int32)]) (rest := []) hts5 yb_X11_refused kw_307 kw_309 kp_0 rfl ⟨Nat.le_of_ble_eq_true rfl, Nat.le_of_ble_eq_true rfl⟩ rfl (cat_len (Nat.le_of_ble_eq_true rfl)) dX11_paragraph_14 ?_
    have hk_p0 := tk_ hts5.1 hk_p0
    show v_ l D cy ka cX11_paragraph RX11 8 (some FieldType.int) "paragraph" 9 199 (qf_ D cy σ z (some (.int r))) σ z _ 17 [(5, va_rf none), (0, va_rf (some p0)), (1, .int p1), (2, .int p2), (3, .int p3), (4, .int p4)] [.int x4]
    exact v_iret hf dX11_paragraph_17
  · subst e9
    replace hf := hf9
    clear hf9
    refine v_iload_n (x := p2) dX11_paragraph_18 rfl 3 rfl ?_
    refine v_iconst (v := 0) dX11_paragraph_19 (by decide) ?_
    refine v_sipush (v := 999) dX11_paragraph_20 (by decide) ?_
    obtain ⟨x6, s7, hcs7, hf⟩ := bd_of hf
    have hts7 := c_X11_within (l := l) (D := D) (cy := cy) (ka := ka) hcs7
    refine v_callS (As := [.int p2, .int (0 : Int32), .int (999 : Int32)]) (rest := []) hts7 yb_X11_within kw_304 kw_305 rfl ⟨Nat.le_of_ble_eq_true rfl, Nat.le_of_ble_eq_true rfl⟩ rfl (cat_len (Nat.le_of_ble_eq_true rfl)) dX11_paragraph_23 ?_
    have hk_p0 := tk_ hts7.1 hk_p0
    show v_ l D cy ka cX11_paragraph RX11 8 (some FieldType.int) "paragraph" 9 199 (qf_ D cy σ z (some (.int r))) σ z _ 26 [(5, va_rf (some a3)), (0, va_rf (some p0)), (1, .int p1), (2, .int p2), (3, .int p3), (4, .int p4)] [.int x6]
    refine v_if_eq (tgt := 56) hf dX11_paragraph_26 (by decide) (fun hq hf => ?_) (fun hq hf => ?_)
    · refine v_sub [1] (L2 := [(0, va_rf (some p0))]) rfl ?_
      exact t_X11_paragraph_b56  hf
    · refine v_iload_n (x := p3) dX11_paragraph_29 rfl 4 rfl ?_
      refine v_iconst (v := (-1)) dX11_paragraph_30 (by decide) ?_
      refine v_aload (x := (some a3)) dX11_paragraph_31 0 rfl ?_
      obtain ⟨hk_a3, hf⟩ := gt_of hf
      refine v_geti cb_3 hk_a3 13 313 rfl (by decide) rfl (lk_n kw_492 rfl) hf dX11_paragraph_33 (fun x10 hf => ?_)
      refine v_iconst (v := 1) dX11_paragraph_36 (by decide) ?_
      refine v_isub dX11_paragraph_37 ?_
      obtain ⟨x11, s12, hcs12, hf⟩ := bd_of hf
      have hts12 := c_X11_within (l := l) (D := D) (cy := cy) (ka := ka) hcs12
      refine v_callS (As := [.int p3, .int (-1 : Int32), .int (x10 - (1 : Int32))]) (rest := []) hts12 yb_X11_within kw_304 kw_305 rfl ⟨Nat.le_of_ble_eq_true rfl, Nat.le_of_ble_eq_true rfl⟩ rfl (cat_len (Nat.le_of_ble_eq_true rfl)) dX11_paragraph_38 ?_
      have hk_p0 := tk_ hts12.1 hk_p0
      have hk_a3 := tk_ hts12.1 hk_a3
      show v_ l D cy ka cX11_paragraph RX11 8 (some FieldType.int) "paragraph" 9 199 (qf_ D cy σ z (some (.int r))) σ z _ 41 [(5, va_rf (some a3)), (0, va_rf (some p0)), (1, .int p1), (2, .int p2), (3, .int p3), (4, .int p4)] [.int x11]
      refine v_if_eq (tgt := 56) hf dX11_paragraph_41 (by decide) (fun hq hf => ?_) (fun hq hf => ?_)
      · refine v_sub [1] (L2 := [(0, va_rf (some p0))]) rfl ?_
        exact t_X11_paragraph_b56  hf
      · refine v_aload_n (x := (some p0)) dX11_paragraph_44 rfl 1 rfl ?_
        refine v_getr cb_12 hk_p0 8 1208 rfl (by decide) rfl (lk_n kw_247 rfl) hf dX11_paragraph_45 (fun r13 hf => ?_)
        refine v_iload (x := p4) dX11_paragraph_48 5 rfl ?_
        obtain ⟨a14, rfl, hf⟩ := nn_of hf
        obtain ⟨hk_a14, hf⟩ := gt_of hf
        obtain ⟨x15, s16, hcs16, hf⟩ := bd_of hf
        have hts16 := c_X6_holds (l := l) (D := D) (cy := cy) (ka := ka) hcs16
        refine v_callV cb_7 hk_a14 (As := [.int p4]) (rest := []) hts16 yb_X6_holds kw_655 kw_656 kw_657 rfl ⟨Nat.le_of_ble_eq_true rfl, Nat.le_of_ble_eq_true rfl⟩ rfl (cat_len (Nat.le_of_ble_eq_true rfl)) dX11_paragraph_50 ?_
        have hk_p0 := tk_ hts16.1 hk_p0
        have hk_a3 := tk_ hts16.1 hk_a3
        show v_ l D cy ka cX11_paragraph RX11 8 (some FieldType.int) "paragraph" 9 199 (qf_ D cy σ z (some (.int r))) σ z _ 53 [(5, va_rf (some a3)), (0, va_rf (some p0)), (1, .int p1), (2, .int p2), (3, .int p3), (4, .int p4)] [.int x15]
        refine v_if_ne (tgt := 62) hf dX11_paragraph_53 (by decide) (fun hq hf => ?_) (fun hq hf => ?_)
        · refine v_sub [1] (L2 := [(0, va_rf (some p0))]) rfl ?_
          exact t_X11_paragraph_b56  hf
        · refine v_aload_n (x := (some p0)) dX11_paragraph_62 rfl 1 rfl ?_
          refine v_getr cb_12 hk_p0 8 1208 rfl (by decide) rfl (lk_n kw_247 rfl) hf dX11_paragraph_63 (fun r17 hf => ?_)
          refine v_iload (x := p4) dX11_paragraph_66 5 rfl ?_
          refine v_iconst (v := 0) dX11_paragraph_68 (by decide) ?_
          obtain ⟨a18, rfl, hf⟩ := nn_of hf
          obtain ⟨hk_a18, hf⟩ := gt_of hf
          obtain ⟨r19, s20, hcs20, hf⟩ := bd_of hf
          have hts20 := c_X6_read (l := l) (D := D) (cy := cy) (ka := ka) hcs20
          refine v_callV cb_7 hk_a18 (As := [.int p4, .int (0 : Int32)]) (rest := []) hts20 yb_X6_read kw_660 kw_661 kw_662 rfl ⟨Nat.le_of_ble_eq_true rfl, Nat.le_of_ble_eq_true rfl⟩ rfl (cat_len (Nat.le_of_ble_eq_true rfl)) dX11_paragraph_69 ?_
          have hk_p0 := tk_ hts20.1 hk_p0
          have hk_a3 := tk_ hts20.1 hk_a3
          show v_ l D cy ka cX11_paragraph RX11 8 (some FieldType.int) "paragraph" 9 199 (qf_ D cy σ z (some (.int r))) σ z _ 72 [(5, va_rf (some a3)), (0, va_rf (some p0)), (1, .int p1), (2, .int p2), (3, .int p3), (4, .int p4)] [va_rf r19]
          refine v_astore [(6, va_rf r19), (5, va_rf (some a3)), (0, va_rf (some p0)), (1, .int p1), (2, .int p2), (3, .int p3), (4, .int p4)] dX11_paragraph_72 (by decide) rfl ?_
          refine v_aload (x := r19) dX11_paragraph_74 0 rfl ?_
          refine v_ifnonnull2 (tgt := 85) hf dX11_paragraph_76 (by decide) (fun e9 hf9 => ?_) (fun a21 e9 hf9 => ?_)
          · subst e9
            replace hf := hf9
            clear hf9
            refine v_aload_n (x := (some p0)) dX11_paragraph_79 rfl 2 rfl ?_
            refine v_iconst (v := 4) dX11_paragraph_80 (by decide) ?_
            obtain ⟨x22, s23, hcs23, hf⟩ := bd_of hf
            have hts23 := c_X11_refused (l := l) (D := D) (cy := cy) (ka := ka) hcs23
            refine v_callV cb_12 hk_p0 (As := [.int (4 : Int32)]) (rest := []) hts23 yb_X11_refused kw_307 kw_309 kp_0 rfl ⟨Nat.le_of_ble_eq_true rfl, Nat.le_of_ble_eq_true rfl⟩ rfl (cat_len (Nat.le_of_ble_eq_true rfl)) dX11_paragraph_81 ?_
            have hk_p0 := tk_ hts23.1 hk_p0
            have hk_a3 := tk_ hts23.1 hk_a3
            show v_ l D cy ka cX11_paragraph RX11 8 (some FieldType.int) "paragraph" 9 199 (qf_ D cy σ z (some (.int r))) σ z _ 84 [(6, va_rf none), (5, va_rf (some a3)), (0, va_rf (some p0)), (1, .int p1), (2, .int p2), (3, .int p3), (4, .int p4)] [.int x22]
            exact v_iret hf dX11_paragraph_84
          · subst e9
            replace hf := hf9
            clear hf9
            refine v_aload (x := (some a3)) dX11_paragraph_85 1 rfl ?_
            refine v_geti cb_3 hk_a3 13 313 rfl (by decide) rfl (lk_n kw_492 rfl) hf dX11_paragraph_87 (fun x24 hf => ?_)
            refine v_istore [(7, .int x24), (6, va_rf (some a21)), (5, va_rf (some a3)), (0, va_rf (some p0)), (1, .int p1), (2, .int p2), (3, .int p3), (4, .int p4)] dX11_paragraph_90 (by decide) rfl ?_
            refine v_iload (x := x24) dX11_paragraph_92 0 rfl ?_
            refine v_bipush (v := 14) dX11_paragraph_94 (by decide) ?_
            refine v_icmp_ge (tgt := 109) hf dX11_paragraph_96 (by decide) (fun hq hf => ?_) (fun hq hf => ?_)
            · refine v_sub [3] (L2 := [(0, va_rf (some p0))]) rfl ?_
              exact t_X11_paragraph_b109  hf
            · refine v_aload_n (x := (some p0)) dX11_paragraph_99 rfl 3 rfl ?_
              refine v_geti cb_12 hk_p0 12 1212 rfl (by decide) rfl (lk_n kw_251 rfl) hf dX11_paragraph_100 (fun x27 hf => ?_)
              refine v_sipush (v := 150) dX11_paragraph_103 (by decide) ?_
              refine v_icmp_lt (tgt := 115) hf dX11_paragraph_106 (by decide) (fun hq hf => ?_) (fun hq hf => ?_)
              · refine v_aload (x := (some a3)) dX11_paragraph_115 2 rfl ?_
                refine v_getr cb_3 hk_a3 10 310 rfl (by decide) rfl (lk_n kw_486 rfl) hf dX11_paragraph_117 (fun r28 hf => ?_)
                refine v_iload (x := x24) dX11_paragraph_120 0 rfl ?_
                refine v_aload (x := (some a21)) dX11_paragraph_122 1 rfl ?_
                obtain ⟨a29, rfl, hf⟩ := nn_of hf
                obtain ⟨hk_a29, hf⟩ := gt_of hf
                obtain ⟨hk_a21, hf⟩ := gt_of hf
                refine v_aast2 cb_10 hk_a21 25 6 RX9 hk_a29 (by decide) rfl (Or.inl rfl) hf dX11_paragraph_124 (fun s30 hts30 hf => ?_)
                have hk_p0 := tk_ hts30 hk_p0
                have hk_a3 := tk_ hts30 hk_a3
                have hk_a21 := tk_ hts30 hk_a21
                refine v_aload (x := (some a3)) dX11_paragraph_125 2 rfl ?_
                refine v_getr cb_3 hk_a3 11 311 rfl (by decide) rfl (lk_n kw_488 rfl) hf dX11_paragraph_127 (fun r31 hf => ?_)
                refine v_iload (x := x24) dX11_paragraph_130 0 rfl ?_
                refine v_iload_n (x := p2) dX11_paragraph_132 rfl 5 rfl ?_
                obtain ⟨a32, rfl, hf⟩ := nn_of hf
                obtain ⟨hk_a32, hf⟩ := gt_of hf
                refine v_iast2 hk_a32 hf dX11_paragraph_133 (fun s33 hts33 hf => ?_)
                have hk_p0 := tk_ hts33 hk_p0
                have hk_a3 := tk_ hts33 hk_a3
                have hk_a21 := tk_ hts33 hk_a21
                refine v_aload (x := (some a3)) dX11_paragraph_134 2 rfl ?_
                refine v_getr cb_3 hk_a3 12 312 rfl (by decide) rfl (lk_n kw_490 rfl) hf dX11_paragraph_136 (fun r34 hf => ?_)
                refine v_iload (x := x24) dX11_paragraph_139 0 rfl ?_
                refine v_iload_n (x := p3) dX11_paragraph_141 rfl 6 rfl ?_
                obtain ⟨a35, rfl, hf⟩ := nn_of hf
                obtain ⟨hk_a35, hf⟩ := gt_of hf
                refine v_iast2 hk_a35 hf dX11_paragraph_142 (fun s36 hts36 hf => ?_)
                have hk_p0 := tk_ hts36 hk_p0
                have hk_a3 := tk_ hts36 hk_a3
                have hk_a21 := tk_ hts36 hk_a21
                refine v_aload (x := (some a3)) dX11_paragraph_143 2 rfl ?_
                refine v_dup dX11_paragraph_145 (va_rf_cat _) ?_
                refine v_geti cb_3 hk_a3 13 313 rfl (by decide) rfl (lk_n kw_492 rfl) hf dX11_paragraph_146 (fun x37 hf => ?_)
                refine v_iconst (v := 1) dX11_paragraph_149 (by decide) ?_
                refine v_iadd dX11_paragraph_150 ?_
                refine v_puti2 cb_3 hk_a3 13 313 rfl (by decide) rfl (lk_n kw_492 rfl) (Or.inl rfl) rfl rfl hf dX11_paragraph_151 (fun s38 hts38 hf => ?_)
                have hk_p0 := tk_ hts38 hk_p0
                have hk_a3 := tk_ hts38 hk_a3
                have hk_a21 := tk_ hts38 hk_a21
                refine v_aload_n (x := (some p0)) dX11_paragraph_154 rfl 3 rfl ?_
                refine v_dup dX11_paragraph_155 (va_rf_cat _) ?_
                refine v_geti cb_12 hk_p0 12 1212 rfl (by decide) rfl (lk_n kw_251 rfl) hf dX11_paragraph_156 (fun x39 hf => ?_)
                refine v_iconst (v := 1) dX11_paragraph_159 (by decide) ?_
                refine v_iadd dX11_paragraph_160 ?_
                refine v_puti2 cb_12 hk_p0 12 1212 rfl (by decide) rfl (lk_n kw_251 rfl) (Or.inl rfl) rfl rfl hf dX11_paragraph_161 (fun s40 hts40 hf => ?_)
                have hk_p0 := tk_ hts40 hk_p0
                have hk_a3 := tk_ hts40 hk_a3
                have hk_a21 := tk_ hts40 hk_a21
                refine v_aload_n (x := (some p0)) dX11_paragraph_164 rfl 3 rfl ?_
                refine v_iload (x := x24) dX11_paragraph_165 0 rfl ?_
                obtain ⟨x41, s42, hcs42, hf⟩ := bd_of hf
                have hts42 := c_X11_granted (l := l) (D := D) (cy := cy) (ka := ka) hcs42
                refine v_callV cb_12 hk_p0 (As := [.int x24]) (rest := []) hts42 yb_X11_granted kw_395 kw_397 kp_4 rfl ⟨Nat.le_of_ble_eq_true rfl, Nat.le_of_ble_eq_true rfl⟩ rfl (cat_len (Nat.le_of_ble_eq_true rfl)) dX11_paragraph_167 ?_
                have hk_p0 := tk_ hts42.1 hk_p0
                have hk_a3 := tk_ hts42.1 hk_a3
                have hk_a21 := tk_ hts42.1 hk_a21
                show v_ l D cy ka cX11_paragraph RX11 8 (some FieldType.int) "paragraph" 9 199 (qf_ D cy σ z (some (.int r))) σ z _ 170 [(7, .int x24), (6, va_rf (some a21)), (5, va_rf (some a3)), (0, va_rf (some p0)), (1, .int p1), (2, .int p2), (3, .int p3), (4, .int p4)] [.int x41]
                exact v_iret hf dX11_paragraph_170
              · refine v_sub [3] (L2 := [(0, va_rf (some p0))]) rfl ?_
                exact t_X11_paragraph_b109  hf
theorem dX11_paragraphOf_0 : decode cX11_paragraphOf 0 = .ok (.aload_n 0, 1) := by decide +kernel
theorem dX11_paragraphOf_1 : decode cX11_paragraphOf 1 = .ok (.iload_n 1, 1) := by decide +kernel
theorem dX11_paragraphOf_2 : decode cX11_paragraphOf 2 = .ok (.invokevirtual 149, 3) := by decide +kernel
theorem dX11_paragraphOf_5 : decode cX11_paragraphOf 5 = .ok (.astore 4, 2) := by decide +kernel
theorem dX11_paragraphOf_7 : decode cX11_paragraphOf 7 = .ok (.aload 4, 2) := by decide +kernel
theorem dX11_paragraphOf_9 : decode cX11_paragraphOf 9 = .ok (.iload_n 2, 1) := by decide +kernel
theorem dX11_paragraphOf_10 : decode cX11_paragraphOf 10 = .ok (.invokestatic 268, 3) := by decide +kernel
theorem dX11_paragraphOf_13 : decode cX11_paragraphOf 13 = .ok (.astore 5, 2) := by decide +kernel
theorem dX11_paragraphOf_15 : decode cX11_paragraphOf 15 = .ok (.aload 5, 2) := by decide +kernel
theorem dX11_paragraphOf_17 : decode cX11_paragraphOf 17 = .ok (.ifnonnull 5, 3) := by decide +kernel
theorem dX11_paragraphOf_20 : decode cX11_paragraphOf 20 = .ok (.iconst (-1), 1) := by decide +kernel
theorem dX11_paragraphOf_21 : decode cX11_paragraphOf 21 = .ok (.ireturn, 1) := by decide +kernel
theorem dX11_paragraphOf_22 : decode cX11_paragraphOf 22 = .ok (.iload_n 3, 1) := by decide +kernel
theorem dX11_paragraphOf_23 : decode cX11_paragraphOf 23 = .ok (.tableswitch 98 0 5 #[37, 45, 53, 62, 86, 92], 37) := by decide +kernel
theorem dX11_paragraphOf_60 : decode cX11_paragraphOf 60 = .ok (.aload 4, 2) := by decide +kernel
theorem dX11_paragraphOf_62 : decode cX11_paragraphOf 62 = .ok (.getfield 262, 3) := by decide +kernel
theorem dX11_paragraphOf_65 : decode cX11_paragraphOf 65 = .ok (.iload_n 2, 1) := by decide +kernel
theorem dX11_paragraphOf_66 : decode cX11_paragraphOf 66 = .ok (.iaload, 1) := by decide +kernel
theorem dX11_paragraphOf_67 : decode cX11_paragraphOf 67 = .ok (.ireturn, 1) := by decide +kernel
theorem dX11_paragraphOf_68 : decode cX11_paragraphOf 68 = .ok (.aload 4, 2) := by decide +kernel
theorem dX11_paragraphOf_70 : decode cX11_paragraphOf 70 = .ok (.getfield 265, 3) := by decide +kernel
theorem dX11_paragraphOf_73 : decode cX11_paragraphOf 73 = .ok (.iload_n 2, 1) := by decide +kernel
theorem dX11_paragraphOf_74 : decode cX11_paragraphOf 74 = .ok (.iaload, 1) := by decide +kernel
theorem dX11_paragraphOf_75 : decode cX11_paragraphOf 75 = .ok (.ireturn, 1) := by decide +kernel
theorem dX11_paragraphOf_76 : decode cX11_paragraphOf 76 = .ok (.aload_n 0, 1) := by decide +kernel
theorem dX11_paragraphOf_77 : decode cX11_paragraphOf 77 = .ok (.aload 4, 2) := by decide +kernel
theorem dX11_paragraphOf_79 : decode cX11_paragraphOf 79 = .ok (.aload 5, 2) := by decide +kernel
theorem dX11_paragraphOf_81 : decode cX11_paragraphOf 81 = .ok (.invokevirtual 278, 3) := by decide +kernel
theorem dX11_paragraphOf_84 : decode cX11_paragraphOf 84 = .ok (.ireturn, 1) := by decide +kernel
theorem dX11_paragraphOf_85 : decode cX11_paragraphOf 85 = .ok (.aload 5, 2) := by decide +kernel
theorem dX11_paragraphOf_87 : decode cX11_paragraphOf 87 = .ok (.getfield 282, 3) := by decide +kernel
theorem dX11_paragraphOf_90 : decode cX11_paragraphOf 90 = .ok (.aload_n 0, 1) := by decide +kernel
theorem dX11_paragraphOf_91 : decode cX11_paragraphOf 91 = .ok (.aload 4, 2) := by decide +kernel
theorem dX11_paragraphOf_93 : decode cX11_paragraphOf 93 = .ok (.invokevirtual 287, 3) := by decide +kernel
theorem dX11_paragraphOf_96 : decode cX11_paragraphOf 96 = .ok (.iand, 1) := by decide +kernel
theorem dX11_paragraphOf_97 : decode cX11_paragraphOf 97 = .ok (.ifCond .eq 7, 3) := by decide +kernel
theorem dX11_paragraphOf_100 : decode cX11_paragraphOf 100 = .ok (.iconst 1, 1) := by decide +kernel
theorem dX11_paragraphOf_101 : decode cX11_paragraphOf 101 = .ok (.goto 4, 3) := by decide +kernel
theorem dX11_paragraphOf_104 : decode cX11_paragraphOf 104 = .ok (.iconst 0, 1) := by decide +kernel
theorem dX11_paragraphOf_105 : decode cX11_paragraphOf 105 = .ok (.invokestatic 169, 3) := by decide +kernel
theorem dX11_paragraphOf_108 : decode cX11_paragraphOf 108 = .ok (.ireturn, 1) := by decide +kernel
theorem dX11_paragraphOf_109 : decode cX11_paragraphOf 109 = .ok (.aload 5, 2) := by decide +kernel
theorem dX11_paragraphOf_111 : decode cX11_paragraphOf 111 = .ok (.getfield 282, 3) := by decide +kernel
theorem dX11_paragraphOf_114 : decode cX11_paragraphOf 114 = .ok (.ireturn, 1) := by decide +kernel
theorem dX11_paragraphOf_115 : decode cX11_paragraphOf 115 = .ok (.aload 5, 2) := by decide +kernel
theorem dX11_paragraphOf_117 : decode cX11_paragraphOf 117 = .ok (.getfield 290, 3) := by decide +kernel
theorem dX11_paragraphOf_120 : decode cX11_paragraphOf 120 = .ok (.ireturn, 1) := by decide +kernel
theorem dX11_paragraphOf_121 : decode cX11_paragraphOf 121 = .ok (.iconst (-1), 1) := by decide +kernel
theorem dX11_paragraphOf_122 : decode cX11_paragraphOf 122 = .ok (.ireturn, 1) := by decide +kernel
def f_X11_paragraphOf_b105 (σ : TH) (t0 : Int32) : Option (Int32 × TH) :=
  bd_ (f_X11_asNumber σ t0) fun x19 s20 => some (x19, s20)
set_option maxHeartbeats 4000000 in
set_option maxRecDepth 100000 in
theorem t_X11_paragraphOf_b105 {l : Launch} {D : va_G} {cy : Nat → ClassId} {ka : Nat → Nat} {σ0 z : TH} {r : Int32}  {σ : TH} {t0 : Int32} (hf : f_X11_paragraphOf_b105 σ t0 = some (r, z)) : v_ l D cy ka cX11_paragraphOf RX11 6 (some FieldType.int) "paragraphOf" 5 113 (qf_ D cy σ0 z (some (.int r))) σ0 z σ 105 [] [.int t0] := by
  unfold f_X11_paragraphOf_b105 at hf
  obtain ⟨x19, s20, hcs20, hf⟩ := bd_of hf
  have hts20 := c_X11_asNumber (l := l) (D := D) (cy := cy) (ka := ka) hcs20
  refine v_callS (As := [.int t0]) (rest := []) hts20 yb_X11_asNumber kw_442 kw_443 rfl ⟨Nat.le_of_ble_eq_true rfl, Nat.le_of_ble_eq_true rfl⟩ rfl (cat_len (Nat.le_of_ble_eq_true rfl)) dX11_paragraphOf_105 ?_
  show v_ l D cy ka cX11_paragraphOf RX11 6 (some FieldType.int) "paragraphOf" 5 113 (qf_ D cy σ0 z (some (.int r))) σ0 z _ 108 [] [.int x19]
  exact v_iret hf dX11_paragraphOf_108
/-- LivesAhead.paragraphOf(III)I -/
def f_X11_paragraphOf (σ : TH) (p0 : Nat) (p1 : Int32) (p2 : Int32) (p3 : Int32) : Option (Int32 × TH) :=
  gt_ (kd_ σ p0 = 13) <| bd_ (f_X11_personAt σ p0 p1) fun r1 s2 => bd_ (f_X11_textAt s2 r1 p2) fun r3 s4 => oc_ r3 (some ((-1 : Int32), s4)) (fun a5 => if p3 = 0 then (nn_ r1 fun a6 => gt_ (kd_ s4 a6 = 4) <| lt_ (fr_ s4 311 a6) fun r7 => nn_ r7 fun a8 => gt_ (kd_ s4 a8 = 20) <| gt_ (¬ (p2 < 0 ∨ ln_ s4 a8 ≤ p2.toNatClampNeg)) <| lt_ (ai_ s4 a8 p2.toNatClampNeg) fun x9 => some (x9, s4)) else if p3 = 1 then (nn_ r1 fun a10 => gt_ (kd_ s4 a10 = 4) <| lt_ (fr_ s4 312 a10) fun r11 => nn_ r11 fun a12 => gt_ (kd_ s4 a12 = 20) <| gt_ (¬ (p2 < 0 ∨ ln_ s4 a12 ≤ p2.toNatClampNeg)) <| lt_ (ai_ s4 a12 p2.toNatClampNeg) fun x13 => some (x13, s4)) else if p3 = 2 then (bd_ (f_X11_lengthToday s4 p0 r1 (some a5)) fun x14 s15 => some (x14, s15)) else if p3 = 3 then (gt_ (kd_ s4 a5 = 11) <| lt_ (fi_ s4 1001 a5) fun x16 => bd_ (f_X11_unsureKinds s4 p0 r1) fun x17 s18 => if (x16 &&& x17) = 0 then (f_X11_paragraphOf_b105 s18 (0 : Int32)) else (f_X11_paragraphOf_b105 s18 (1 : Int32))) else if p3 = 4 then (gt_ (kd_ s4 a5 = 11) <| lt_ (fi_ s4 1001 a5) fun x21 => some (x21, s4)) else if p3 = 5 then (gt_ (kd_ s4 a5 = 11) <| lt_ (fi_ s4 1002 a5) fun x22 => some (x22, s4)) else (some ((-1 : Int32), s4)))
set_option maxHeartbeats 4000000 in
set_option maxRecDepth 100000 in
theorem c_X11_paragraphOf {l : Launch} {D : va_G} {cy : Nat → ClassId} {ka : Nat → Nat} {σ z : TH} {p0 : Nat} {p1 : Int32} {p2 : Int32} {p3 : Int32} {r : Int32} (hf : f_X11_paragraphOf σ p0 p1 p2 p3 = some (r, z)) : ct_ l D cy ka yX11_paragraphOf 5 113 [va_rf (some p0), .int p1, .int p2, .int p3] σ (some (.int r)) z := by
  unfold f_X11_paragraphOf at hf
  refine v_start (cc := cX11_paragraphOf) (own := RX11) (maxL := 6) (ret := (some FieldType.int)) (nm := "paragraphOf") (by decide +kernel) kw_898 rfl rfl (by simp [lg_sl, va_rf_cat, cat_i, cat_l]) ?_
  refine v_eqL (L2 := [(0, va_rf (some p0)), (1, .int p1), (2, .int p2), (3, .int p3)]) (by simp [lv_args, va_rf_cat, cat_i, cat_l]) ?_
  refine v_aload_n (x := (some p0)) dX11_paragraphOf_0 rfl 0 rfl ?_
  refine v_iload_n (x := p1) dX11_paragraphOf_1 rfl 1 rfl ?_
  obtain ⟨hk_p0, hf⟩ := gt_of hf
  obtain ⟨r1, s2, hcs2, hf⟩ := bd_of hf
  have hts2 := c_X11_personAt (l := l) (D := D) (cy := cy) (ka := ka) hcs2
  refine v_callV cb_12 hk_p0 (As := [.int p1]) (rest := []) hts2 yb_X11_personAt kw_526 kw_528 kp_11 rfl ⟨Nat.le_of_ble_eq_true rfl, Nat.le_of_ble_eq_true rfl⟩ rfl (cat_len (Nat.le_of_ble_eq_true rfl)) dX11_paragraphOf_2 ?_
  have hk_p0 := tk_ hts2.1 hk_p0
  show v_ l D cy ka cX11_paragraphOf RX11 6 (some FieldType.int) "paragraphOf" 5 113 (qf_ D cy σ z (some (.int r))) σ z _ 5 [(0, va_rf (some p0)), (1, .int p1), (2, .int p2), (3, .int p3)] [va_rf r1]
  refine v_astore [(4, va_rf r1), (0, va_rf (some p0)), (1, .int p1), (2, .int p2), (3, .int p3)] dX11_paragraphOf_5 (by decide) rfl ?_
  refine v_aload (x := r1) dX11_paragraphOf_7 0 rfl ?_
  refine v_iload_n (x := p2) dX11_paragraphOf_9 rfl 3 rfl ?_
  obtain ⟨r3, s4, hcs4, hf⟩ := bd_of hf
  have hts4 := c_X11_textAt (l := l) (D := D) (cy := cy) (ka := ka) hcs4
  refine v_callS (As := [va_rf r1, .int p2]) (rest := []) hts4 yb_X11_textAt kw_884 kw_885 rfl ⟨Nat.le_of_ble_eq_true rfl, Nat.le_of_ble_eq_true rfl⟩ rfl (cat_len (Nat.le_of_ble_eq_true rfl)) dX11_paragraphOf_10 ?_
  have hk_p0 := tk_ hts4.1 hk_p0
  show v_ l D cy ka cX11_paragraphOf RX11 6 (some FieldType.int) "paragraphOf" 5 113 (qf_ D cy σ z (some (.int r))) σ z _ 13 [(4, va_rf r1), (0, va_rf (some p0)), (1, .int p1), (2, .int p2), (3, .int p3)] [va_rf r3]
  refine v_astore [(5, va_rf r3), (4, va_rf r1), (0, va_rf (some p0)), (1, .int p1), (2, .int p2), (3, .int p3)] dX11_paragraphOf_13 (by decide) (by simp [va_rf_cat, cat_i, cat_l]) ?_
  refine v_aload (x := r3) dX11_paragraphOf_15 0 rfl ?_
  refine v_ifnonnull2 (tgt := 22) hf dX11_paragraphOf_17 (by decide) (fun e9 hf9 => ?_) (fun a5 e9 hf9 => ?_)
  · subst e9
    replace hf := hf9
    clear hf9
    refine v_iconst (v := (-1)) dX11_paragraphOf_20 (by decide) ?_
    exact v_iret hf dX11_paragraphOf_21
  · subst e9
    replace hf := hf9
    clear hf9
    refine v_iload_n (x := p3) dX11_paragraphOf_22 rfl 5 rfl ?_
    try dsimp only [oc_] at hf
    by_cases hq0 : p3 = 0
    · rw [if_pos hq0] at hf
      refine v_tswIn (tgt := 60) (c9 := 0) hq0 dX11_paragraphOf_23 (by decide) (by decide) rfl (by decide) ?_
      refine v_aload (x := r1) dX11_paragraphOf_60 1 rfl ?_
      obtain ⟨a6, rfl, hf⟩ := nn_of hf
      obtain ⟨hk_a6, hf⟩ := gt_of hf
      refine v_getr cb_3 hk_a6 11 311 rfl (by decide) rfl (lk_n kw_488 rfl) hf dX11_paragraphOf_62 (fun r7 hf => ?_)
      refine v_iload_n (x := p2) dX11_paragraphOf_65 rfl 4 rfl ?_
      obtain ⟨a8, rfl, hf⟩ := nn_of hf
      obtain ⟨hk_a8, hf⟩ := gt_of hf
      refine v_iald hk_a8 hf dX11_paragraphOf_66 (fun x9 hf => ?_)
      exact v_iret hf dX11_paragraphOf_67
    rw [if_neg hq0] at hf
    by_cases hq1 : p3 = 1
    · rw [if_pos hq1] at hf
      refine v_tswIn (tgt := 68) (c9 := 1) hq1 dX11_paragraphOf_23 (by decide) (by decide) rfl (by decide) ?_
      refine v_aload (x := r1) dX11_paragraphOf_68 1 rfl ?_
      obtain ⟨a10, rfl, hf⟩ := nn_of hf
      obtain ⟨hk_a10, hf⟩ := gt_of hf
      refine v_getr cb_3 hk_a10 12 312 rfl (by decide) rfl (lk_n kw_490 rfl) hf dX11_paragraphOf_70 (fun r11 hf => ?_)
      refine v_iload_n (x := p2) dX11_paragraphOf_73 rfl 4 rfl ?_
      obtain ⟨a12, rfl, hf⟩ := nn_of hf
      obtain ⟨hk_a12, hf⟩ := gt_of hf
      refine v_iald hk_a12 hf dX11_paragraphOf_74 (fun x13 hf => ?_)
      exact v_iret hf dX11_paragraphOf_75
    rw [if_neg hq1] at hf
    by_cases hq2 : p3 = 2
    · rw [if_pos hq2] at hf
      refine v_tswIn (tgt := 76) (c9 := 2) hq2 dX11_paragraphOf_23 (by decide) (by decide) rfl (by decide) ?_
      refine v_aload_n (x := (some p0)) dX11_paragraphOf_76 rfl 2 rfl ?_
      refine v_aload (x := r1) dX11_paragraphOf_77 1 rfl ?_
      refine v_aload (x := (some a5)) dX11_paragraphOf_79 0 rfl ?_
      obtain ⟨x14, s15, hcs15, hf⟩ := bd_of hf
      have hts15 := c_X11_lengthToday (l := l) (D := D) (cy := cy) (ka := ka) hcs15
      refine v_callV cb_12 hk_p0 (As := [va_rf r1, va_rf (some a5)]) (rest := []) hts15 yb_X11_lengthToday kw_899 kw_901 kp_46 rfl ⟨Nat.le_of_ble_eq_true rfl, Nat.le_of_ble_eq_true rfl⟩ rfl (cat_len (Nat.le_of_ble_eq_true rfl)) dX11_paragraphOf_81 ?_
      have hk_p0 := tk_ hts15.1 hk_p0
      show v_ l D cy ka cX11_paragraphOf RX11 6 (some FieldType.int) "paragraphOf" 5 113 (qf_ D cy σ z (some (.int r))) σ z _ 84 [(5, va_rf (some a5)), (4, va_rf r1), (0, va_rf (some p0)), (1, .int p1), (2, .int p2), (3, .int p3)] [.int x14]
      exact v_iret hf dX11_paragraphOf_84
    rw [if_neg hq2] at hf
    by_cases hq3 : p3 = 3
    · rw [if_pos hq3] at hf
      refine v_tswIn (tgt := 85) (c9 := 3) hq3 dX11_paragraphOf_23 (by decide) (by decide) rfl (by decide) ?_
      refine v_aload (x := (some a5)) dX11_paragraphOf_85 0 rfl ?_
      obtain ⟨hk_a5, hf⟩ := gt_of hf
      refine v_geti cb_10 hk_a5 1 1001 rfl (by decide) rfl (lk_n kw_870 rfl) hf dX11_paragraphOf_87 (fun x16 hf => ?_)
      refine v_aload_n (x := (some p0)) dX11_paragraphOf_90 rfl 2 rfl ?_
      refine v_aload (x := r1) dX11_paragraphOf_91 1 rfl ?_
      obtain ⟨x17, s18, hcs18, hf⟩ := bd_of hf
      have hts18 := c_X11_unsureKinds (l := l) (D := D) (cy := cy) (ka := ka) hcs18
      refine v_callV cb_12 hk_p0 (As := [va_rf r1]) (rest := [.int x16]) hts18 yb_X11_unsureKinds kw_945 kw_947 kp_55 rfl ⟨Nat.le_of_ble_eq_true rfl, Nat.le_of_ble_eq_true rfl⟩ rfl (cat_len (Nat.le_of_ble_eq_true rfl)) dX11_paragraphOf_93 ?_
      have hk_p0 := tk_ hts18.1 hk_p0
      have hk_a5 := tk_ hts18.1 hk_a5
      show v_ l D cy ka cX11_paragraphOf RX11 6 (some FieldType.int) "paragraphOf" 5 113 (qf_ D cy σ z (some (.int r))) σ z _ 96 [(5, va_rf (some a5)), (4, va_rf r1), (0, va_rf (some p0)), (1, .int p1), (2, .int p2), (3, .int p3)] [.int x17, .int x16]
      refine v_iand dX11_paragraphOf_96 ?_
      refine v_if_eq (tgt := 104) hf dX11_paragraphOf_97 (by decide) (fun hq hf => ?_) (fun hq hf => ?_)
      · refine v_iconst (v := 0) dX11_paragraphOf_104 (by decide) ?_
        refine v_sub [] (L2 := []) rfl ?_
        exact t_X11_paragraphOf_b105  hf
      · refine v_iconst (v := 1) dX11_paragraphOf_100 (by decide) ?_
        refine v_goto (tgt := 105) dX11_paragraphOf_101 (by decide) ?_
        refine v_sub [] (L2 := []) rfl ?_
        exact t_X11_paragraphOf_b105  hf
    rw [if_neg hq3] at hf
    by_cases hq4 : p3 = 4
    · rw [if_pos hq4] at hf
      refine v_tswIn (tgt := 109) (c9 := 4) hq4 dX11_paragraphOf_23 (by decide) (by decide) rfl (by decide) ?_
      refine v_aload (x := (some a5)) dX11_paragraphOf_109 0 rfl ?_
      obtain ⟨hk_a5, hf⟩ := gt_of hf
      refine v_geti cb_10 hk_a5 1 1001 rfl (by decide) rfl (lk_n kw_870 rfl) hf dX11_paragraphOf_111 (fun x21 hf => ?_)
      exact v_iret hf dX11_paragraphOf_114
    rw [if_neg hq4] at hf
    by_cases hq5 : p3 = 5
    · rw [if_pos hq5] at hf
      refine v_tswIn (tgt := 115) (c9 := 5) hq5 dX11_paragraphOf_23 (by decide) (by decide) rfl (by decide) ?_
      refine v_aload (x := (some a5)) dX11_paragraphOf_115 0 rfl ?_
      obtain ⟨hk_a5, hf⟩ := gt_of hf
      refine v_geti cb_10 hk_a5 2 1002 rfl (by decide) rfl (lk_n kw_872 rfl) hf dX11_paragraphOf_117 (fun x22 hf => ?_)
      exact v_iret hf dX11_paragraphOf_120
    rw [if_neg hq5] at hf
    refine v_tswOut (tgt := 121) 6 0 (by decide) (by decide) (fun j hj => ?_) (by decide) (by decide) dX11_paragraphOf_23 (by decide) ?_
    · match j, hj with
      | 0, _ => exact hq0
      | 1, _ => exact hq1
      | 2, _ => exact hq2
      | 3, _ => exact hq3
      | 4, _ => exact hq4
      | 5, _ => exact hq5
      | j + 6, hj => exact absurd hj (by omega)
    · refine v_iconst (v := (-1)) dX11_paragraphOf_121 (by decide) ?_
      exact v_iret hf dX11_paragraphOf_122
theorem dX11_peril_0 : decode cX11_peril 0 = .ok (.aload_n 0, 1) := by decide +kernel
theorem dX11_peril_1 : decode cX11_peril 1 = .ok (.iload_n 1, 1) := by decide +kernel
theorem dX11_peril_2 : decode cX11_peril 2 = .ok (.invokevirtual 149, 3) := by decide +kernel
theorem dX11_peril_5 : decode cX11_peril 5 = .ok (.astore_n 3, 1) := by decide +kernel
theorem dX11_peril_6 : decode cX11_peril 6 = .ok (.aload_n 3, 1) := by decide +kernel
theorem dX11_peril_7 : decode cX11_peril 7 = .ok (.ifnonnull 9, 3) := by decide +kernel
theorem dX11_peril_10 : decode cX11_peril 10 = .ok (.aload_n 0, 1) := by decide +kernel
theorem dX11_peril_11 : decode cX11_peril 11 = .ok (.iconst 1, 1) := by decide +kernel
theorem dX11_peril_12 : decode cX11_peril 12 = .ok (.invokevirtual 121, 3) := by decide +kernel
theorem dX11_peril_15 : decode cX11_peril 15 = .ok (.ireturn, 1) := by decide +kernel
theorem dX11_peril_16 : decode cX11_peril 16 = .ok (.aload_n 3, 1) := by decide +kernel
theorem dX11_peril_17 : decode cX11_peril 17 = .ok (.iload_n 2, 1) := by decide +kernel
theorem dX11_peril_18 : decode cX11_peril 18 = .ok (.putfield 176, 3) := by decide +kernel
theorem dX11_peril_21 : decode cX11_peril 21 = .ok (.aload_n 0, 1) := by decide +kernel
theorem dX11_peril_22 : decode cX11_peril 22 = .ok (.invokevirtual 128, 3) := by decide +kernel
theorem dX11_peril_25 : decode cX11_peril 25 = .ok (.ireturn, 1) := by decide +kernel
/-- LivesAhead.peril(IZ)Z -/
def f_X11_peril (σ : TH) (p0 : Nat) (p1 : Int32) (p2 : Int32) : Option (Int32 × TH) :=
  gt_ (kd_ σ p0 = 13) <| bd_ (f_X11_personAt σ p0 p1) fun r1 s2 => oc_ r1 (bd_ (f_X11_denied s2 p0 (1 : Int32)) fun x4 s5 => gt_ (x4 = 0 ∨ x4 = 1) <| some (x4, s5)) (fun a3 => gt_ (kd_ s2 a3 = 4) <| gt_ (p2 = 0 ∨ p2 = 1) <| lt_ (si_ s2 306 a3 p2) fun s6 => bd_ (f_X11_allowed s6 p0) fun x7 s8 => gt_ (x7 = 0 ∨ x7 = 1) <| some (x7, s8))
set_option maxHeartbeats 4000000 in
set_option maxRecDepth 100000 in
theorem c_X11_peril {l : Launch} {D : va_G} {cy : Nat → ClassId} {ka : Nat → Nat} {σ z : TH} {p0 : Nat} {p1 : Int32} {p2 : Int32} {r : Int32} (hf : f_X11_peril σ p0 p1 p2 = some (r, z)) : ct_ l D cy ka yX11_peril 4 85 [va_rf (some p0), .int p1, .int p2] σ (some (.int r)) z := by
  unfold f_X11_peril at hf
  refine v_start (cc := cX11_peril) (own := RX11) (maxL := 4) (ret := (some FieldType.boolean)) (nm := "peril") (by decide +kernel) kw_563 rfl rfl (by simp [lg_sl, va_rf_cat, cat_i, cat_l]) ?_
  refine v_eqL (L2 := [(0, va_rf (some p0)), (1, .int p1), (2, .int p2)]) (by simp [lv_args, va_rf_cat, cat_i, cat_l]) ?_
  refine v_aload_n (x := (some p0)) dX11_peril_0 rfl 0 rfl ?_
  refine v_iload_n (x := p1) dX11_peril_1 rfl 1 rfl ?_
  obtain ⟨hk_p0, hf⟩ := gt_of hf
  obtain ⟨r1, s2, hcs2, hf⟩ := bd_of hf
  have hts2 := c_X11_personAt (l := l) (D := D) (cy := cy) (ka := ka) hcs2
  refine v_callV cb_12 hk_p0 (As := [.int p1]) (rest := []) hts2 yb_X11_personAt kw_526 kw_528 kp_11 rfl ⟨Nat.le_of_ble_eq_true rfl, Nat.le_of_ble_eq_true rfl⟩ rfl (cat_len (Nat.le_of_ble_eq_true rfl)) dX11_peril_2 ?_
  have hk_p0 := tk_ hts2.1 hk_p0
  show v_ l D cy ka cX11_peril RX11 4 (some FieldType.boolean) "peril" 4 85 (qf_ D cy σ z (some (.int r))) σ z _ 5 [(0, va_rf (some p0)), (1, .int p1), (2, .int p2)] [va_rf r1]
  refine v_astore_n [(3, va_rf r1), (0, va_rf (some p0)), (1, .int p1), (2, .int p2)] dX11_peril_5 rfl (by decide) rfl ?_
  refine v_aload_n (x := r1) dX11_peril_6 rfl 0 rfl ?_
  refine v_ifnonnull2 (tgt := 16) hf dX11_peril_7 (by decide) (fun e9 hf9 => ?_) (fun a3 e9 hf9 => ?_)
  · subst e9
    replace hf := hf9
    clear hf9
    refine v_aload_n (x := (some p0)) dX11_peril_10 rfl 1 rfl ?_
    refine v_iconst (v := 1) dX11_peril_11 (by decide) ?_
    obtain ⟨x4, s5, hcs5, hf⟩ := bd_of hf
    have hts5 := c_X11_denied (l := l) (D := D) (cy := cy) (ka := ka) hcs5
    refine v_callV cb_12 hk_p0 (As := [.int (1 : Int32)]) (rest := []) hts5 yb_X11_denied kw_421 kw_423 kp_6 rfl ⟨Nat.le_of_ble_eq_true rfl, Nat.le_of_ble_eq_true rfl⟩ rfl (cat_len (Nat.le_of_ble_eq_true rfl)) dX11_peril_12 ?_
    have hk_p0 := tk_ hts5.1 hk_p0
    show v_ l D cy ka cX11_peril RX11 4 (some FieldType.boolean) "peril" 4 85 (qf_ D cy σ z (some (.int r))) σ z _ 15 [(3, va_rf none), (0, va_rf (some p0)), (1, .int p1), (2, .int p2)] [.int x4]
    obtain ⟨hb9, hf⟩ := gt_of hf
    exact v_zret hf (nz_ hb9) dX11_peril_15
  · subst e9
    replace hf := hf9
    clear hf9
    refine v_aload_n (x := (some a3)) dX11_peril_16 rfl 0 rfl ?_
    refine v_iload_n (x := p2) dX11_peril_17 rfl 3 rfl ?_
    obtain ⟨hk_a3, hf⟩ := gt_of hf
    obtain ⟨hbs6, hf⟩ := gt_of hf
    refine v_puti2 cb_3 hk_a3 6 306 rfl (by decide) rfl (lk_n kw_477 rfl) (Or.inl rfl) (nz_ hbs6) (fz_ hbs6) hf dX11_peril_18 (fun s6 hts6 hf => ?_)
    have hk_p0 := tk_ hts6 hk_p0
    have hk_a3 := tk_ hts6 hk_a3
    refine v_aload_n (x := (some p0)) dX11_peril_21 rfl 1 rfl ?_
    obtain ⟨x7, s8, hcs8, hf⟩ := bd_of hf
    have hts8 := c_X11_allowed (l := l) (D := D) (cy := cy) (ka := ka) hcs8
    refine v_callV cb_12 hk_p0 (As := []) (rest := []) hts8 yb_X11_allowed kw_425 kw_427 kp_7 rfl ⟨Nat.le_of_ble_eq_true rfl, Nat.le_of_ble_eq_true rfl⟩ rfl (cat_len (Nat.le_of_ble_eq_true rfl)) dX11_peril_22 ?_
    have hk_p0 := tk_ hts8.1 hk_p0
    have hk_a3 := tk_ hts8.1 hk_a3
    show v_ l D cy ka cX11_peril RX11 4 (some FieldType.boolean) "peril" 4 85 (qf_ D cy σ z (some (.int r))) σ z _ 25 [(3, va_rf (some a3)), (0, va_rf (some p0)), (1, .int p1), (2, .int p2)] [.int x7]
    obtain ⟨hb9, hf⟩ := gt_of hf
    exact v_zret hf (nz_ hb9) dX11_peril_25
theorem dX11_person_0 : decode cX11_person 0 = .ok (.aload_n 0, 1) := by decide +kernel
theorem dX11_person_1 : decode cX11_person 1 = .ok (.iload 4, 2) := by decide +kernel
theorem dX11_person_3 : decode cX11_person 3 = .ok (.invokevirtual 117, 3) := by decide +kernel
theorem dX11_person_6 : decode cX11_person 6 = .ok (.ifnonnull 9, 3) := by decide +kernel
theorem dX11_person_9 : decode cX11_person 9 = .ok (.aload_n 0, 1) := by decide +kernel
theorem dX11_person_10 : decode cX11_person 10 = .ok (.iconst 1, 1) := by decide +kernel
theorem dX11_person_11 : decode cX11_person 11 = .ok (.invokevirtual 97, 3) := by decide +kernel
theorem dX11_person_14 : decode cX11_person 14 = .ok (.ireturn, 1) := by decide +kernel
theorem dX11_person_15 : decode cX11_person 15 = .ok (.iload_n 1, 1) := by decide +kernel
theorem dX11_person_16 : decode cX11_person 16 = .ok (.iconst 0, 1) := by decide +kernel
theorem dX11_person_17 : decode cX11_person 17 = .ok (.bipush 99, 2) := by decide +kernel
theorem dX11_person_19 : decode cX11_person 19 = .ok (.invokestatic 93, 3) := by decide +kernel
theorem dX11_person_22 : decode cX11_person 22 = .ok (.ifCond .eq 23, 3) := by decide +kernel
theorem dX11_person_25 : decode cX11_person 25 = .ok (.iload_n 2, 1) := by decide +kernel
theorem dX11_person_26 : decode cX11_person 26 = .ok (.iconst 1, 1) := by decide +kernel
theorem dX11_person_27 : decode cX11_person 27 = .ok (.ldc 143, 2) := by decide +kernel
theorem dX11_person_29 : decode cX11_person 29 = .ok (.invokestatic 93, 3) := by decide +kernel
theorem dX11_person_32 : decode cX11_person 32 = .ok (.ifCond .eq 13, 3) := by decide +kernel
theorem dX11_person_35 : decode cX11_person 35 = .ok (.iload_n 3, 1) := by decide +kernel
theorem dX11_person_36 : decode cX11_person 36 = .ok (.iconst 1, 1) := by decide +kernel
theorem dX11_person_37 : decode cX11_person 37 = .ok (.bipush 100, 2) := by decide +kernel
theorem dX11_person_39 : decode cX11_person 39 = .ok (.invokestatic 93, 3) := by decide +kernel
theorem dX11_person_42 : decode cX11_person 42 = .ok (.ifCond .ne 9, 3) := by decide +kernel
theorem dX11_person_45 : decode cX11_person 45 = .ok (.aload_n 0, 1) := by decide +kernel
theorem dX11_person_46 : decode cX11_person 46 = .ok (.iconst 2, 1) := by decide +kernel
theorem dX11_person_47 : decode cX11_person 47 = .ok (.invokevirtual 97, 3) := by decide +kernel
theorem dX11_person_50 : decode cX11_person 50 = .ok (.ireturn, 1) := by decide +kernel
theorem dX11_person_51 : decode cX11_person 51 = .ok (.aload_n 0, 1) := by decide +kernel
theorem dX11_person_52 : decode cX11_person 52 = .ok (.getfield 16, 3) := by decide +kernel
theorem dX11_person_55 : decode cX11_person 55 = .ok (.invokevirtual 101, 3) := by decide +kernel
theorem dX11_person_58 : decode cX11_person 58 = .ok (.bipush 30, 2) := by decide +kernel
theorem dX11_person_60 : decode cX11_person 60 = .ok (.if_icmp .lt 9, 3) := by decide +kernel
theorem dX11_person_63 : decode cX11_person 63 = .ok (.aload_n 0, 1) := by decide +kernel
theorem dX11_person_64 : decode cX11_person 64 = .ok (.iconst 3, 1) := by decide +kernel
theorem dX11_person_65 : decode cX11_person 65 = .ok (.invokevirtual 97, 3) := by decide +kernel
theorem dX11_person_68 : decode cX11_person 68 = .ok (.ireturn, 1) := by decide +kernel
theorem dX11_person_69 : decode cX11_person 69 = .ok (.aload_n 0, 1) := by decide +kernel
theorem dX11_person_70 : decode cX11_person 70 = .ok (.getfield 16, 3) := by decide +kernel
theorem dX11_person_73 : decode cX11_person 73 = .ok (.new 144, 3) := by decide +kernel
theorem dX11_person_76 : decode cX11_person 76 = .ok (.dup, 1) := by decide +kernel
theorem dX11_person_77 : decode cX11_person 77 = .ok (.aload_n 0, 1) := by decide +kernel
theorem dX11_person_78 : decode cX11_person 78 = .ok (.getfield 16, 3) := by decide +kernel
theorem dX11_person_81 : decode cX11_person 81 = .ok (.invokevirtual 101, 3) := by decide +kernel
theorem dX11_person_84 : decode cX11_person 84 = .ok (.iload_n 1, 1) := by decide +kernel
theorem dX11_person_85 : decode cX11_person 85 = .ok (.iload_n 2, 1) := by decide +kernel
theorem dX11_person_86 : decode cX11_person 86 = .ok (.iload_n 3, 1) := by decide +kernel
theorem dX11_person_87 : decode cX11_person 87 = .ok (.iload 4, 2) := by decide +kernel
theorem dX11_person_89 : decode cX11_person 89 = .ok (.invokespecial 146, 3) := by decide +kernel
theorem dX11_person_92 : decode cX11_person 92 = .ok (.invokevirtual 110, 3) := by decide +kernel
theorem dX11_person_95 : decode cX11_person 95 = .ok (.pop, 1) := by decide +kernel
theorem dX11_person_96 : decode cX11_person 96 = .ok (.aload_n 0, 1) := by decide +kernel
theorem dX11_person_97 : decode cX11_person 97 = .ok (.aload_n 0, 1) := by decide +kernel
theorem dX11_person_98 : decode cX11_person 98 = .ok (.getfield 16, 3) := by decide +kernel
theorem dX11_person_101 : decode cX11_person 101 = .ok (.invokevirtual 101, 3) := by decide +kernel
theorem dX11_person_104 : decode cX11_person 104 = .ok (.iconst 1, 1) := by decide +kernel
theorem dX11_person_105 : decode cX11_person 105 = .ok (.isub, 1) := by decide +kernel
theorem dX11_person_106 : decode cX11_person 106 = .ok (.invokevirtual 114, 3) := by decide +kernel
theorem dX11_person_109 : decode cX11_person 109 = .ok (.ireturn, 1) := by decide +kernel
def f_X11_person_b45 (ka : Nat → Nat) (σ : TH) (l0 : Nat) : Option (Int32 × TH) :=
  gt_ (kd_ σ l0 = 13) <| bd_ (f_X11_refused σ l0 (2 : Int32)) fun x8 s9 => some (x8, s9)
set_option maxHeartbeats 4000000 in
set_option maxRecDepth 100000 in
theorem t_X11_person_b45 {l : Launch} {D : va_G} {cy : Nat → ClassId} {ka : Nat → Nat} {σ0 z : TH} {r : Int32}  {σ : TH} {l0 : Nat} (hf : f_X11_person_b45 ka σ l0 = some (r, z)) : v_ l D cy ka cX11_person RX11 5 (some FieldType.int) "person" 7 191 (qf_ D cy σ0 z (some (.int r))) σ0 z σ 45 [(0, va_rf (some l0))] [] := by
  unfold f_X11_person_b45 at hf
  refine v_aload_n (x := (some l0)) dX11_person_45 rfl 0 rfl ?_
  refine v_iconst (v := 2) dX11_person_46 (by decide) ?_
  obtain ⟨hk_l0, hf⟩ := gt_of hf
  obtain ⟨x8, s9, hcs9, hf⟩ := bd_of hf
  have hts9 := c_X11_refused (l := l) (D := D) (cy := cy) (ka := ka) hcs9
  refine v_callV cb_12 hk_l0 (As := [.int (2 : Int32)]) (rest := []) hts9 yb_X11_refused kw_307 kw_309 kp_0 rfl ⟨Nat.le_of_ble_eq_true rfl, Nat.le_of_ble_eq_true rfl⟩ rfl (cat_len (Nat.le_of_ble_eq_true rfl)) dX11_person_47 ?_
  have hk_l0 := tk_ hts9.1 hk_l0
  show v_ l D cy ka cX11_person RX11 5 (some FieldType.int) "person" 7 191 (qf_ D cy σ0 z (some (.int r))) σ0 z _ 50 [(0, va_rf (some l0))] [.int x8]
  exact v_iret hf dX11_person_50
/-- LivesAhead.person(IIII)I -/
def f_X11_person (ka : Nat → Nat) (σ : TH) (p0 : Nat) (p1 : Int32) (p2 : Int32) (p3 : Int32) (p4 : Int32) : Option (Int32 × TH) :=
  gt_ (kd_ σ p0 = 13) <| bd_ (f_X11_livingWriter σ p0 p4) fun r1 s2 => oc_ r1 (bd_ (f_X11_refused s2 p0 (1 : Int32)) fun x4 s5 => some (x4, s5)) (fun a3 => bd_ (f_X11_within s2 p1 (0 : Int32) (99 : Int32)) fun x6 s7 => if x6 = 0 then (f_X11_person_b45 ka s7 p0) else (bd_ (f_X11_within s7 p2 (1 : Int32) (36500 : Int32)) fun x10 s11 => if x10 = 0 then (f_X11_person_b45 ka s11 p0) else (bd_ (f_X11_within s11 p3 (1 : Int32) (100 : Int32)) fun x12 s13 => if x12 = 0 then (f_X11_person_b45 ka s13 p0) else (lt_ (fr_ s13 1201 p0) fun r14 => nn_ r14 fun a15 => gt_ (kd_ s13 a15 = 1) <| bd_ (f_Jx4a65c_size_8abf5 s13 a15) fun x16 s17 => if x16 < (30 : Int32) then (lt_ (fr_ s17 1201 p0) fun r18 => gt_ (kd_ s17 (nx_ s17) = 0) <| lt_ (nx_ s17) fun a19 => lt_ (nw_ s17 4 0 14) fun s20 => lt_ (fr_ s20 1201 p0) fun r21 => nn_ r21 fun a22 => gt_ (kd_ s20 a22 = 1) <| bd_ (f_Jx4a65c_size_8abf5 s20 a22) fun x23 s24 => bd_ (f_X2_init s24 a19 x23 p1 p2 p3 p4) fun x25 s26 => nn_ r18 fun a27 => gt_ (kd_ s26 a27 = 1) <| bd_ (f_Jx4a65c_add_9ea2d ka s26 a27 (some a19)) fun x28 s29 => lt_ (fr_ s29 1201 p0) fun r30 => nn_ r30 fun a31 => gt_ (kd_ s29 a31 = 1) <| bd_ (f_Jx4a65c_size_8abf5 s29 a31) fun x32 s33 => bd_ (f_X11_granted s33 p0 (x32 - (1 : Int32))) fun x34 s35 => some (x34, s35)) else (bd_ (f_X11_refused s17 p0 (3 : Int32)) fun x36 s37 => some (x36, s37))))))
set_option maxHeartbeats 4000000 in
set_option maxRecDepth 100000 in
theorem c_X11_person {l : Launch} {D : va_G} {cy : Nat → ClassId} {ka : Nat → Nat} {σ z : TH} {p0 : Nat} {p1 : Int32} {p2 : Int32} {p3 : Int32} {p4 : Int32} {r : Int32} (hf : f_X11_person ka σ p0 p1 p2 p3 p4 = some (r, z)) : ct_ l D cy ka yX11_person 7 191 [va_rf (some p0), .int p1, .int p2, .int p3, .int p4] σ (some (.int r)) z := by
  unfold f_X11_person at hf
  refine v_start (cc := cX11_person) (own := RX11) (maxL := 5) (ret := (some FieldType.int)) (nm := "person") (by decide +kernel) kw_452 rfl rfl (by simp [lg_sl, va_rf_cat, cat_i, cat_l]) ?_
  refine v_eqL (L2 := [(0, va_rf (some p0)), (1, .int p1), (2, .int p2), (3, .int p3), (4, .int p4)]) (by simp [lv_args, va_rf_cat, cat_i, cat_l]) ?_
  refine v_aload_n (x := (some p0)) dX11_person_0 rfl 0 rfl ?_
  refine v_iload (x := p4) dX11_person_1 4 rfl ?_
  obtain ⟨hk_p0, hf⟩ := gt_of hf
  obtain ⟨r1, s2, hcs2, hf⟩ := bd_of hf
  have hts2 := c_X11_livingWriter (l := l) (D := D) (cy := cy) (ka := ka) hcs2
  refine v_callV cb_12 hk_p0 (As := [.int p4]) (rest := []) hts2 yb_X11_livingWriter kw_403 kw_405 kp_5 rfl ⟨Nat.le_of_ble_eq_true rfl, Nat.le_of_ble_eq_true rfl⟩ rfl (cat_len (Nat.le_of_ble_eq_true rfl)) dX11_person_3 ?_
  have hk_p0 := tk_ hts2.1 hk_p0
  show v_ l D cy ka cX11_person RX11 5 (some FieldType.int) "person" 7 191 (qf_ D cy σ z (some (.int r))) σ z _ 6 [(0, va_rf (some p0)), (1, .int p1), (2, .int p2), (3, .int p3), (4, .int p4)] [va_rf r1]
  refine v_ifnonnull2 (tgt := 15) hf dX11_person_6 (by decide) (fun e9 hf9 => ?_) (fun a3 e9 hf9 => ?_)
  · subst e9
    replace hf := hf9
    clear hf9
    refine v_aload_n (x := (some p0)) dX11_person_9 rfl 0 rfl ?_
    refine v_iconst (v := 1) dX11_person_10 (by decide) ?_
    obtain ⟨x4, s5, hcs5, hf⟩ := bd_of hf
    have hts5 := c_X11_refused (l := l) (D := D) (cy := cy) (ka := ka) hcs5
    refine v_callV cb_12 hk_p0 (As := [.int (1 : Int32)]) (rest := []) hts5 yb_X11_refused kw_307 kw_309 kp_0 rfl ⟨Nat.le_of_ble_eq_true rfl, Nat.le_of_ble_eq_true rfl⟩ rfl (cat_len (Nat.le_of_ble_eq_true rfl)) dX11_person_11 ?_
    have hk_p0 := tk_ hts5.1 hk_p0
    show v_ l D cy ka cX11_person RX11 5 (some FieldType.int) "person" 7 191 (qf_ D cy σ z (some (.int r))) σ z _ 14 [(0, va_rf (some p0)), (1, .int p1), (2, .int p2), (3, .int p3), (4, .int p4)] [.int x4]
    exact v_iret hf dX11_person_14
  · subst e9
    replace hf := hf9
    clear hf9
    refine v_iload_n (x := p1) dX11_person_15 rfl 1 rfl ?_
    refine v_iconst (v := 0) dX11_person_16 (by decide) ?_
    refine v_bipush (v := 99) dX11_person_17 (by decide) ?_
    obtain ⟨x6, s7, hcs7, hf⟩ := bd_of hf
    have hts7 := c_X11_within (l := l) (D := D) (cy := cy) (ka := ka) hcs7
    refine v_callS (As := [.int p1, .int (0 : Int32), .int (99 : Int32)]) (rest := []) hts7 yb_X11_within kw_304 kw_305 rfl ⟨Nat.le_of_ble_eq_true rfl, Nat.le_of_ble_eq_true rfl⟩ rfl (cat_len (Nat.le_of_ble_eq_true rfl)) dX11_person_19 ?_
    have hk_p0 := tk_ hts7.1 hk_p0
    show v_ l D cy ka cX11_person RX11 5 (some FieldType.int) "person" 7 191 (qf_ D cy σ z (some (.int r))) σ z _ 22 [(0, va_rf (some p0)), (1, .int p1), (2, .int p2), (3, .int p3), (4, .int p4)] [.int x6]
    refine v_if_eq (tgt := 45) hf dX11_person_22 (by decide) (fun hq hf => ?_) (fun hq hf => ?_)
    · refine v_sub [0] (L2 := [(0, va_rf (some p0))]) rfl ?_
      exact t_X11_person_b45  hf
    · refine v_iload_n (x := p2) dX11_person_25 rfl 2 rfl ?_
      refine v_iconst (v := 1) dX11_person_26 (by decide) ?_
      refine v_ldc (v := 36500) kw_453 dX11_person_27 ?_
      obtain ⟨x10, s11, hcs11, hf⟩ := bd_of hf
      have hts11 := c_X11_within (l := l) (D := D) (cy := cy) (ka := ka) hcs11
      refine v_callS (As := [.int p2, .int (1 : Int32), .int (36500 : Int32)]) (rest := []) hts11 yb_X11_within kw_304 kw_305 rfl ⟨Nat.le_of_ble_eq_true rfl, Nat.le_of_ble_eq_true rfl⟩ rfl (cat_len (Nat.le_of_ble_eq_true rfl)) dX11_person_29 ?_
      have hk_p0 := tk_ hts11.1 hk_p0
      show v_ l D cy ka cX11_person RX11 5 (some FieldType.int) "person" 7 191 (qf_ D cy σ z (some (.int r))) σ z _ 32 [(0, va_rf (some p0)), (1, .int p1), (2, .int p2), (3, .int p3), (4, .int p4)] [.int x10]
      refine v_if_eq (tgt := 45) hf dX11_person_32 (by decide) (fun hq hf => ?_) (fun hq hf => ?_)
      · refine v_sub [0] (L2 := [(0, va_rf (some p0))]) rfl ?_
        exact t_X11_person_b45  hf
      · refine v_iload_n (x := p3) dX11_person_35 rfl 3 rfl ?_
        refine v_iconst (v := 1) dX11_person_36 (by decide) ?_
        refine v_bipush (v := 100) dX11_person_37 (by decide) ?_
        obtain ⟨x12, s13, hcs13, hf⟩ := bd_of hf
        have hts13 := c_X11_within (l := l) (D := D) (cy := cy) (ka := ka) hcs13
        refine v_callS (As := [.int p3, .int (1 : Int32), .int (100 : Int32)]) (rest := []) hts13 yb_X11_within kw_304 kw_305 rfl ⟨Nat.le_of_ble_eq_true rfl, Nat.le_of_ble_eq_true rfl⟩ rfl (cat_len (Nat.le_of_ble_eq_true rfl)) dX11_person_39 ?_
        have hk_p0 := tk_ hts13.1 hk_p0
        show v_ l D cy ka cX11_person RX11 5 (some FieldType.int) "person" 7 191 (qf_ D cy σ z (some (.int r))) σ z _ 42 [(0, va_rf (some p0)), (1, .int p1), (2, .int p2), (3, .int p3), (4, .int p4)] [.int x12]
        refine v_if_ne (tgt := 51) hf dX11_person_42 (by decide) (fun hq hf => ?_) (fun hq hf => ?_)
        · refine v_sub [0] (L2 := [(0, va_rf (some p0))]) rfl ?_
          exact t_X11_person_b45  hf
        · refine v_aload_n (x := (some p0)) dX11_person_51 rfl 0 rfl ?_
          refine v_getr cb_12 hk_p0 1 1201 rfl (by decide) rfl (lk_n kw_240 rfl) hf dX11_person_52 (fun r14 hf => ?_)
          obtain ⟨a15, rfl, hf⟩ := nn_of hf
          obtain ⟨hk_a15, hf⟩ := gt_of hf
          obtain ⟨x16, s17, hcs17, hf⟩ := bd_of hf
          have hts17 := c_Jx4a65c_size_8abf5 (l := l) (D := D) (cy := cy) (ka := ka) hcs17
          refine v_callV cb_0 hk_a15 (As := []) (rest := []) hts17 yb_Jx4a65c_size_8abf5 kw_311 kw_312 kw_313 rfl ⟨Nat.le_of_ble_eq_true rfl, Nat.le_of_ble_eq_true rfl⟩ rfl (cat_len (Nat.le_of_ble_eq_true rfl)) dX11_person_55 ?_
          have hk_p0 := tk_ hts17.1 hk_p0
          show v_ l D cy ka cX11_person RX11 5 (some FieldType.int) "person" 7 191 (qf_ D cy σ z (some (.int r))) σ z _ 58 [(0, va_rf (some p0)), (1, .int p1), (2, .int p2), (3, .int p3), (4, .int p4)] [.int x16]
          refine v_bipush (v := 30) dX11_person_58 (by decide) ?_
          refine v_icmp_lt (tgt := 69) hf dX11_person_60 (by decide) (fun hq hf => ?_) (fun hq hf => ?_)
          · refine v_aload_n (x := (some p0)) dX11_person_69 rfl 0 rfl ?_
            refine v_getr cb_12 hk_p0 1 1201 rfl (by decide) rfl (lk_n kw_240 rfl) hf dX11_person_70 (fun r18 hf => ?_)
            refine v_new2 cb_3 df_3 kw_441 kw_454 kw_20 4 rfl hf dX11_person_73 (fun a19 s20 hts20 hk_a19 hf => ?_)
            have hk_p0 := tk_ hts20 hk_p0
            refine v_dup dX11_person_76 (va_rf_cat _) ?_
            refine v_aload_n (x := (some p0)) dX11_person_77 rfl 0 rfl ?_
            refine v_getr cb_12 hk_p0 1 1201 rfl (by decide) rfl (lk_n kw_240 rfl) hf dX11_person_78 (fun r21 hf => ?_)
            obtain ⟨a22, rfl, hf⟩ := nn_of hf
            obtain ⟨hk_a22, hf⟩ := gt_of hf
            obtain ⟨x23, s24, hcs24, hf⟩ := bd_of hf
            have hts24 := c_Jx4a65c_size_8abf5 (l := l) (D := D) (cy := cy) (ka := ka) hcs24
            refine v_callV cb_0 hk_a22 (As := []) (rest := [va_rf (some a19), va_rf (some a19), va_rf r18]) hts24 yb_Jx4a65c_size_8abf5 kw_311 kw_312 kw_313 rfl ⟨Nat.le_of_ble_eq_true rfl, Nat.le_of_ble_eq_true rfl⟩ rfl (cat_len (Nat.le_of_ble_eq_true rfl)) dX11_person_81 ?_
            have hk_p0 := tk_ hts24.1 hk_p0
            have hk_a19 := tk_ hts24.1 hk_a19
            show v_ l D cy ka cX11_person RX11 5 (some FieldType.int) "person" 7 191 (qf_ D cy σ z (some (.int r))) σ z _ 84 [(0, va_rf (some p0)), (1, .int p1), (2, .int p2), (3, .int p3), (4, .int p4)] [.int x23, va_rf (some a19), va_rf (some a19), va_rf r18]
            refine v_iload_n (x := p1) dX11_person_84 rfl 1 rfl ?_
            refine v_iload_n (x := p2) dX11_person_85 rfl 2 rfl ?_
            refine v_iload_n (x := p3) dX11_person_86 rfl 3 rfl ?_
            refine v_iload (x := p4) dX11_person_87 4 rfl ?_
            obtain ⟨x25, s26, hcs26, hf⟩ := bd_of hf
            have hts26 := c_X2_init (l := l) (D := D) (cy := cy) (ka := ka) hcs26
            refine v_callI (As := [.int x23, .int p1, .int p2, .int p3, .int p4]) (rest := [va_rf (some a19), va_rf r18]) hts26 yb_X2_init kw_455 kw_456 rfl rfl ⟨Nat.le_of_ble_eq_true rfl, Nat.le_of_ble_eq_true rfl⟩ rfl (cat_len (Nat.le_of_ble_eq_true rfl)) dX11_person_89 ?_
            have hk_p0 := tk_ hts26.1 hk_p0
            have hk_a19 := tk_ hts26.1 hk_a19
            show v_ l D cy ka cX11_person RX11 5 (some FieldType.int) "person" 7 191 (qf_ D cy σ z (some (.int r))) σ z _ 92 [(0, va_rf (some p0)), (1, .int p1), (2, .int p2), (3, .int p3), (4, .int p4)] [va_rf (some a19), va_rf r18]
            obtain ⟨a27, rfl, hf⟩ := nn_of hf
            obtain ⟨hk_a27, hf⟩ := gt_of hf
            obtain ⟨x28, s29, hcs29, hf⟩ := bd_of hf
            have hts29 := c_Jx4a65c_add_9ea2d (l := l) (D := D) (cy := cy) (ka := ka) hcs29
            refine v_callV cb_0 hk_a27 (As := [va_rf (some a19)]) (rest := []) hts29 yb_Jx4a65c_add_9ea2d kw_330 kw_331 kw_332 rfl ⟨Nat.le_of_ble_eq_true rfl, Nat.le_of_ble_eq_true rfl⟩ rfl (cat_len (Nat.le_of_ble_eq_true rfl)) dX11_person_92 ?_
            have hk_p0 := tk_ hts29.1 hk_p0
            show v_ l D cy ka cX11_person RX11 5 (some FieldType.int) "person" 7 191 (qf_ D cy σ z (some (.int r))) σ z _ 95 [(0, va_rf (some p0)), (1, .int p1), (2, .int p2), (3, .int p3), (4, .int p4)] [.int x28]
            refine v_pop dX11_person_95 rfl ?_
            refine v_aload_n (x := (some p0)) dX11_person_96 rfl 0 rfl ?_
            refine v_aload_n (x := (some p0)) dX11_person_97 rfl 0 rfl ?_
            refine v_getr cb_12 hk_p0 1 1201 rfl (by decide) rfl (lk_n kw_240 rfl) hf dX11_person_98 (fun r30 hf => ?_)
            obtain ⟨a31, rfl, hf⟩ := nn_of hf
            obtain ⟨hk_a31, hf⟩ := gt_of hf
            obtain ⟨x32, s33, hcs33, hf⟩ := bd_of hf
            have hts33 := c_Jx4a65c_size_8abf5 (l := l) (D := D) (cy := cy) (ka := ka) hcs33
            refine v_callV cb_0 hk_a31 (As := []) (rest := [va_rf (some p0)]) hts33 yb_Jx4a65c_size_8abf5 kw_311 kw_312 kw_313 rfl ⟨Nat.le_of_ble_eq_true rfl, Nat.le_of_ble_eq_true rfl⟩ rfl (cat_len (Nat.le_of_ble_eq_true rfl)) dX11_person_101 ?_
            have hk_p0 := tk_ hts33.1 hk_p0
            show v_ l D cy ka cX11_person RX11 5 (some FieldType.int) "person" 7 191 (qf_ D cy σ z (some (.int r))) σ z _ 104 [(0, va_rf (some p0)), (1, .int p1), (2, .int p2), (3, .int p3), (4, .int p4)] [.int x32, va_rf (some p0)]
            refine v_iconst (v := 1) dX11_person_104 (by decide) ?_
            refine v_isub dX11_person_105 ?_
            obtain ⟨x34, s35, hcs35, hf⟩ := bd_of hf
            have hts35 := c_X11_granted (l := l) (D := D) (cy := cy) (ka := ka) hcs35
            refine v_callV cb_12 hk_p0 (As := [.int (x32 - (1 : Int32))]) (rest := []) hts35 yb_X11_granted kw_395 kw_397 kp_4 rfl ⟨Nat.le_of_ble_eq_true rfl, Nat.le_of_ble_eq_true rfl⟩ rfl (cat_len (Nat.le_of_ble_eq_true rfl)) dX11_person_106 ?_
            have hk_p0 := tk_ hts35.1 hk_p0
            show v_ l D cy ka cX11_person RX11 5 (some FieldType.int) "person" 7 191 (qf_ D cy σ z (some (.int r))) σ z _ 109 [(0, va_rf (some p0)), (1, .int p1), (2, .int p2), (3, .int p3), (4, .int p4)] [.int x34]
            exact v_iret hf dX11_person_109
          · refine v_aload_n (x := (some p0)) dX11_person_63 rfl 0 rfl ?_
            refine v_iconst (v := 3) dX11_person_64 (by decide) ?_
            obtain ⟨x36, s37, hcs37, hf⟩ := bd_of hf
            have hts37 := c_X11_refused (l := l) (D := D) (cy := cy) (ka := ka) hcs37
            refine v_callV cb_12 hk_p0 (As := [.int (3 : Int32)]) (rest := []) hts37 yb_X11_refused kw_307 kw_309 kp_0 rfl ⟨Nat.le_of_ble_eq_true rfl, Nat.le_of_ble_eq_true rfl⟩ rfl (cat_len (Nat.le_of_ble_eq_true rfl)) dX11_person_65 ?_
            have hk_p0 := tk_ hts37.1 hk_p0
            show v_ l D cy ka cX11_person RX11 5 (some FieldType.int) "person" 7 191 (qf_ D cy σ z (some (.int r))) σ z _ 68 [(0, va_rf (some p0)), (1, .int p1), (2, .int p2), (3, .int p3), (4, .int p4)] [.int x36]
            exact v_iret hf dX11_person_68
theorem dX11_picture_0 : decode cX11_picture 0 = .ok (.aload_n 0, 1) := by decide +kernel
theorem dX11_picture_1 : decode cX11_picture 1 = .ok (.iload_n 1, 1) := by decide +kernel
theorem dX11_picture_2 : decode cX11_picture 2 = .ok (.invokevirtual 149, 3) := by decide +kernel
theorem dX11_picture_5 : decode cX11_picture 5 = .ok (.ifnonnull 9, 3) := by decide +kernel
theorem dX11_picture_8 : decode cX11_picture 8 = .ok (.aload_n 0, 1) := by decide +kernel
theorem dX11_picture_9 : decode cX11_picture 9 = .ok (.iconst 1, 1) := by decide +kernel
theorem dX11_picture_10 : decode cX11_picture 10 = .ok (.invokevirtual 97, 3) := by decide +kernel
theorem dX11_picture_13 : decode cX11_picture 13 = .ok (.ireturn, 1) := by decide +kernel
theorem dX11_picture_14 : decode cX11_picture 14 = .ok (.iload_n 3, 1) := by decide +kernel
theorem dX11_picture_15 : decode cX11_picture 15 = .ok (.iconst 0, 1) := by decide +kernel
theorem dX11_picture_16 : decode cX11_picture 16 = .ok (.sipush 3650, 3) := by decide +kernel
theorem dX11_picture_19 : decode cX11_picture 19 = .ok (.invokestatic 93, 3) := by decide +kernel
theorem dX11_picture_22 : decode cX11_picture 22 = .ok (.ifCond .eq 19, 3) := by decide +kernel
theorem dX11_picture_25 : decode cX11_picture 25 = .ok (.iload 4, 2) := by decide +kernel
theorem dX11_picture_27 : decode cX11_picture 27 = .ok (.iload_n 3, 1) := by decide +kernel
theorem dX11_picture_28 : decode cX11_picture 28 = .ok (.sipush 3650, 3) := by decide +kernel
theorem dX11_picture_31 : decode cX11_picture 31 = .ok (.invokestatic 93, 3) := by decide +kernel
theorem dX11_picture_34 : decode cX11_picture 34 = .ok (.ifCond .eq 7, 3) := by decide +kernel
theorem dX11_picture_37 : decode cX11_picture 37 = .ok (.iconst 1, 1) := by decide +kernel
theorem dX11_picture_38 : decode cX11_picture 38 = .ok (.goto 4, 3) := by decide +kernel
theorem dX11_picture_41 : decode cX11_picture 41 = .ok (.iconst 0, 1) := by decide +kernel
theorem dX11_picture_42 : decode cX11_picture 42 = .ok (.istore 6, 2) := by decide +kernel
theorem dX11_picture_44 : decode cX11_picture 44 = .ok (.iload 6, 2) := by decide +kernel
theorem dX11_picture_46 : decode cX11_picture 46 = .ok (.ifCond .eq 24, 3) := by decide +kernel
theorem dX11_picture_49 : decode cX11_picture 49 = .ok (.iload_n 2, 1) := by decide +kernel
theorem dX11_picture_50 : decode cX11_picture 50 = .ok (.iconst 1, 1) := by decide +kernel
theorem dX11_picture_51 : decode cX11_picture 51 = .ok (.bipush 100, 2) := by decide +kernel
theorem dX11_picture_53 : decode cX11_picture 53 = .ok (.invokestatic 93, 3) := by decide +kernel
theorem dX11_picture_56 : decode cX11_picture 56 = .ok (.ifCond .eq 14, 3) := by decide +kernel
theorem dX11_picture_59 : decode cX11_picture 59 = .ok (.iload 5, 2) := by decide +kernel
theorem dX11_picture_61 : decode cX11_picture 61 = .ok (.iconst 1, 1) := by decide +kernel
theorem dX11_picture_62 : decode cX11_picture 62 = .ok (.bipush 99, 2) := by decide +kernel
theorem dX11_picture_64 : decode cX11_picture 64 = .ok (.invokestatic 93, 3) := by decide +kernel
theorem dX11_picture_67 : decode cX11_picture 67 = .ok (.ifCond .ne 9, 3) := by decide +kernel
theorem dX11_picture_70 : decode cX11_picture 70 = .ok (.aload_n 0, 1) := by decide +kernel
theorem dX11_picture_71 : decode cX11_picture 71 = .ok (.iconst 2, 1) := by decide +kernel
theorem dX11_picture_72 : decode cX11_picture 72 = .ok (.invokevirtual 97, 3) := by decide +kernel
theorem dX11_picture_75 : decode cX11_picture 75 = .ok (.ireturn, 1) := by decide +kernel
theorem dX11_picture_76 : decode cX11_picture 76 = .ok (.aload_n 0, 1) := by decide +kernel
theorem dX11_picture_77 : decode cX11_picture 77 = .ok (.getfield 25, 3) := by decide +kernel
theorem dX11_picture_80 : decode cX11_picture 80 = .ok (.invokevirtual 101, 3) := by decide +kernel
theorem dX11_picture_83 : decode cX11_picture 83 = .ok (.bipush 40, 2) := by decide +kernel
theorem dX11_picture_85 : decode cX11_picture 85 = .ok (.if_icmp .lt 9, 3) := by decide +kernel
theorem dX11_picture_88 : decode cX11_picture 88 = .ok (.aload_n 0, 1) := by decide +kernel
theorem dX11_picture_89 : decode cX11_picture 89 = .ok (.iconst 3, 1) := by decide +kernel
theorem dX11_picture_90 : decode cX11_picture 90 = .ok (.invokevirtual 97, 3) := by decide +kernel
theorem dX11_picture_93 : decode cX11_picture 93 = .ok (.ireturn, 1) := by decide +kernel
theorem dX11_picture_94 : decode cX11_picture 94 = .ok (.aload_n 0, 1) := by decide +kernel
theorem dX11_picture_95 : decode cX11_picture 95 = .ok (.getfield 25, 3) := by decide +kernel
theorem dX11_picture_98 : decode cX11_picture 98 = .ok (.new 359, 3) := by decide +kernel
theorem dX11_picture_101 : decode cX11_picture 101 = .ok (.dup, 1) := by decide +kernel
theorem dX11_picture_102 : decode cX11_picture 102 = .ok (.iload_n 1, 1) := by decide +kernel
theorem dX11_picture_103 : decode cX11_picture 103 = .ok (.iload_n 2, 1) := by decide +kernel
theorem dX11_picture_104 : decode cX11_picture 104 = .ok (.iload_n 3, 1) := by decide +kernel
theorem dX11_picture_105 : decode cX11_picture 105 = .ok (.iload 4, 2) := by decide +kernel
theorem dX11_picture_107 : decode cX11_picture 107 = .ok (.iload 5, 2) := by decide +kernel
theorem dX11_picture_109 : decode cX11_picture 109 = .ok (.invokespecial 361, 3) := by decide +kernel
theorem dX11_picture_112 : decode cX11_picture 112 = .ok (.invokevirtual 110, 3) := by decide +kernel
theorem dX11_picture_115 : decode cX11_picture 115 = .ok (.pop, 1) := by decide +kernel
theorem dX11_picture_116 : decode cX11_picture 116 = .ok (.aload_n 0, 1) := by decide +kernel
theorem dX11_picture_117 : decode cX11_picture 117 = .ok (.aload_n 0, 1) := by decide +kernel
theorem dX11_picture_118 : decode cX11_picture 118 = .ok (.getfield 25, 3) := by decide +kernel
theorem dX11_picture_121 : decode cX11_picture 121 = .ok (.invokevirtual 101, 3) := by decide +kernel
theorem dX11_picture_124 : decode cX11_picture 124 = .ok (.iconst 1, 1) := by decide +kernel
theorem dX11_picture_125 : decode cX11_picture 125 = .ok (.isub, 1) := by decide +kernel
theorem dX11_picture_126 : decode cX11_picture 126 = .ok (.invokevirtual 114, 3) := by decide +kernel
theorem dX11_picture_129 : decode cX11_picture 129 = .ok (.ireturn, 1) := by decide +kernel
def f_X11_picture_b70 (ka : Nat → Nat) (σ : TH) (l0 : Nat) : Option (Int32 × TH) :=
  gt_ (kd_ σ l0 = 13) <| bd_ (f_X11_refused σ l0 (2 : Int32)) fun x8 s9 => some (x8, s9)
set_option maxHeartbeats 4000000 in
set_option maxRecDepth 100000 in
theorem t_X11_picture_b70 {l : Launch} {D : va_G} {cy : Nat → ClassId} {ka : Nat → Nat} {σ0 z : TH} {r : Int32}  {σ : TH} {l0 : Nat} (hf : f_X11_picture_b70 ka σ l0 = some (r, z)) : v_ l D cy ka cX11_picture RX11 7 (some FieldType.int) "picture" 7 191 (qf_ D cy σ0 z (some (.int r))) σ0 z σ 70 [(0, va_rf (some l0))] [] := by
  unfold f_X11_picture_b70 at hf
  refine v_aload_n (x := (some l0)) dX11_picture_70 rfl 0 rfl ?_
  refine v_iconst (v := 2) dX11_picture_71 (by decide) ?_
  obtain ⟨hk_l0, hf⟩ := gt_of hf
  obtain ⟨x8, s9, hcs9, hf⟩ := bd_of hf
  have hts9 := c_X11_refused (l := l) (D := D) (cy := cy) (ka := ka) hcs9
  refine v_callV cb_12 hk_l0 (As := [.int (2 : Int32)]) (rest := []) hts9 yb_X11_refused kw_307 kw_309 kp_0 rfl ⟨Nat.le_of_ble_eq_true rfl, Nat.le_of_ble_eq_true rfl⟩ rfl (cat_len (Nat.le_of_ble_eq_true rfl)) dX11_picture_72 ?_
  have hk_l0 := tk_ hts9.1 hk_l0
  show v_ l D cy ka cX11_picture RX11 7 (some FieldType.int) "picture" 7 191 (qf_ D cy σ0 z (some (.int r))) σ0 z _ 75 [(0, va_rf (some l0))] [.int x8]
  exact v_iret hf dX11_picture_75
def f_X11_picture_b42 (ka : Nat → Nat) (σ : TH) (l0 : Nat) (l1 : Int32) (l2 : Int32) (l3 : Int32) (l4 : Int32) (l5 : Int32) (t0 : Int32) : Option (Int32 × TH) :=
  if t0 = 0 then (f_X11_picture_b70 ka σ l0) else (bd_ (f_X11_within σ l2 (1 : Int32) (100 : Int32)) fun x10 s11 => if x10 = 0 then (f_X11_picture_b70 ka s11 l0) else (bd_ (f_X11_within s11 l5 (1 : Int32) (99 : Int32)) fun x12 s13 => if x12 = 0 then (f_X11_picture_b70 ka s13 l0) else (gt_ (kd_ s13 l0 = 13) <| lt_ (fr_ s13 1204 l0) fun r14 => nn_ r14 fun a15 => gt_ (kd_ s13 a15 = 1) <| bd_ (f_Jx4a65c_size_8abf5 s13 a15) fun x16 s17 => if x16 < (40 : Int32) then (lt_ (fr_ s17 1204 l0) fun r18 => gt_ (kd_ s17 (nx_ s17) = 0) <| lt_ (nx_ s17) fun a19 => lt_ (nw_ s17 5 0 6) fun s20 => bd_ (f_X3_init s20 a19 l1 l2 l3 l4 l5) fun x21 s22 => nn_ r18 fun a23 => gt_ (kd_ s22 a23 = 1) <| bd_ (f_Jx4a65c_add_9ea2d ka s22 a23 (some a19)) fun x24 s25 => lt_ (fr_ s25 1204 l0) fun r26 => nn_ r26 fun a27 => gt_ (kd_ s25 a27 = 1) <| bd_ (f_Jx4a65c_size_8abf5 s25 a27) fun x28 s29 => bd_ (f_X11_granted s29 l0 (x28 - (1 : Int32))) fun x30 s31 => some (x30, s31)) else (bd_ (f_X11_refused s17 l0 (3 : Int32)) fun x32 s33 => some (x32, s33)))))
set_option maxHeartbeats 4000000 in
set_option maxRecDepth 100000 in
theorem t_X11_picture_b42 {l : Launch} {D : va_G} {cy : Nat → ClassId} {ka : Nat → Nat} {σ0 z : TH} {r : Int32}  {σ : TH} {l0 : Nat} {l1 : Int32} {l2 : Int32} {l3 : Int32} {l4 : Int32} {l5 : Int32} {t0 : Int32} (hf : f_X11_picture_b42 ka σ l0 l1 l2 l3 l4 l5 t0 = some (r, z)) : v_ l D cy ka cX11_picture RX11 7 (some FieldType.int) "picture" 7 191 (qf_ D cy σ0 z (some (.int r))) σ0 z σ 42 [(0, va_rf (some l0)), (1, .int l1), (2, .int l2), (3, .int l3), (4, .int l4), (5, .int l5)] [.int t0] := by
  unfold f_X11_picture_b42 at hf
  refine v_istore [(6, .int t0), (0, va_rf (some l0)), (1, .int l1), (2, .int l2), (3, .int l3), (4, .int l4), (5, .int l5)] dX11_picture_42 (by decide) rfl ?_
  refine v_iload (x := t0) dX11_picture_44 0 rfl ?_
  refine v_if_eq (tgt := 70) hf dX11_picture_46 (by decide) (fun hq hf => ?_) (fun hq hf => ?_)
  · refine v_sub [1] (L2 := [(0, va_rf (some l0))]) rfl ?_
    exact t_X11_picture_b70  hf
  · refine v_iload_n (x := l2) dX11_picture_49 rfl 3 rfl ?_
    refine v_iconst (v := 1) dX11_picture_50 (by decide) ?_
    refine v_bipush (v := 100) dX11_picture_51 (by decide) ?_
    obtain ⟨x10, s11, hcs11, hf⟩ := bd_of hf
    have hts11 := c_X11_within (l := l) (D := D) (cy := cy) (ka := ka) hcs11
    refine v_callS (As := [.int l2, .int (1 : Int32), .int (100 : Int32)]) (rest := []) hts11 yb_X11_within kw_304 kw_305 rfl ⟨Nat.le_of_ble_eq_true rfl, Nat.le_of_ble_eq_true rfl⟩ rfl (cat_len (Nat.le_of_ble_eq_true rfl)) dX11_picture_53 ?_
    show v_ l D cy ka cX11_picture RX11 7 (some FieldType.int) "picture" 7 191 (qf_ D cy σ0 z (some (.int r))) σ0 z _ 56 [(6, .int t0), (0, va_rf (some l0)), (1, .int l1), (2, .int l2), (3, .int l3), (4, .int l4), (5, .int l5)] [.int x10]
    refine v_if_eq (tgt := 70) hf dX11_picture_56 (by decide) (fun hq hf => ?_) (fun hq hf => ?_)
    · refine v_sub [1] (L2 := [(0, va_rf (some l0))]) rfl ?_
      exact t_X11_picture_b70  hf
    · refine v_iload (x := l5) dX11_picture_59 6 rfl ?_
      refine v_iconst (v := 1) dX11_picture_61 (by decide) ?_
      refine v_bipush (v := 99) dX11_picture_62 (by decide) ?_
      obtain ⟨x12, s13, hcs13, hf⟩ := bd_of hf
      have hts13 := c_X11_within (l := l) (D := D) (cy := cy) (ka := ka) hcs13
      refine v_callS (As := [.int l5, .int (1 : Int32), .int (99 : Int32)]) (rest := []) hts13 yb_X11_within kw_304 kw_305 rfl ⟨Nat.le_of_ble_eq_true rfl, Nat.le_of_ble_eq_true rfl⟩ rfl (cat_len (Nat.le_of_ble_eq_true rfl)) dX11_picture_64 ?_
      show v_ l D cy ka cX11_picture RX11 7 (some FieldType.int) "picture" 7 191 (qf_ D cy σ0 z (some (.int r))) σ0 z _ 67 [(6, .int t0), (0, va_rf (some l0)), (1, .int l1), (2, .int l2), (3, .int l3), (4, .int l4), (5, .int l5)] [.int x12]
      refine v_if_ne (tgt := 76) hf dX11_picture_67 (by decide) (fun hq hf => ?_) (fun hq hf => ?_)
      · refine v_sub [1] (L2 := [(0, va_rf (some l0))]) rfl ?_
        exact t_X11_picture_b70  hf
      · refine v_aload_n (x := (some l0)) dX11_picture_76 rfl 1 rfl ?_
        obtain ⟨hk_l0, hf⟩ := gt_of hf
        refine v_getr cb_12 hk_l0 4 1204 rfl (by decide) rfl (lk_n kw_243 rfl) hf dX11_picture_77 (fun r14 hf => ?_)
        obtain ⟨a15, rfl, hf⟩ := nn_of hf
        obtain ⟨hk_a15, hf⟩ := gt_of hf
        obtain ⟨x16, s17, hcs17, hf⟩ := bd_of hf
        have hts17 := c_Jx4a65c_size_8abf5 (l := l) (D := D) (cy := cy) (ka := ka) hcs17
        refine v_callV cb_0 hk_a15 (As := []) (rest := []) hts17 yb_Jx4a65c_size_8abf5 kw_311 kw_312 kw_313 rfl ⟨Nat.le_of_ble_eq_true rfl, Nat.le_of_ble_eq_true rfl⟩ rfl (cat_len (Nat.le_of_ble_eq_true rfl)) dX11_picture_80 ?_
        have hk_l0 := tk_ hts17.1 hk_l0
        show v_ l D cy ka cX11_picture RX11 7 (some FieldType.int) "picture" 7 191 (qf_ D cy σ0 z (some (.int r))) σ0 z _ 83 [(6, .int t0), (0, va_rf (some l0)), (1, .int l1), (2, .int l2), (3, .int l3), (4, .int l4), (5, .int l5)] [.int x16]
        refine v_bipush (v := 40) dX11_picture_83 (by decide) ?_
        refine v_icmp_lt (tgt := 94) hf dX11_picture_85 (by decide) (fun hq hf => ?_) (fun hq hf => ?_)
        · refine v_aload_n (x := (some l0)) dX11_picture_94 rfl 1 rfl ?_
          refine v_getr cb_12 hk_l0 4 1204 rfl (by decide) rfl (lk_n kw_243 rfl) hf dX11_picture_95 (fun r18 hf => ?_)
          refine v_new2 cb_4 df_4 kw_1101 kw_1102 kw_30 5 rfl hf dX11_picture_98 (fun a19 s20 hts20 hk_a19 hf => ?_)
          have hk_l0 := tk_ hts20 hk_l0
          refine v_dup dX11_picture_101 (va_rf_cat _) ?_
          refine v_iload_n (x := l1) dX11_picture_102 rfl 2 rfl ?_
          refine v_iload_n (x := l2) dX11_picture_103 rfl 3 rfl ?_
          refine v_iload_n (x := l3) dX11_picture_104 rfl 4 rfl ?_
          refine v_iload (x := l4) dX11_picture_105 5 rfl ?_
          refine v_iload (x := l5) dX11_picture_107 6 rfl ?_
          obtain ⟨x21, s22, hcs22, hf⟩ := bd_of hf
          have hts22 := c_X3_init (l := l) (D := D) (cy := cy) (ka := ka) hcs22
          refine v_callI (As := [.int l1, .int l2, .int l3, .int l4, .int l5]) (rest := [va_rf (some a19), va_rf r18]) hts22 yb_X3_init kw_1103 kw_1104 rfl rfl ⟨Nat.le_of_ble_eq_true rfl, Nat.le_of_ble_eq_true rfl⟩ rfl (cat_len (Nat.le_of_ble_eq_true rfl)) dX11_picture_109 ?_
          have hk_l0 := tk_ hts22.1 hk_l0
          have hk_a19 := tk_ hts22.1 hk_a19
          show v_ l D cy ka cX11_picture RX11 7 (some FieldType.int) "picture" 7 191 (qf_ D cy σ0 z (some (.int r))) σ0 z _ 112 [(6, .int t0), (0, va_rf (some l0)), (1, .int l1), (2, .int l2), (3, .int l3), (4, .int l4), (5, .int l5)] [va_rf (some a19), va_rf r18]
          obtain ⟨a23, rfl, hf⟩ := nn_of hf
          obtain ⟨hk_a23, hf⟩ := gt_of hf
          obtain ⟨x24, s25, hcs25, hf⟩ := bd_of hf
          have hts25 := c_Jx4a65c_add_9ea2d (l := l) (D := D) (cy := cy) (ka := ka) hcs25
          refine v_callV cb_0 hk_a23 (As := [va_rf (some a19)]) (rest := []) hts25 yb_Jx4a65c_add_9ea2d kw_330 kw_331 kw_332 rfl ⟨Nat.le_of_ble_eq_true rfl, Nat.le_of_ble_eq_true rfl⟩ rfl (cat_len (Nat.le_of_ble_eq_true rfl)) dX11_picture_112 ?_
          have hk_l0 := tk_ hts25.1 hk_l0
          show v_ l D cy ka cX11_picture RX11 7 (some FieldType.int) "picture" 7 191 (qf_ D cy σ0 z (some (.int r))) σ0 z _ 115 [(6, .int t0), (0, va_rf (some l0)), (1, .int l1), (2, .int l2), (3, .int l3), (4, .int l4), (5, .int l5)] [.int x24]
          refine v_pop dX11_picture_115 rfl ?_
          refine v_aload_n (x := (some l0)) dX11_picture_116 rfl 1 rfl ?_
          refine v_aload_n (x := (some l0)) dX11_picture_117 rfl 1 rfl ?_
          refine v_getr cb_12 hk_l0 4 1204 rfl (by decide) rfl (lk_n kw_243 rfl) hf dX11_picture_118 (fun r26 hf => ?_)
          obtain ⟨a27, rfl, hf⟩ := nn_of hf
          obtain ⟨hk_a27, hf⟩ := gt_of hf
          obtain ⟨x28, s29, hcs29, hf⟩ := bd_of hf
          have hts29 := c_Jx4a65c_size_8abf5 (l := l) (D := D) (cy := cy) (ka := ka) hcs29
          refine v_callV cb_0 hk_a27 (As := []) (rest := [va_rf (some l0)]) hts29 yb_Jx4a65c_size_8abf5 kw_311 kw_312 kw_313 rfl ⟨Nat.le_of_ble_eq_true rfl, Nat.le_of_ble_eq_true rfl⟩ rfl (cat_len (Nat.le_of_ble_eq_true rfl)) dX11_picture_121 ?_
          have hk_l0 := tk_ hts29.1 hk_l0
          show v_ l D cy ka cX11_picture RX11 7 (some FieldType.int) "picture" 7 191 (qf_ D cy σ0 z (some (.int r))) σ0 z _ 124 [(6, .int t0), (0, va_rf (some l0)), (1, .int l1), (2, .int l2), (3, .int l3), (4, .int l4), (5, .int l5)] [.int x28, va_rf (some l0)]
          refine v_iconst (v := 1) dX11_picture_124 (by decide) ?_
          refine v_isub dX11_picture_125 ?_
          obtain ⟨x30, s31, hcs31, hf⟩ := bd_of hf
          have hts31 := c_X11_granted (l := l) (D := D) (cy := cy) (ka := ka) hcs31
          refine v_callV cb_12 hk_l0 (As := [.int (x28 - (1 : Int32))]) (rest := []) hts31 yb_X11_granted kw_395 kw_397 kp_4 rfl ⟨Nat.le_of_ble_eq_true rfl, Nat.le_of_ble_eq_true rfl⟩ rfl (cat_len (Nat.le_of_ble_eq_true rfl)) dX11_picture_126 ?_
          have hk_l0 := tk_ hts31.1 hk_l0
          show v_ l D cy ka cX11_picture RX11 7 (some FieldType.int) "picture" 7 191 (qf_ D cy σ0 z (some (.int r))) σ0 z _ 129 [(6, .int t0), (0, va_rf (some l0)), (1, .int l1), (2, .int l2), (3, .int l3), (4, .int l4), (5, .int l5)] [.int x30]
          exact v_iret hf dX11_picture_129
        · refine v_aload_n (x := (some l0)) dX11_picture_88 rfl 1 rfl ?_
          refine v_iconst (v := 3) dX11_picture_89 (by decide) ?_
          obtain ⟨x32, s33, hcs33, hf⟩ := bd_of hf
          have hts33 := c_X11_refused (l := l) (D := D) (cy := cy) (ka := ka) hcs33
          refine v_callV cb_12 hk_l0 (As := [.int (3 : Int32)]) (rest := []) hts33 yb_X11_refused kw_307 kw_309 kp_0 rfl ⟨Nat.le_of_ble_eq_true rfl, Nat.le_of_ble_eq_true rfl⟩ rfl (cat_len (Nat.le_of_ble_eq_true rfl)) dX11_picture_90 ?_
          have hk_l0 := tk_ hts33.1 hk_l0
          show v_ l D cy ka cX11_picture RX11 7 (some FieldType.int) "picture" 7 191 (qf_ D cy σ0 z (some (.int r))) σ0 z _ 93 [(6, .int t0), (0, va_rf (some l0)), (1, .int l1), (2, .int l2), (3, .int l3), (4, .int l4), (5, .int l5)] [.int x32]
          exact v_iret hf dX11_picture_93
def f_X11_picture_b41 (ka : Nat → Nat) (σ : TH) (l0 : Nat) (l1 : Int32) (l2 : Int32) (l3 : Int32) (l4 : Int32) (l5 : Int32) : Option (Int32 × TH) :=
  f_X11_picture_b42 ka σ l0 l1 l2 l3 l4 l5 (0 : Int32)
set_option maxHeartbeats 4000000 in
set_option maxRecDepth 100000 in
theorem t_X11_picture_b41 {l : Launch} {D : va_G} {cy : Nat → ClassId} {ka : Nat → Nat} {σ0 z : TH} {r : Int32}  {σ : TH} {l0 : Nat} {l1 : Int32} {l2 : Int32} {l3 : Int32} {l4 : Int32} {l5 : Int32} (hf : f_X11_picture_b41 ka σ l0 l1 l2 l3 l4 l5 = some (r, z)) : v_ l D cy ka cX11_picture RX11 7 (some FieldType.int) "picture" 7 191 (qf_ D cy σ0 z (some (.int r))) σ0 z σ 41 [(0, va_rf (some l0)), (1, .int l1), (2, .int l2), (3, .int l3), (4, .int l4), (5, .int l5)] [] := by
  unfold f_X11_picture_b41 at hf
  refine v_iconst (v := 0) dX11_picture_41 (by decide) ?_
  refine v_sub [0, 1, 2, 3, 4, 5] (L2 := [(0, va_rf (some l0)), (1, .int l1), (2, .int l2), (3, .int l3), (4, .int l4), (5, .int l5)]) rfl ?_
  exact t_X11_picture_b42  hf
/-- LivesAhead.picture(IIIII)I -/
def f_X11_picture (ka : Nat → Nat) (σ : TH) (p0 : Nat) (p1 : Int32) (p2 : Int32) (p3 : Int32) (p4 : Int32) (p5 : Int32) : Option (Int32 × TH) :=
  gt_ (kd_ σ p0 = 13) <| bd_ (f_X11_personAt σ p0 p1) fun r1 s2 => oc_ r1 (bd_ (f_X11_refused s2 p0 (1 : Int32)) fun x4 s5 => some (x4, s5)) (fun a3 => bd_ (f_X11_within s2 p3 (0 : Int32) (3650 : Int32)) fun x6 s7 => if x6 = 0 then (f_X11_picture_b41 ka s7 p0 p1 p2 p3 p4 p5) else (bd_ (f_X11_within s7 p4 p3 (3650 : Int32)) fun x34 s35 => if x34 = 0 then (f_X11_picture_b41 ka s35 p0 p1 p2 p3 p4 p5) else (f_X11_picture_b42 ka s35 p0 p1 p2 p3 p4 p5 (1 : Int32))))
set_option maxHeartbeats 4000000 in
set_option maxRecDepth 100000 in
theorem c_X11_picture {l : Launch} {D : va_G} {cy : Nat → ClassId} {ka : Nat → Nat} {σ z : TH} {p0 : Nat} {p1 : Int32} {p2 : Int32} {p3 : Int32} {p4 : Int32} {p5 : Int32} {r : Int32} (hf : f_X11_picture ka σ p0 p1 p2 p3 p4 p5 = some (r, z)) : ct_ l D cy ka yX11_picture 7 191 [va_rf (some p0), .int p1, .int p2, .int p3, .int p4, .int p5] σ (some (.int r)) z := by
  unfold f_X11_picture at hf
  refine v_start (cc := cX11_picture) (own := RX11) (maxL := 7) (ret := (some FieldType.int)) (nm := "picture") (by decide +kernel) kw_1100 rfl rfl (by simp [lg_sl, va_rf_cat, cat_i, cat_l]) ?_
  refine v_eqL (L2 := [(0, va_rf (some p0)), (1, .int p1), (2, .int p2), (3, .int p3), (4, .int p4), (5, .int p5)]) (by simp [lv_args, va_rf_cat, cat_i, cat_l]) ?_
  refine v_aload_n (x := (some p0)) dX11_picture_0 rfl 0 rfl ?_
  refine v_iload_n (x := p1) dX11_picture_1 rfl 1 rfl ?_
  obtain ⟨hk_p0, hf⟩ := gt_of hf
  obtain ⟨r1, s2, hcs2, hf⟩ := bd_of hf
  have hts2 := c_X11_personAt (l := l) (D := D) (cy := cy) (ka := ka) hcs2
  refine v_callV cb_12 hk_p0 (As := [.int p1]) (rest := []) hts2 yb_X11_personAt kw_526 kw_528 kp_11 rfl ⟨Nat.le_of_ble_eq_true rfl, Nat.le_of_ble_eq_true rfl⟩ rfl (cat_len (Nat.le_of_ble_eq_true rfl)) dX11_picture_2 ?_
  have hk_p0 := tk_ hts2.1 hk_p0
  show v_ l D cy ka cX11_picture RX11 7 (some FieldType.int) "picture" 7 191 (qf_ D cy σ z (some (.int r))) σ z _ 5 [(0, va_rf (some p0)), (1, .int p1), (2, .int p2), (3, .int p3), (4, .int p4), (5, .int p5)] [va_rf r1]
  refine v_ifnonnull2 (tgt := 14) hf dX11_picture_5 (by decide) (fun e9 hf9 => ?_) (fun a3 e9 hf9 => ?_)
  · subst e9
    replace hf := hf9
    clear hf9
    refine v_aload_n (x := (some p0)) dX11_picture_8 rfl 0 rfl ?_
    refine v_iconst (v := 1) dX11_picture_9 (by decide) ?_
    obtain ⟨x4, s5, hcs5, hf⟩ := bd_of hf
    have hts5 := c_X11_refused (l := l) (D := D) (cy := cy) (ka := ka) hcs5
    refine v_callV cb_12 hk_p0 (As := [.int (1 : Int32)]) (rest := []) hts5 yb_X11_refused kw_307 kw_309 kp_0 rfl ⟨Nat.le_of_ble_eq_true rfl, Nat.le_of_ble_eq_true rfl⟩ rfl (cat_len (Nat.le_of_ble_eq_true rfl)) dX11_picture_10 ?_
    have hk_p0 := tk_ hts5.1 hk_p0
    show v_ l D cy ka cX11_picture RX11 7 (some FieldType.int) "picture" 7 191 (qf_ D cy σ z (some (.int r))) σ z _ 13 [(0, va_rf (some p0)), (1, .int p1), (2, .int p2), (3, .int p3), (4, .int p4), (5, .int p5)] [.int x4]
    exact v_iret hf dX11_picture_13
  · subst e9
    replace hf := hf9
    clear hf9
    refine v_iload_n (x := p3) dX11_picture_14 rfl 3 rfl ?_
    refine v_iconst (v := 0) dX11_picture_15 (by decide) ?_
    refine v_sipush (v := 3650) dX11_picture_16 (by decide) ?_
    obtain ⟨x6, s7, hcs7, hf⟩ := bd_of hf
    have hts7 := c_X11_within (l := l) (D := D) (cy := cy) (ka := ka) hcs7
    refine v_callS (As := [.int p3, .int (0 : Int32), .int (3650 : Int32)]) (rest := []) hts7 yb_X11_within kw_304 kw_305 rfl ⟨Nat.le_of_ble_eq_true rfl, Nat.le_of_ble_eq_true rfl⟩ rfl (cat_len (Nat.le_of_ble_eq_true rfl)) dX11_picture_19 ?_
    have hk_p0 := tk_ hts7.1 hk_p0
    show v_ l D cy ka cX11_picture RX11 7 (some FieldType.int) "picture" 7 191 (qf_ D cy σ z (some (.int r))) σ z _ 22 [(0, va_rf (some p0)), (1, .int p1), (2, .int p2), (3, .int p3), (4, .int p4), (5, .int p5)] [.int x6]
    refine v_if_eq (tgt := 41) hf dX11_picture_22 (by decide) (fun hq hf => ?_) (fun hq hf => ?_)
    · refine v_sub [0, 1, 2, 3, 4, 5] (L2 := [(0, va_rf (some p0)), (1, .int p1), (2, .int p2), (3, .int p3), (4, .int p4), (5, .int p5)]) rfl ?_
      exact t_X11_picture_b41  hf
    · refine v_iload (x := p4) dX11_picture_25 4 rfl ?_
      refine v_iload_n (x := p3) dX11_picture_27 rfl 3 rfl ?_
      refine v_sipush (v := 3650) dX11_picture_28 (by decide) ?_
      obtain ⟨x34, s35, hcs35, hf⟩ := bd_of hf
      have hts35 := c_X11_within (l := l) (D := D) (cy := cy) (ka := ka) hcs35
      refine v_callS (As := [.int p4, .int p3, .int (3650 : Int32)]) (rest := []) hts35 yb_X11_within kw_304 kw_305 rfl ⟨Nat.le_of_ble_eq_true rfl, Nat.le_of_ble_eq_true rfl⟩ rfl (cat_len (Nat.le_of_ble_eq_true rfl)) dX11_picture_31 ?_
      have hk_p0 := tk_ hts35.1 hk_p0
      show v_ l D cy ka cX11_picture RX11 7 (some FieldType.int) "picture" 7 191 (qf_ D cy σ z (some (.int r))) σ z _ 34 [(0, va_rf (some p0)), (1, .int p1), (2, .int p2), (3, .int p3), (4, .int p4), (5, .int p5)] [.int x34]
      refine v_if_eq (tgt := 41) hf dX11_picture_34 (by decide) (fun hq hf => ?_) (fun hq hf => ?_)
      · refine v_sub [0, 1, 2, 3, 4, 5] (L2 := [(0, va_rf (some p0)), (1, .int p1), (2, .int p2), (3, .int p3), (4, .int p4), (5, .int p5)]) rfl ?_
        exact t_X11_picture_b41  hf
      · refine v_iconst (v := 1) dX11_picture_37 (by decide) ?_
        refine v_goto (tgt := 42) dX11_picture_38 (by decide) ?_
        refine v_sub [0, 1, 2, 3, 4, 5] (L2 := [(0, va_rf (some p0)), (1, .int p1), (2, .int p2), (3, .int p3), (4, .int p4), (5, .int p5)]) rfl ?_
        exact t_X11_picture_b42  hf
theorem dX11_print_0 : decode cX11_print 0 = .ok (.aload_n 0, 1) := by decide +kernel
theorem dX11_print_1 : decode cX11_print 1 = .ok (.iload_n 1, 1) := by decide +kernel
theorem dX11_print_2 : decode cX11_print 2 = .ok (.invokevirtual 149, 3) := by decide +kernel
theorem dX11_print_5 : decode cX11_print 5 = .ok (.astore_n 3, 1) := by decide +kernel
theorem dX11_print_6 : decode cX11_print 6 = .ok (.aload_n 3, 1) := by decide +kernel
theorem dX11_print_7 : decode cX11_print 7 = .ok (.iload_n 2, 1) := by decide +kernel
theorem dX11_print_8 : decode cX11_print 8 = .ok (.invokestatic 268, 3) := by decide +kernel
theorem dX11_print_11 : decode cX11_print 11 = .ok (.astore 4, 2) := by decide +kernel
theorem dX11_print_13 : decode cX11_print 13 = .ok (.aload 4, 2) := by decide +kernel
theorem dX11_print_15 : decode cX11_print 15 = .ok (.ifnonnull 9, 3) := by decide +kernel
theorem dX11_print_18 : decode cX11_print 18 = .ok (.aload_n 0, 1) := by decide +kernel
theorem dX11_print_19 : decode cX11_print 19 = .ok (.iconst 1, 1) := by decide +kernel
theorem dX11_print_20 : decode cX11_print 20 = .ok (.invokevirtual 97, 3) := by decide +kernel
theorem dX11_print_23 : decode cX11_print 23 = .ok (.ireturn, 1) := by decide +kernel
theorem dX11_print_24 : decode cX11_print 24 = .ok (.aload_n 0, 1) := by decide +kernel
theorem dX11_print_25 : decode cX11_print 25 = .ok (.aload_n 3, 1) := by decide +kernel
theorem dX11_print_26 : decode cX11_print 26 = .ok (.invokevirtual 293, 3) := by decide +kernel
theorem dX11_print_29 : decode cX11_print 29 = .ok (.aload_n 0, 1) := by decide +kernel
theorem dX11_print_30 : decode cX11_print 30 = .ok (.getfield 48, 3) := by decide +kernel
theorem dX11_print_33 : decode cX11_print 33 = .ok (.aload 4, 2) := by decide +kernel
theorem dX11_print_35 : decode cX11_print 35 = .ok (.getfield 297, 3) := by decide +kernel
theorem dX11_print_38 : decode cX11_print 38 = .ok (.iconst 1, 1) := by decide +kernel
theorem dX11_print_39 : decode cX11_print 39 = .ok (.invokevirtual 300, 3) := by decide +kernel
theorem dX11_print_42 : decode cX11_print 42 = .ok (.pop, 1) := by decide +kernel
theorem dX11_print_43 : decode cX11_print 43 = .ok (.aload_n 0, 1) := by decide +kernel
theorem dX11_print_44 : decode cX11_print 44 = .ok (.aload_n 0, 1) := by decide +kernel
theorem dX11_print_45 : decode cX11_print 45 = .ok (.getfield 48, 3) := by decide +kernel
theorem dX11_print_48 : decode cX11_print 48 = .ok (.getfield 304, 3) := by decide +kernel
theorem dX11_print_51 : decode cX11_print 51 = .ok (.putfield 72, 3) := by decide +kernel
theorem dX11_print_54 : decode cX11_print 54 = .ok (.aload_n 0, 1) := by decide +kernel
theorem dX11_print_55 : decode cX11_print 55 = .ok (.aload_n 0, 1) := by decide +kernel
theorem dX11_print_56 : decode cX11_print 56 = .ok (.getfield 72, 3) := by decide +kernel
theorem dX11_print_59 : decode cX11_print 59 = .ok (.invokevirtual 114, 3) := by decide +kernel
theorem dX11_print_62 : decode cX11_print 62 = .ok (.ireturn, 1) := by decide +kernel
/-- LivesAhead.print(II)I -/
def f_X11_print (σ : TH) (p0 : Nat) (p1 : Int32) (p2 : Int32) : Option (Int32 × TH) :=
  gt_ (kd_ σ p0 = 13) <| bd_ (f_X11_personAt σ p0 p1) fun r1 s2 => bd_ (f_X11_textAt s2 r1 p2) fun r3 s4 => oc_ r3 (bd_ (f_X11_refused s4 p0 (1 : Int32)) fun x6 s7 => some (x6, s7)) (fun a5 => bd_ (f_X11_fillPrinter s4 p0 r1) fun x8 s9 => lt_ (fr_ s9 1209 p0) fun r10 => gt_ (kd_ s9 a5 = 11) <| lt_ (fr_ s9 1000 a5) fun r11 => nn_ r10 fun a12 => gt_ (kd_ s9 a12 = 6) <| bd_ (f_X4_run s9 a12 r11 (1 : Int32)) fun x13 s14 => lt_ (fr_ s14 1209 p0) fun r15 => nn_ r15 fun a16 => gt_ (kd_ s14 a16 = 6) <| lt_ (fi_ s14 505 a16) fun x17 => lt_ (si_ s14 1215 p0 x17) fun s18 => lt_ (fi_ s18 1215 p0) fun x19 => bd_ (f_X11_granted s18 p0 x19) fun x20 s21 => some (x20, s21))
set_option maxHeartbeats 4000000 in
set_option maxRecDepth 100000 in
theorem c_X11_print {l : Launch} {D : va_G} {cy : Nat → ClassId} {ka : Nat → Nat} {σ z : TH} {p0 : Nat} {p1 : Int32} {p2 : Int32} {r : Int32} (hf : f_X11_print σ p0 p1 p2 = some (r, z)) : ct_ l D cy ka yX11_print 4 91 [va_rf (some p0), .int p1, .int p2] σ (some (.int r)) z := by
  unfold f_X11_print at hf
  refine v_start (cc := cX11_print) (own := RX11) (maxL := 5) (ret := (some FieldType.int)) (nm := "print") (by decide +kernel) kw_952 rfl rfl (by simp [lg_sl, va_rf_cat, cat_i, cat_l]) ?_
  refine v_eqL (L2 := [(0, va_rf (some p0)), (1, .int p1), (2, .int p2)]) (by simp [lv_args, va_rf_cat, cat_i, cat_l]) ?_
  refine v_aload_n (x := (some p0)) dX11_print_0 rfl 0 rfl ?_
  refine v_iload_n (x := p1) dX11_print_1 rfl 1 rfl ?_
  obtain ⟨hk_p0, hf⟩ := gt_of hf
  obtain ⟨r1, s2, hcs2, hf⟩ := bd_of hf
  have hts2 := c_X11_personAt (l := l) (D := D) (cy := cy) (ka := ka) hcs2
  refine v_callV cb_12 hk_p0 (As := [.int p1]) (rest := []) hts2 yb_X11_personAt kw_526 kw_528 kp_11 rfl ⟨Nat.le_of_ble_eq_true rfl, Nat.le_of_ble_eq_true rfl⟩ rfl (cat_len (Nat.le_of_ble_eq_true rfl)) dX11_print_2 ?_
  have hk_p0 := tk_ hts2.1 hk_p0
  show v_ l D cy ka cX11_print RX11 5 (some FieldType.int) "print" 4 91 (qf_ D cy σ z (some (.int r))) σ z _ 5 [(0, va_rf (some p0)), (1, .int p1), (2, .int p2)] [va_rf r1]
  refine v_astore_n [(3, va_rf r1), (0, va_rf (some p0)), (1, .int p1), (2, .int p2)] dX11_print_5 rfl (by decide) rfl ?_
  refine v_aload_n (x := r1) dX11_print_6 rfl 0 rfl ?_
  refine v_iload_n (x := p2) dX11_print_7 rfl 3 rfl ?_
  obtain ⟨r3, s4, hcs4, hf⟩ := bd_of hf
  have hts4 := c_X11_textAt (l := l) (D := D) (cy := cy) (ka := ka) hcs4
  refine v_callS (As := [va_rf r1, .int p2]) (rest := []) hts4 yb_X11_textAt kw_884 kw_885 rfl ⟨Nat.le_of_ble_eq_true rfl, Nat.le_of_ble_eq_true rfl⟩ rfl (cat_len (Nat.le_of_ble_eq_true rfl)) dX11_print_8 ?_
  have hk_p0 := tk_ hts4.1 hk_p0
  show v_ l D cy ka cX11_print RX11 5 (some FieldType.int) "print" 4 91 (qf_ D cy σ z (some (.int r))) σ z _ 11 [(3, va_rf r1), (0, va_rf (some p0)), (1, .int p1), (2, .int p2)] [va_rf r3]
  refine v_astore [(4, va_rf r3), (3, va_rf r1), (0, va_rf (some p0)), (1, .int p1), (2, .int p2)] dX11_print_11 (by decide) (by simp [va_rf_cat, cat_i, cat_l]) ?_
  refine v_aload (x := r3) dX11_print_13 0 rfl ?_
  refine v_ifnonnull2 (tgt := 24) hf dX11_print_15 (by decide) (fun e9 hf9 => ?_) (fun a5 e9 hf9 => ?_)
  · subst e9
    replace hf := hf9
    clear hf9
    refine v_aload_n (x := (some p0)) dX11_print_18 rfl 2 rfl ?_
    refine v_iconst (v := 1) dX11_print_19 (by decide) ?_
    obtain ⟨x6, s7, hcs7, hf⟩ := bd_of hf
    have hts7 := c_X11_refused (l := l) (D := D) (cy := cy) (ka := ka) hcs7
    refine v_callV cb_12 hk_p0 (As := [.int (1 : Int32)]) (rest := []) hts7 yb_X11_refused kw_307 kw_309 kp_0 rfl ⟨Nat.le_of_ble_eq_true rfl, Nat.le_of_ble_eq_true rfl⟩ rfl (cat_len (Nat.le_of_ble_eq_true rfl)) dX11_print_20 ?_
    have hk_p0 := tk_ hts7.1 hk_p0
    show v_ l D cy ka cX11_print RX11 5 (some FieldType.int) "print" 4 91 (qf_ D cy σ z (some (.int r))) σ z _ 23 [(4, va_rf none), (3, va_rf r1), (0, va_rf (some p0)), (1, .int p1), (2, .int p2)] [.int x6]
    exact v_iret hf dX11_print_23
  · subst e9
    replace hf := hf9
    clear hf9
    refine v_aload_n (x := (some p0)) dX11_print_24 rfl 2 rfl ?_
    refine v_aload_n (x := r1) dX11_print_25 rfl 1 rfl ?_
    obtain ⟨x8, s9, hcs9, hf⟩ := bd_of hf
    have hts9 := c_X11_fillPrinter (l := l) (D := D) (cy := cy) (ka := ka) hcs9
    refine v_callV cb_12 hk_p0 (As := [va_rf r1]) (rest := []) hts9 yb_X11_fillPrinter kw_903 kw_905 kp_47 rfl ⟨Nat.le_of_ble_eq_true rfl, Nat.le_of_ble_eq_true rfl⟩ rfl (cat_len (Nat.le_of_ble_eq_true rfl)) dX11_print_26 ?_
    have hk_p0 := tk_ hts9.1 hk_p0
    show v_ l D cy ka cX11_print RX11 5 (some FieldType.int) "print" 4 91 (qf_ D cy σ z (some (.int r))) σ z _ 29 [(4, va_rf (some a5)), (3, va_rf r1), (0, va_rf (some p0)), (1, .int p1), (2, .int p2)] []
    refine v_aload_n (x := (some p0)) dX11_print_29 rfl 2 rfl ?_
    refine v_getr cb_12 hk_p0 9 1209 rfl (by decide) rfl (lk_n kw_248 rfl) hf dX11_print_30 (fun r10 hf => ?_)
    refine v_aload (x := (some a5)) dX11_print_33 0 rfl ?_
    obtain ⟨hk_a5, hf⟩ := gt_of hf
    refine v_getr cb_10 hk_a5 0 1000 rfl (by decide) rfl (lk_n kw_868 rfl) hf dX11_print_35 (fun r11 hf => ?_)
    refine v_iconst (v := 1) dX11_print_38 (by decide) ?_
    obtain ⟨a12, rfl, hf⟩ := nn_of hf
    obtain ⟨hk_a12, hf⟩ := gt_of hf
    obtain ⟨x13, s14, hcs14, hf⟩ := bd_of hf
    have hts14 := c_X4_run (l := l) (D := D) (cy := cy) (ka := ka) hcs14
    refine v_callV cb_5 hk_a12 (As := [va_rf r11, .int (1 : Int32)]) (rest := []) hts14 yb_X4_run kw_907 kw_908 kw_909 rfl ⟨Nat.le_of_ble_eq_true rfl, Nat.le_of_ble_eq_true rfl⟩ rfl (cat_len (Nat.le_of_ble_eq_true rfl)) dX11_print_39 ?_
    have hk_p0 := tk_ hts14.1 hk_p0
    have hk_a5 := tk_ hts14.1 hk_a5
    show v_ l D cy ka cX11_print RX11 5 (some FieldType.int) "print" 4 91 (qf_ D cy σ z (some (.int r))) σ z _ 42 [(4, va_rf (some a5)), (3, va_rf r1), (0, va_rf (some p0)), (1, .int p1), (2, .int p2)] [.int x13]
    refine v_pop dX11_print_42 rfl ?_
    refine v_aload_n (x := (some p0)) dX11_print_43 rfl 2 rfl ?_
    refine v_aload_n (x := (some p0)) dX11_print_44 rfl 2 rfl ?_
    refine v_getr cb_12 hk_p0 9 1209 rfl (by decide) rfl (lk_n kw_248 rfl) hf dX11_print_45 (fun r15 hf => ?_)
    obtain ⟨a16, rfl, hf⟩ := nn_of hf
    obtain ⟨hk_a16, hf⟩ := gt_of hf
    refine v_geti cb_5 hk_a16 5 505 rfl (by decide) rfl (lk_n kw_154 rfl) hf dX11_print_48 (fun x17 hf => ?_)
    refine v_puti2 cb_12 hk_p0 15 1215 rfl (by decide) rfl (lk_n kw_254 rfl) (Or.inl rfl) rfl rfl hf dX11_print_51 (fun s18 hts18 hf => ?_)
    have hk_p0 := tk_ hts18 hk_p0
    have hk_a5 := tk_ hts18 hk_a5
    refine v_aload_n (x := (some p0)) dX11_print_54 rfl 2 rfl ?_
    refine v_aload_n (x := (some p0)) dX11_print_55 rfl 2 rfl ?_
    refine v_geti cb_12 hk_p0 15 1215 rfl (by decide) rfl (lk_n kw_254 rfl) hf dX11_print_56 (fun x19 hf => ?_)
    obtain ⟨x20, s21, hcs21, hf⟩ := bd_of hf
    have hts21 := c_X11_granted (l := l) (D := D) (cy := cy) (ka := ka) hcs21
    refine v_callV cb_12 hk_p0 (As := [.int x19]) (rest := []) hts21 yb_X11_granted kw_395 kw_397 kp_4 rfl ⟨Nat.le_of_ble_eq_true rfl, Nat.le_of_ble_eq_true rfl⟩ rfl (cat_len (Nat.le_of_ble_eq_true rfl)) dX11_print_59 ?_
    have hk_p0 := tk_ hts21.1 hk_p0
    have hk_a5 := tk_ hts21.1 hk_a5
    show v_ l D cy ka cX11_print RX11 5 (some FieldType.int) "print" 4 91 (qf_ D cy σ z (some (.int r))) σ z _ 62 [(4, va_rf (some a5)), (3, va_rf r1), (0, va_rf (some p0)), (1, .int p1), (2, .int p2)] [.int x20]
    exact v_iret hf dX11_print_62
theorem dX11_keepReport_0 : decode cX11_keepReport 0 = .ok (.aload_n 0, 1) := by decide +kernel
theorem dX11_keepReport_1 : decode cX11_keepReport 1 = .ok (.getfield 22, 3) := by decide +kernel
theorem dX11_keepReport_4 : decode cX11_keepReport 4 = .ok (.invokevirtual 101, 3) := by decide +kernel
theorem dX11_keepReport_7 : decode cX11_keepReport 7 = .ok (.bipush 120, 2) := by decide +kernel
theorem dX11_keepReport_9 : decode cX11_keepReport 9 = .ok (.if_icmp .lt 9, 3) := by decide +kernel
theorem dX11_keepReport_12 : decode cX11_keepReport 12 = .ok (.aload_n 0, 1) := by decide +kernel
theorem dX11_keepReport_13 : decode cX11_keepReport 13 = .ok (.iconst 3, 1) := by decide +kernel
theorem dX11_keepReport_14 : decode cX11_keepReport 14 = .ok (.invokevirtual 97, 3) := by decide +kernel
theorem dX11_keepReport_17 : decode cX11_keepReport 17 = .ok (.ireturn, 1) := by decide +kernel
theorem dX11_keepReport_18 : decode cX11_keepReport 18 = .ok (.aload_n 0, 1) := by decide +kernel
theorem dX11_keepReport_19 : decode cX11_keepReport 19 = .ok (.getfield 22, 3) := by decide +kernel
theorem dX11_keepReport_22 : decode cX11_keepReport 22 = .ok (.aload_n 1, 1) := by decide +kernel
theorem dX11_keepReport_23 : decode cX11_keepReport 23 = .ok (.invokevirtual 110, 3) := by decide +kernel
theorem dX11_keepReport_26 : decode cX11_keepReport 26 = .ok (.pop, 1) := by decide +kernel
theorem dX11_keepReport_27 : decode cX11_keepReport 27 = .ok (.aload_n 0, 1) := by decide +kernel
theorem dX11_keepReport_28 : decode cX11_keepReport 28 = .ok (.aload_n 0, 1) := by decide +kernel
theorem dX11_keepReport_29 : decode cX11_keepReport 29 = .ok (.getfield 22, 3) := by decide +kernel
theorem dX11_keepReport_32 : decode cX11_keepReport 32 = .ok (.invokevirtual 101, 3) := by decide +kernel
theorem dX11_keepReport_35 : decode cX11_keepReport 35 = .ok (.iconst 1, 1) := by decide +kernel
theorem dX11_keepReport_36 : decode cX11_keepReport 36 = .ok (.isub, 1) := by decide +kernel
theorem dX11_keepReport_37 : decode cX11_keepReport 37 = .ok (.invokevirtual 114, 3) := by decide +kernel
theorem dX11_keepReport_40 : decode cX11_keepReport 40 = .ok (.ireturn, 1) := by decide +kernel
/-- LivesAhead.keepReport(LLivesAhead$Report;)I -/
def f_X11_keepReport (ka : Nat → Nat) (σ : TH) (p0 : Nat) (p1 : Option Nat) : Option (Int32 × TH) :=
  gt_ (kd_ σ p0 = 13) <| lt_ (fr_ σ 1203 p0) fun r1 => nn_ r1 fun a2 => gt_ (kd_ σ a2 = 1) <| bd_ (f_Jx4a65c_size_8abf5 σ a2) fun x3 s4 => if x3 < (120 : Int32) then (lt_ (fr_ s4 1203 p0) fun r5 => nn_ r5 fun a6 => gt_ (kd_ s4 a6 = 1) <| bd_ (f_Jx4a65c_add_9ea2d ka s4 a6 p1) fun x7 s8 => lt_ (fr_ s8 1203 p0) fun r9 => nn_ r9 fun a10 => gt_ (kd_ s8 a10 = 1) <| bd_ (f_Jx4a65c_size_8abf5 s8 a10) fun x11 s12 => bd_ (f_X11_granted s12 p0 (x11 - (1 : Int32))) fun x13 s14 => some (x13, s14)) else (bd_ (f_X11_refused s4 p0 (3 : Int32)) fun x15 s16 => some (x15, s16))
set_option maxHeartbeats 4000000 in
set_option maxRecDepth 100000 in
theorem c_X11_keepReport {l : Launch} {D : va_G} {cy : Nat → ClassId} {ka : Nat → Nat} {σ z : TH} {p0 : Nat} {p1 : Option Nat} {r : Int32} (hf : f_X11_keepReport ka σ p0 p1 = some (r, z)) : ct_ l D cy ka yX11_keepReport 7 191 [va_rf (some p0), va_rf p1] σ (some (.int r)) z := by
  unfold f_X11_keepReport at hf
  refine v_start (cc := cX11_keepReport) (own := RX11) (maxL := 2) (ret := (some FieldType.int)) (nm := "keepReport") (by decide +kernel) kw_1041 rfl rfl (by simp [lg_sl, va_rf_cat, cat_i, cat_l]) ?_
  refine v_eqL (L2 := [(0, va_rf (some p0)), (1, va_rf p1)]) (by simp [lv_args, va_rf_cat, cat_i, cat_l]) ?_
  refine v_aload_n (x := (some p0)) dX11_keepReport_0 rfl 0 rfl ?_
  obtain ⟨hk_p0, hf⟩ := gt_of hf
  refine v_getr cb_12 hk_p0 3 1203 rfl (by decide) rfl (lk_n kw_242 rfl) hf dX11_keepReport_1 (fun r1 hf => ?_)
  obtain ⟨a2, rfl, hf⟩ := nn_of hf
  obtain ⟨hk_a2, hf⟩ := gt_of hf
  obtain ⟨x3, s4, hcs4, hf⟩ := bd_of hf
  have hts4 := c_Jx4a65c_size_8abf5 (l := l) (D := D) (cy := cy) (ka := ka) hcs4
  refine v_callV cb_0 hk_a2 (As := []) (rest := []) hts4 yb_Jx4a65c_size_8abf5 kw_311 kw_312 kw_313 rfl ⟨Nat.le_of_ble_eq_true rfl, Nat.le_of_ble_eq_true rfl⟩ rfl (cat_len (Nat.le_of_ble_eq_true rfl)) dX11_keepReport_4 ?_
  have hk_p0 := tk_ hts4.1 hk_p0
  show v_ l D cy ka cX11_keepReport RX11 2 (some FieldType.int) "keepReport" 7 191 (qf_ D cy σ z (some (.int r))) σ z _ 7 [(0, va_rf (some p0)), (1, va_rf p1)] [.int x3]
  refine v_bipush (v := 120) dX11_keepReport_7 (by decide) ?_
  refine v_icmp_lt (tgt := 18) hf dX11_keepReport_9 (by decide) (fun hq hf => ?_) (fun hq hf => ?_)
  · refine v_aload_n (x := (some p0)) dX11_keepReport_18 rfl 0 rfl ?_
    refine v_getr cb_12 hk_p0 3 1203 rfl (by decide) rfl (lk_n kw_242 rfl) hf dX11_keepReport_19 (fun r5 hf => ?_)
    refine v_aload_n (x := p1) dX11_keepReport_22 rfl 1 rfl ?_
    obtain ⟨a6, rfl, hf⟩ := nn_of hf
    obtain ⟨hk_a6, hf⟩ := gt_of hf
    obtain ⟨x7, s8, hcs8, hf⟩ := bd_of hf
    have hts8 := c_Jx4a65c_add_9ea2d (l := l) (D := D) (cy := cy) (ka := ka) hcs8
    refine v_callV cb_0 hk_a6 (As := [va_rf p1]) (rest := []) hts8 yb_Jx4a65c_add_9ea2d kw_330 kw_331 kw_332 rfl ⟨Nat.le_of_ble_eq_true rfl, Nat.le_of_ble_eq_true rfl⟩ rfl (cat_len (Nat.le_of_ble_eq_true rfl)) dX11_keepReport_23 ?_
    have hk_p0 := tk_ hts8.1 hk_p0
    show v_ l D cy ka cX11_keepReport RX11 2 (some FieldType.int) "keepReport" 7 191 (qf_ D cy σ z (some (.int r))) σ z _ 26 [(0, va_rf (some p0)), (1, va_rf p1)] [.int x7]
    refine v_pop dX11_keepReport_26 rfl ?_
    refine v_aload_n (x := (some p0)) dX11_keepReport_27 rfl 0 rfl ?_
    refine v_aload_n (x := (some p0)) dX11_keepReport_28 rfl 0 rfl ?_
    refine v_getr cb_12 hk_p0 3 1203 rfl (by decide) rfl (lk_n kw_242 rfl) hf dX11_keepReport_29 (fun r9 hf => ?_)
    obtain ⟨a10, rfl, hf⟩ := nn_of hf
    obtain ⟨hk_a10, hf⟩ := gt_of hf
    obtain ⟨x11, s12, hcs12, hf⟩ := bd_of hf
    have hts12 := c_Jx4a65c_size_8abf5 (l := l) (D := D) (cy := cy) (ka := ka) hcs12
    refine v_callV cb_0 hk_a10 (As := []) (rest := [va_rf (some p0)]) hts12 yb_Jx4a65c_size_8abf5 kw_311 kw_312 kw_313 rfl ⟨Nat.le_of_ble_eq_true rfl, Nat.le_of_ble_eq_true rfl⟩ rfl (cat_len (Nat.le_of_ble_eq_true rfl)) dX11_keepReport_32 ?_
    have hk_p0 := tk_ hts12.1 hk_p0
    show v_ l D cy ka cX11_keepReport RX11 2 (some FieldType.int) "keepReport" 7 191 (qf_ D cy σ z (some (.int r))) σ z _ 35 [(0, va_rf (some p0)), (1, va_rf p1)] [.int x11, va_rf (some p0)]
    refine v_iconst (v := 1) dX11_keepReport_35 (by decide) ?_
    refine v_isub dX11_keepReport_36 ?_
    obtain ⟨x13, s14, hcs14, hf⟩ := bd_of hf
    have hts14 := c_X11_granted (l := l) (D := D) (cy := cy) (ka := ka) hcs14
    refine v_callV cb_12 hk_p0 (As := [.int (x11 - (1 : Int32))]) (rest := []) hts14 yb_X11_granted kw_395 kw_397 kp_4 rfl ⟨Nat.le_of_ble_eq_true rfl, Nat.le_of_ble_eq_true rfl⟩ rfl (cat_len (Nat.le_of_ble_eq_true rfl)) dX11_keepReport_37 ?_
    have hk_p0 := tk_ hts14.1 hk_p0
    show v_ l D cy ka cX11_keepReport RX11 2 (some FieldType.int) "keepReport" 7 191 (qf_ D cy σ z (some (.int r))) σ z _ 40 [(0, va_rf (some p0)), (1, va_rf p1)] [.int x13]
    exact v_iret hf dX11_keepReport_40
  · refine v_aload_n (x := (some p0)) dX11_keepReport_12 rfl 0 rfl ?_
    refine v_iconst (v := 3) dX11_keepReport_13 (by decide) ?_
    obtain ⟨x15, s16, hcs16, hf⟩ := bd_of hf
    have hts16 := c_X11_refused (l := l) (D := D) (cy := cy) (ka := ka) hcs16
    refine v_callV cb_12 hk_p0 (As := [.int (3 : Int32)]) (rest := []) hts16 yb_X11_refused kw_307 kw_309 kp_0 rfl ⟨Nat.le_of_ble_eq_true rfl, Nat.le_of_ble_eq_true rfl⟩ rfl (cat_len (Nat.le_of_ble_eq_true rfl)) dX11_keepReport_14 ?_
    have hk_p0 := tk_ hts16.1 hk_p0
    show v_ l D cy ka cX11_keepReport RX11 2 (some FieldType.int) "keepReport" 7 191 (qf_ D cy σ z (some (.int r))) σ z _ 17 [(0, va_rf (some p0)), (1, va_rf p1)] [.int x15]
    exact v_iret hf dX11_keepReport_17
theorem dX11_report_0 : decode cX11_report 0 = .ok (.aload_n 0, 1) := by decide +kernel
theorem dX11_report_1 : decode cX11_report 1 = .ok (.iload_n 1, 1) := by decide +kernel
theorem dX11_report_2 : decode cX11_report 2 = .ok (.invokevirtual 149, 3) := by decide +kernel
theorem dX11_report_5 : decode cX11_report 5 = .ok (.ifnonnull 9, 3) := by decide +kernel
theorem dX11_report_8 : decode cX11_report 8 = .ok (.aload_n 0, 1) := by decide +kernel
theorem dX11_report_9 : decode cX11_report 9 = .ok (.iconst 1, 1) := by decide +kernel
theorem dX11_report_10 : decode cX11_report 10 = .ok (.invokevirtual 97, 3) := by decide +kernel
theorem dX11_report_13 : decode cX11_report 13 = .ok (.ireturn, 1) := by decide +kernel
theorem dX11_report_14 : decode cX11_report 14 = .ok (.aload_n 0, 1) := by decide +kernel
theorem dX11_report_15 : decode cX11_report 15 = .ok (.iload_n 2, 1) := by decide +kernel
theorem dX11_report_16 : decode cX11_report 16 = .ok (.iload_n 3, 1) := by decide +kernel
theorem dX11_report_17 : decode cX11_report 17 = .ok (.invokevirtual 327, 3) := by decide +kernel
theorem dX11_report_20 : decode cX11_report 20 = .ok (.ifCond .ne 9, 3) := by decide +kernel
theorem dX11_report_23 : decode cX11_report 23 = .ok (.aload_n 0, 1) := by decide +kernel
theorem dX11_report_24 : decode cX11_report 24 = .ok (.iconst 2, 1) := by decide +kernel
theorem dX11_report_25 : decode cX11_report 25 = .ok (.invokevirtual 97, 3) := by decide +kernel
theorem dX11_report_28 : decode cX11_report 28 = .ok (.ireturn, 1) := by decide +kernel
theorem dX11_report_29 : decode cX11_report 29 = .ok (.aload_n 0, 1) := by decide +kernel
theorem dX11_report_30 : decode cX11_report 30 = .ok (.new 331, 3) := by decide +kernel
theorem dX11_report_33 : decode cX11_report 33 = .ok (.dup, 1) := by decide +kernel
theorem dX11_report_34 : decode cX11_report 34 = .ok (.iload_n 1, 1) := by decide +kernel
theorem dX11_report_35 : decode cX11_report 35 = .ok (.iconst (-1), 1) := by decide +kernel
theorem dX11_report_36 : decode cX11_report 36 = .ok (.iload_n 2, 1) := by decide +kernel
theorem dX11_report_37 : decode cX11_report 37 = .ok (.iload_n 3, 1) := by decide +kernel
theorem dX11_report_38 : decode cX11_report 38 = .ok (.aload_n 0, 1) := by decide +kernel
theorem dX11_report_39 : decode cX11_report 39 = .ok (.getfield 66, 3) := by decide +kernel
theorem dX11_report_42 : decode cX11_report 42 = .ok (.invokespecial 333, 3) := by decide +kernel
theorem dX11_report_45 : decode cX11_report 45 = .ok (.invokevirtual 334, 3) := by decide +kernel
theorem dX11_report_48 : decode cX11_report 48 = .ok (.ireturn, 1) := by decide +kernel
/-- LivesAhead.report(III)I -/
def f_X11_report (ka : Nat → Nat) (σ : TH) (p0 : Nat) (p1 : Int32) (p2 : Int32) (p3 : Int32) : Option (Int32 × TH) :=
  gt_ (kd_ σ p0 = 13) <| bd_ (f_X11_personAt σ p0 p1) fun r1 s2 => oc_ r1 (bd_ (f_X11_refused s2 p0 (1 : Int32)) fun x4 s5 => some (x4, s5)) (fun a3 => bd_ (f_X11_isHeard s2 p0 p2 p3) fun x6 s7 => if x6 = 0 then (bd_ (f_X11_refused s7 p0 (2 : Int32)) fun x8 s9 => some (x8, s9)) else (gt_ (kd_ s7 (nx_ s7) = 0) <| lt_ (nx_ s7) fun a10 => lt_ (nw_ s7 9 0 10) fun s11 => lt_ (fi_ s11 1213 p0) fun x12 => bd_ (f_X7_init s11 a10 p1 (-1 : Int32) p2 p3 x12) fun x13 s14 => bd_ (f_X11_keepReport ka s14 p0 (some a10)) fun x15 s16 => some (x15, s16)))
set_option maxHeartbeats 4000000 in
set_option maxRecDepth 100000 in
theorem c_X11_report {l : Launch} {D : va_G} {cy : Nat → ClassId} {ka : Nat → Nat} {σ z : TH} {p0 : Nat} {p1 : Int32} {p2 : Int32} {p3 : Int32} {r : Int32} (hf : f_X11_report ka σ p0 p1 p2 p3 = some (r, z)) : ct_ l D cy ka yX11_report 8 212 [va_rf (some p0), .int p1, .int p2, .int p3] σ (some (.int r)) z := by
  unfold f_X11_report at hf
  refine v_start (cc := cX11_report) (own := RX11) (maxL := 4) (ret := (some FieldType.int)) (nm := "report") (by decide +kernel) kw_991 rfl rfl (by simp [lg_sl, va_rf_cat, cat_i, cat_l]) ?_
  refine v_eqL (L2 := [(0, va_rf (some p0)), (1, .int p1), (2, .int p2), (3, .int p3)]) (by simp [lv_args, va_rf_cat, cat_i, cat_l]) ?_
  refine v_aload_n (x := (some p0)) dX11_report_0 rfl 0 rfl ?_
  refine v_iload_n (x := p1) dX11_report_1 rfl 1 rfl ?_
  obtain ⟨hk_p0, hf⟩ := gt_of hf
  obtain ⟨r1, s2, hcs2, hf⟩ := bd_of hf
  have hts2 := c_X11_personAt (l := l) (D := D) (cy := cy) (ka := ka) hcs2
  refine v_callV cb_12 hk_p0 (As := [.int p1]) (rest := []) hts2 yb_X11_personAt kw_526 kw_528 kp_11 rfl ⟨Nat.le_of_ble_eq_true rfl, Nat.le_of_ble_eq_true rfl⟩ rfl (cat_len (Nat.le_of_ble_eq_true rfl)) dX11_report_2 ?_
  have hk_p0 := tk_ hts2.1 hk_p0
  show v_ l D cy ka cX11_report RX11 4 (some FieldType.int) "report" 8 212 (qf_ D cy σ z (some (.int r))) σ z _ 5 [(0, va_rf (some p0)), (1, .int p1), (2, .int p2), (3, .int p3)] [va_rf r1]
  refine v_ifnonnull2 (tgt := 14) hf dX11_report_5 (by decide) (fun e9 hf9 => ?_) (fun a3 e9 hf9 => ?_)
  · subst e9
    replace hf := hf9
    clear hf9
    refine v_aload_n (x := (some p0)) dX11_report_8 rfl 0 rfl ?_
    refine v_iconst (v := 1) dX11_report_9 (by decide) ?_
    obtain ⟨x4, s5, hcs5, hf⟩ := bd_of hf
    have hts5 := c_X11_refused (l := l) (D := D) (cy := cy) (ka := ka) hcs5
    refine v_callV cb_12 hk_p0 (As := [.int (1 : Int32)]) (rest := []) hts5 yb_X11_refused kw_307 kw_309 kp_0 rfl ⟨Nat.le_of_ble_eq_true rfl, Nat.le_of_ble_eq_true rfl⟩ rfl (cat_len (Nat.le_of_ble_eq_true rfl)) dX11_report_10 ?_
    have hk_p0 := tk_ hts5.1 hk_p0
    show v_ l D cy ka cX11_report RX11 4 (some FieldType.int) "report" 8 212 (qf_ D cy σ z (some (.int r))) σ z _ 13 [(0, va_rf (some p0)), (1, .int p1), (2, .int p2), (3, .int p3)] [.int x4]
    exact v_iret hf dX11_report_13
  · subst e9
    replace hf := hf9
    clear hf9
    refine v_aload_n (x := (some p0)) dX11_report_14 rfl 0 rfl ?_
    refine v_iload_n (x := p2) dX11_report_15 rfl 2 rfl ?_
    refine v_iload_n (x := p3) dX11_report_16 rfl 3 rfl ?_
    obtain ⟨x6, s7, hcs7, hf⟩ := bd_of hf
    have hts7 := c_X11_isHeard (l := l) (D := D) (cy := cy) (ka := ka) hcs7
    refine v_callV cb_12 hk_p0 (As := [.int p2, .int p3]) (rest := []) hts7 yb_X11_isHeard kw_992 kw_994 kp_57 rfl ⟨Nat.le_of_ble_eq_true rfl, Nat.le_of_ble_eq_true rfl⟩ rfl (cat_len (Nat.le_of_ble_eq_true rfl)) dX11_report_17 ?_
    have hk_p0 := tk_ hts7.1 hk_p0
    show v_ l D cy ka cX11_report RX11 4 (some FieldType.int) "report" 8 212 (qf_ D cy σ z (some (.int r))) σ z _ 20 [(0, va_rf (some p0)), (1, .int p1), (2, .int p2), (3, .int p3)] [.int x6]
    refine v_if_ne (tgt := 29) hf dX11_report_20 (by decide) (fun hq hf => ?_) (fun hq hf => ?_)
    · refine v_aload_n (x := (some p0)) dX11_report_23 rfl 0 rfl ?_
      refine v_iconst (v := 2) dX11_report_24 (by decide) ?_
      obtain ⟨x8, s9, hcs9, hf⟩ := bd_of hf
      have hts9 := c_X11_refused (l := l) (D := D) (cy := cy) (ka := ka) hcs9
      refine v_callV cb_12 hk_p0 (As := [.int (2 : Int32)]) (rest := []) hts9 yb_X11_refused kw_307 kw_309 kp_0 rfl ⟨Nat.le_of_ble_eq_true rfl, Nat.le_of_ble_eq_true rfl⟩ rfl (cat_len (Nat.le_of_ble_eq_true rfl)) dX11_report_25 ?_
      have hk_p0 := tk_ hts9.1 hk_p0
      show v_ l D cy ka cX11_report RX11 4 (some FieldType.int) "report" 8 212 (qf_ D cy σ z (some (.int r))) σ z _ 28 [(0, va_rf (some p0)), (1, .int p1), (2, .int p2), (3, .int p3)] [.int x8]
      exact v_iret hf dX11_report_28
    · refine v_aload_n (x := (some p0)) dX11_report_29 rfl 0 rfl ?_
      refine v_new2 cb_8 df_8 kw_996 kw_997 kw_29 9 rfl hf dX11_report_30 (fun a10 s11 hts11 hk_a10 hf => ?_)
      have hk_p0 := tk_ hts11 hk_p0
      refine v_dup dX11_report_33 (va_rf_cat _) ?_
      refine v_iload_n (x := p1) dX11_report_34 rfl 1 rfl ?_
      refine v_iconst (v := (-1)) dX11_report_35 (by decide) ?_
      refine v_iload_n (x := p2) dX11_report_36 rfl 2 rfl ?_
      refine v_iload_n (x := p3) dX11_report_37 rfl 3 rfl ?_
      refine v_aload_n (x := (some p0)) dX11_report_38 rfl 0 rfl ?_
      refine v_geti cb_12 hk_p0 13 1213 rfl (by decide) rfl (lk_n kw_252 rfl) hf dX11_report_39 (fun x12 hf => ?_)
      obtain ⟨x13, s14, hcs14, hf⟩ := bd_of hf
      have hts14 := c_X7_init (l := l) (D := D) (cy := cy) (ka := ka) hcs14
      refine v_callI (As := [.int p1, .int (-1 : Int32), .int p2, .int p3, .int x12]) (rest := [va_rf (some a10), va_rf (some p0)]) hts14 yb_X7_init kw_998 kw_999 rfl rfl ⟨Nat.le_of_ble_eq_true rfl, Nat.le_of_ble_eq_true rfl⟩ rfl (cat_len (Nat.le_of_ble_eq_true rfl)) dX11_report_42 ?_
      have hk_p0 := tk_ hts14.1 hk_p0
      have hk_a10 := tk_ hts14.1 hk_a10
      show v_ l D cy ka cX11_report RX11 4 (some FieldType.int) "report" 8 212 (qf_ D cy σ z (some (.int r))) σ z _ 45 [(0, va_rf (some p0)), (1, .int p1), (2, .int p2), (3, .int p3)] [va_rf (some a10), va_rf (some p0)]
      obtain ⟨x15, s16, hcs16, hf⟩ := bd_of hf
      have hts16 := c_X11_keepReport (l := l) (D := D) (cy := cy) (ka := ka) hcs16
      refine v_callV cb_12 hk_p0 (As := [va_rf (some a10)]) (rest := []) hts16 yb_X11_keepReport kw_1038 kw_1040 kp_58 rfl ⟨Nat.le_of_ble_eq_true rfl, Nat.le_of_ble_eq_true rfl⟩ rfl (cat_len (Nat.le_of_ble_eq_true rfl)) dX11_report_45 ?_
      have hk_p0 := tk_ hts16.1 hk_p0
      show v_ l D cy ka cX11_report RX11 4 (some FieldType.int) "report" 8 212 (qf_ D cy σ z (some (.int r))) σ z _ 48 [(0, va_rf (some p0)), (1, .int p1), (2, .int p2), (3, .int p3)] [.int x15]
      exact v_iret hf dX11_report_48
theorem dX11_rewrite_0 : decode cX11_rewrite 0 = .ok (.aload_n 0, 1) := by decide +kernel
theorem dX11_rewrite_1 : decode cX11_rewrite 1 = .ok (.iload_n 1, 1) := by decide +kernel
theorem dX11_rewrite_2 : decode cX11_rewrite 2 = .ok (.invokevirtual 149, 3) := by decide +kernel
theorem dX11_rewrite_5 : decode cX11_rewrite 5 = .ok (.astore 4, 2) := by decide +kernel
theorem dX11_rewrite_7 : decode cX11_rewrite 7 = .ok (.aload 4, 2) := by decide +kernel
theorem dX11_rewrite_9 : decode cX11_rewrite 9 = .ok (.iload_n 2, 1) := by decide +kernel
theorem dX11_rewrite_10 : decode cX11_rewrite 10 = .ok (.invokestatic 268, 3) := by decide +kernel
theorem dX11_rewrite_13 : decode cX11_rewrite 13 = .ok (.ifnonnull 9, 3) := by decide +kernel
theorem dX11_rewrite_16 : decode cX11_rewrite 16 = .ok (.aload_n 0, 1) := by decide +kernel
theorem dX11_rewrite_17 : decode cX11_rewrite 17 = .ok (.iconst 1, 1) := by decide +kernel
theorem dX11_rewrite_18 : decode cX11_rewrite 18 = .ok (.invokevirtual 121, 3) := by decide +kernel
theorem dX11_rewrite_21 : decode cX11_rewrite 21 = .ok (.ireturn, 1) := by decide +kernel
theorem dX11_rewrite_22 : decode cX11_rewrite 22 = .ok (.aload_n 0, 1) := by decide +kernel
theorem dX11_rewrite_23 : decode cX11_rewrite 23 = .ok (.getfield 41, 3) := by decide +kernel
theorem dX11_rewrite_26 : decode cX11_rewrite 26 = .ok (.iload_n 3, 1) := by decide +kernel
theorem dX11_rewrite_27 : decode cX11_rewrite 27 = .ok (.invokevirtual 251, 3) := by decide +kernel
theorem dX11_rewrite_30 : decode cX11_rewrite 30 = .ok (.ifCond .ne 9, 3) := by decide +kernel
theorem dX11_rewrite_33 : decode cX11_rewrite 33 = .ok (.aload_n 0, 1) := by decide +kernel
theorem dX11_rewrite_34 : decode cX11_rewrite 34 = .ok (.iconst 2, 1) := by decide +kernel
theorem dX11_rewrite_35 : decode cX11_rewrite 35 = .ok (.invokevirtual 121, 3) := by decide +kernel
theorem dX11_rewrite_38 : decode cX11_rewrite 38 = .ok (.ireturn, 1) := by decide +kernel
theorem dX11_rewrite_39 : decode cX11_rewrite 39 = .ok (.aload_n 0, 1) := by decide +kernel
theorem dX11_rewrite_40 : decode cX11_rewrite 40 = .ok (.getfield 41, 3) := by decide +kernel
theorem dX11_rewrite_43 : decode cX11_rewrite 43 = .ok (.iload_n 3, 1) := by decide +kernel
theorem dX11_rewrite_44 : decode cX11_rewrite 44 = .ok (.iconst 0, 1) := by decide +kernel
theorem dX11_rewrite_45 : decode cX11_rewrite 45 = .ok (.invokevirtual 254, 3) := by decide +kernel
theorem dX11_rewrite_48 : decode cX11_rewrite 48 = .ok (.astore 5, 2) := by decide +kernel
theorem dX11_rewrite_50 : decode cX11_rewrite 50 = .ok (.aload 5, 2) := by decide +kernel
theorem dX11_rewrite_52 : decode cX11_rewrite 52 = .ok (.ifnonnull 9, 3) := by decide +kernel
theorem dX11_rewrite_55 : decode cX11_rewrite 55 = .ok (.aload_n 0, 1) := by decide +kernel
theorem dX11_rewrite_56 : decode cX11_rewrite 56 = .ok (.iconst 4, 1) := by decide +kernel
theorem dX11_rewrite_57 : decode cX11_rewrite 57 = .ok (.invokevirtual 121, 3) := by decide +kernel
theorem dX11_rewrite_60 : decode cX11_rewrite 60 = .ok (.ireturn, 1) := by decide +kernel
theorem dX11_rewrite_61 : decode cX11_rewrite 61 = .ok (.aload 4, 2) := by decide +kernel
theorem dX11_rewrite_63 : decode cX11_rewrite 63 = .ok (.getfield 258, 3) := by decide +kernel
theorem dX11_rewrite_66 : decode cX11_rewrite 66 = .ok (.iload_n 2, 1) := by decide +kernel
theorem dX11_rewrite_67 : decode cX11_rewrite 67 = .ok (.aload 5, 2) := by decide +kernel
theorem dX11_rewrite_69 : decode cX11_rewrite 69 = .ok (.aastore, 1) := by decide +kernel
theorem dX11_rewrite_70 : decode cX11_rewrite 70 = .ok (.aload_n 0, 1) := by decide +kernel
theorem dX11_rewrite_71 : decode cX11_rewrite 71 = .ok (.invokevirtual 128, 3) := by decide +kernel
theorem dX11_rewrite_74 : decode cX11_rewrite 74 = .ok (.ireturn, 1) := by decide +kernel
/-- LivesAhead.rewrite(III)Z -/
def f_X11_rewrite (σ : TH) (p0 : Nat) (p1 : Int32) (p2 : Int32) (p3 : Int32) : Option (Int32 × TH) :=
  gt_ (kd_ σ p0 = 13) <| bd_ (f_X11_personAt σ p0 p1) fun r1 s2 => bd_ (f_X11_textAt s2 r1 p2) fun r3 s4 => oc_ r3 (bd_ (f_X11_denied s4 p0 (1 : Int32)) fun x6 s7 => gt_ (x6 = 0 ∨ x6 = 1) <| some (x6, s7)) (fun a5 => lt_ (fr_ s4 1208 p0) fun r8 => nn_ r8 fun a9 => gt_ (kd_ s4 a9 = 8) <| bd_ (f_X6_holds s4 a9 p3) fun x10 s11 => if x10 = 0 then (bd_ (f_X11_denied s11 p0 (2 : Int32)) fun x12 s13 => gt_ (x12 = 0 ∨ x12 = 1) <| some (x12, s13)) else (lt_ (fr_ s11 1208 p0) fun r14 => nn_ r14 fun a15 => gt_ (kd_ s11 a15 = 8) <| bd_ (f_X6_read s11 a15 p3 (0 : Int32)) fun r16 s17 => oc_ r16 (bd_ (f_X11_denied s17 p0 (4 : Int32)) fun x19 s20 => gt_ (x19 = 0 ∨ x19 = 1) <| some (x19, s20)) (fun a18 => nn_ r1 fun a21 => gt_ (kd_ s17 a21 = 4) <| lt_ (fr_ s17 310 a21) fun r22 => nn_ r22 fun a23 => gt_ (kd_ s17 a23 = 26) <| gt_ (kd_ s17 a18 = 11) <| gt_ (¬ (p2 < 0 ∨ ln_ s17 a23 ≤ p2.toNatClampNeg)) <| lt_ (sq_ s17 a23 p2.toNatClampNeg (some a18)) fun s24 => bd_ (f_X11_allowed s24 p0) fun x25 s26 => gt_ (x25 = 0 ∨ x25 = 1) <| some (x25, s26))))
set_option maxHeartbeats 4000000 in
set_option maxRecDepth 100000 in
theorem c_X11_rewrite {l : Launch} {D : va_G} {cy : Nat → ClassId} {ka : Nat → Nat} {σ z : TH} {p0 : Nat} {p1 : Int32} {p2 : Int32} {p3 : Int32} {r : Int32} (hf : f_X11_rewrite σ p0 p1 p2 p3 = some (r, z)) : ct_ l D cy ka yX11_rewrite 9 199 [va_rf (some p0), .int p1, .int p2, .int p3] σ (some (.int r)) z := by
  unfold f_X11_rewrite at hf
  refine v_start (cc := cX11_rewrite) (own := RX11) (maxL := 6) (ret := (some FieldType.boolean)) (nm := "rewrite") (by decide +kernel) kw_883 rfl rfl (by simp [lg_sl, va_rf_cat, cat_i, cat_l]) ?_
  refine v_eqL (L2 := [(0, va_rf (some p0)), (1, .int p1), (2, .int p2), (3, .int p3)]) (by simp [lv_args, va_rf_cat, cat_i, cat_l]) ?_
  refine v_aload_n (x := (some p0)) dX11_rewrite_0 rfl 0 rfl ?_
  refine v_iload_n (x := p1) dX11_rewrite_1 rfl 1 rfl ?_
  obtain ⟨hk_p0, hf⟩ := gt_of hf
  obtain ⟨r1, s2, hcs2, hf⟩ := bd_of hf
  have hts2 := c_X11_personAt (l := l) (D := D) (cy := cy) (ka := ka) hcs2
  refine v_callV cb_12 hk_p0 (As := [.int p1]) (rest := []) hts2 yb_X11_personAt kw_526 kw_528 kp_11 rfl ⟨Nat.le_of_ble_eq_true rfl, Nat.le_of_ble_eq_true rfl⟩ rfl (cat_len (Nat.le_of_ble_eq_true rfl)) dX11_rewrite_2 ?_
  have hk_p0 := tk_ hts2.1 hk_p0
  show v_ l D cy ka cX11_rewrite RX11 6 (some FieldType.boolean) "rewrite" 9 199 (qf_ D cy σ z (some (.int r))) σ z _ 5 [(0, va_rf (some p0)), (1, .int p1), (2, .int p2), (3, .int p3)] [va_rf r1]
  refine v_astore [(4, va_rf r1), (0, va_rf (some p0)), (1, .int p1), (2, .int p2), (3, .int p3)] dX11_rewrite_5 (by decide) rfl ?_
  refine v_aload (x := r1) dX11_rewrite_7 0 rfl ?_
  refine v_iload_n (x := p2) dX11_rewrite_9 rfl 3 rfl ?_
  obtain ⟨r3, s4, hcs4, hf⟩ := bd_of hf
  have hts4 := c_X11_textAt (l := l) (D := D) (cy := cy) (ka := ka) hcs4
  refine v_callS (As := [va_rf r1, .int p2]) (rest := []) hts4 yb_X11_textAt kw_884 kw_885 rfl ⟨Nat.le_of_ble_eq_true rfl, Nat.le_of_ble_eq_true rfl⟩ rfl (cat_len (Nat.le_of_ble_eq_true rfl)) dX11_rewrite_10 ?_
  have hk_p0 := tk_ hts4.1 hk_p0
  show v_ l D cy ka cX11_rewrite RX11 6 (some FieldType.boolean) "rewrite" 9 199 (qf_ D cy σ z (some (.int r))) σ z _ 13 [(4, va_rf r1), (0, va_rf (some p0)), (1, .int p1), (2, .int p2), (3, .int p3)] [va_rf r3]
  refine v_ifnonnull2 (tgt := 22) hf dX11_rewrite_13 (by decide) (fun e9 hf9 => ?_) (fun a5 e9 hf9 => ?_)
  · subst e9
    replace hf := hf9
    clear hf9
    refine v_aload_n (x := (some p0)) dX11_rewrite_16 rfl 1 rfl ?_
    refine v_iconst (v := 1) dX11_rewrite_17 (by decide) ?_
    obtain ⟨x6, s7, hcs7, hf⟩ := bd_of hf
    have hts7 := c_X11_denied (l := l) (D := D) (cy := cy) (ka := ka) hcs7
    refine v_callV cb_12 hk_p0 (As := [.int (1 : Int32)]) (rest := []) hts7 yb_X11_denied kw_421 kw_423 kp_6 rfl ⟨Nat.le_of_ble_eq_true rfl, Nat.le_of_ble_eq_true rfl⟩ rfl (cat_len (Nat.le_of_ble_eq_true rfl)) dX11_rewrite_18 ?_
    have hk_p0 := tk_ hts7.1 hk_p0
    show v_ l D cy ka cX11_rewrite RX11 6 (some FieldType.boolean) "rewrite" 9 199 (qf_ D cy σ z (some (.int r))) σ z _ 21 [(4, va_rf r1), (0, va_rf (some p0)), (1, .int p1), (2, .int p2), (3, .int p3)] [.int x6]
    obtain ⟨hb9, hf⟩ := gt_of hf
    exact v_zret hf (nz_ hb9) dX11_rewrite_21
  · subst e9
    replace hf := hf9
    clear hf9
    refine v_aload_n (x := (some p0)) dX11_rewrite_22 rfl 1 rfl ?_
    refine v_getr cb_12 hk_p0 8 1208 rfl (by decide) rfl (lk_n kw_247 rfl) hf dX11_rewrite_23 (fun r8 hf => ?_)
    refine v_iload_n (x := p3) dX11_rewrite_26 rfl 4 rfl ?_
    obtain ⟨a9, rfl, hf⟩ := nn_of hf
    obtain ⟨hk_a9, hf⟩ := gt_of hf
    obtain ⟨x10, s11, hcs11, hf⟩ := bd_of hf
    have hts11 := c_X6_holds (l := l) (D := D) (cy := cy) (ka := ka) hcs11
    refine v_callV cb_7 hk_a9 (As := [.int p3]) (rest := []) hts11 yb_X6_holds kw_655 kw_656 kw_657 rfl ⟨Nat.le_of_ble_eq_true rfl, Nat.le_of_ble_eq_true rfl⟩ rfl (cat_len (Nat.le_of_ble_eq_true rfl)) dX11_rewrite_27 ?_
    have hk_p0 := tk_ hts11.1 hk_p0
    show v_ l D cy ka cX11_rewrite RX11 6 (some FieldType.boolean) "rewrite" 9 199 (qf_ D cy σ z (some (.int r))) σ z _ 30 [(4, va_rf r1), (0, va_rf (some p0)), (1, .int p1), (2, .int p2), (3, .int p3)] [.int x10]
    refine v_if_ne (tgt := 39) hf dX11_rewrite_30 (by decide) (fun hq hf => ?_) (fun hq hf => ?_)
    · refine v_aload_n (x := (some p0)) dX11_rewrite_33 rfl 1 rfl ?_
      refine v_iconst (v := 2) dX11_rewrite_34 (by decide) ?_
      obtain ⟨x12, s13, hcs13, hf⟩ := bd_of hf
      have hts13 := c_X11_denied (l := l) (D := D) (cy := cy) (ka := ka) hcs13
      refine v_callV cb_12 hk_p0 (As := [.int (2 : Int32)]) (rest := []) hts13 yb_X11_denied kw_421 kw_423 kp_6 rfl ⟨Nat.le_of_ble_eq_true rfl, Nat.le_of_ble_eq_true rfl⟩ rfl (cat_len (Nat.le_of_ble_eq_true rfl)) dX11_rewrite_35 ?_
      have hk_p0 := tk_ hts13.1 hk_p0
      show v_ l D cy ka cX11_rewrite RX11 6 (some FieldType.boolean) "rewrite" 9 199 (qf_ D cy σ z (some (.int r))) σ z _ 38 [(4, va_rf r1), (0, va_rf (some p0)), (1, .int p1), (2, .int p2), (3, .int p3)] [.int x12]
      obtain ⟨hb9, hf⟩ := gt_of hf
      exact v_zret hf (nz_ hb9) dX11_rewrite_38
    · refine v_aload_n (x := (some p0)) dX11_rewrite_39 rfl 1 rfl ?_
      refine v_getr cb_12 hk_p0 8 1208 rfl (by decide) rfl (lk_n kw_247 rfl) hf dX11_rewrite_40 (fun r14 hf => ?_)
      refine v_iload_n (x := p3) dX11_rewrite_43 rfl 4 rfl ?_
      refine v_iconst (v := 0) dX11_rewrite_44 (by decide) ?_
      obtain ⟨a15, rfl, hf⟩ := nn_of hf
      obtain ⟨hk_a15, hf⟩ := gt_of hf
      obtain ⟨r16, s17, hcs17, hf⟩ := bd_of hf
      have hts17 := c_X6_read (l := l) (D := D) (cy := cy) (ka := ka) hcs17
      refine v_callV cb_7 hk_a15 (As := [.int p3, .int (0 : Int32)]) (rest := []) hts17 yb_X6_read kw_660 kw_661 kw_662 rfl ⟨Nat.le_of_ble_eq_true rfl, Nat.le_of_ble_eq_true rfl⟩ rfl (cat_len (Nat.le_of_ble_eq_true rfl)) dX11_rewrite_45 ?_
      have hk_p0 := tk_ hts17.1 hk_p0
      show v_ l D cy ka cX11_rewrite RX11 6 (some FieldType.boolean) "rewrite" 9 199 (qf_ D cy σ z (some (.int r))) σ z _ 48 [(4, va_rf r1), (0, va_rf (some p0)), (1, .int p1), (2, .int p2), (3, .int p3)] [va_rf r16]
      refine v_astore [(5, va_rf r16), (4, va_rf r1), (0, va_rf (some p0)), (1, .int p1), (2, .int p2), (3, .int p3)] dX11_rewrite_48 (by decide) (by simp [va_rf_cat, cat_i, cat_l]) ?_
      refine v_aload (x := r16) dX11_rewrite_50 0 rfl ?_
      refine v_ifnonnull2 (tgt := 61) hf dX11_rewrite_52 (by decide) (fun e9 hf9 => ?_) (fun a18 e9 hf9 => ?_)
      · subst e9
        replace hf := hf9
        clear hf9
        refine v_aload_n (x := (some p0)) dX11_rewrite_55 rfl 2 rfl ?_
        refine v_iconst (v := 4) dX11_rewrite_56 (by decide) ?_
        obtain ⟨x19, s20, hcs20, hf⟩ := bd_of hf
        have hts20 := c_X11_denied (l := l) (D := D) (cy := cy) (ka := ka) hcs20
        refine v_callV cb_12 hk_p0 (As := [.int (4 : Int32)]) (rest := []) hts20 yb_X11_denied kw_421 kw_423 kp_6 rfl ⟨Nat.le_of_ble_eq_true rfl, Nat.le_of_ble_eq_true rfl⟩ rfl (cat_len (Nat.le_of_ble_eq_true rfl)) dX11_rewrite_57 ?_
        have hk_p0 := tk_ hts20.1 hk_p0
        show v_ l D cy ka cX11_rewrite RX11 6 (some FieldType.boolean) "rewrite" 9 199 (qf_ D cy σ z (some (.int r))) σ z _ 60 [(5, va_rf none), (4, va_rf r1), (0, va_rf (some p0)), (1, .int p1), (2, .int p2), (3, .int p3)] [.int x19]
        obtain ⟨hb9, hf⟩ := gt_of hf
        exact v_zret hf (nz_ hb9) dX11_rewrite_60
      · subst e9
        replace hf := hf9
        clear hf9
        refine v_aload (x := r1) dX11_rewrite_61 1 rfl ?_
        obtain ⟨a21, rfl, hf⟩ := nn_of hf
        obtain ⟨hk_a21, hf⟩ := gt_of hf
        refine v_getr cb_3 hk_a21 10 310 rfl (by decide) rfl (lk_n kw_486 rfl) hf dX11_rewrite_63 (fun r22 hf => ?_)
        refine v_iload_n (x := p2) dX11_rewrite_66 rfl 4 rfl ?_
        refine v_aload (x := (some a18)) dX11_rewrite_67 0 rfl ?_
        obtain ⟨a23, rfl, hf⟩ := nn_of hf
        obtain ⟨hk_a23, hf⟩ := gt_of hf
        obtain ⟨hk_a18, hf⟩ := gt_of hf
        refine v_aast2 cb_10 hk_a18 25 6 RX9 hk_a23 (by decide) rfl (Or.inl rfl) hf dX11_rewrite_69 (fun s24 hts24 hf => ?_)
        have hk_p0 := tk_ hts24 hk_p0
        have hk_a21 := tk_ hts24 hk_a21
        have hk_a18 := tk_ hts24 hk_a18
        refine v_aload_n (x := (some p0)) dX11_rewrite_70 rfl 2 rfl ?_
        obtain ⟨x25, s26, hcs26, hf⟩ := bd_of hf
        have hts26 := c_X11_allowed (l := l) (D := D) (cy := cy) (ka := ka) hcs26
        refine v_callV cb_12 hk_p0 (As := []) (rest := []) hts26 yb_X11_allowed kw_425 kw_427 kp_7 rfl ⟨Nat.le_of_ble_eq_true rfl, Nat.le_of_ble_eq_true rfl⟩ rfl (cat_len (Nat.le_of_ble_eq_true rfl)) dX11_rewrite_71 ?_
        have hk_p0 := tk_ hts26.1 hk_p0
        have hk_a21 := tk_ hts26.1 hk_a21
        have hk_a18 := tk_ hts26.1 hk_a18
        show v_ l D cy ka cX11_rewrite RX11 6 (some FieldType.boolean) "rewrite" 9 199 (qf_ D cy σ z (some (.int r))) σ z _ 74 [(5, va_rf (some a18)), (4, va_rf (some a21)), (0, va_rf (some p0)), (1, .int p1), (2, .int p2), (3, .int p3)] [.int x25]
        obtain ⟨hb9, hf⟩ := gt_of hf
        exact v_zret hf (nz_ hb9) dX11_rewrite_74
theorem dX11_rule_0 : decode cX11_rule 0 = .ok (.aload_n 0, 1) := by decide +kernel
theorem dX11_rule_1 : decode cX11_rule 1 = .ok (.getfield 41, 3) := by decide +kernel
theorem dX11_rule_4 : decode cX11_rule 4 = .ok (.iload_n 1, 1) := by decide +kernel
theorem dX11_rule_5 : decode cX11_rule 5 = .ok (.invokevirtual 251, 3) := by decide +kernel
theorem dX11_rule_8 : decode cX11_rule 8 = .ok (.ifCond .ne 9, 3) := by decide +kernel
theorem dX11_rule_11 : decode cX11_rule 11 = .ok (.aload_n 0, 1) := by decide +kernel
theorem dX11_rule_12 : decode cX11_rule 12 = .ok (.iconst 2, 1) := by decide +kernel
theorem dX11_rule_13 : decode cX11_rule 13 = .ok (.invokevirtual 97, 3) := by decide +kernel
theorem dX11_rule_16 : decode cX11_rule 16 = .ok (.ireturn, 1) := by decide +kernel
theorem dX11_rule_17 : decode cX11_rule 17 = .ok (.aload_n 0, 1) := by decide +kernel
theorem dX11_rule_18 : decode cX11_rule 18 = .ok (.getfield 41, 3) := by decide +kernel
theorem dX11_rule_21 : decode cX11_rule 21 = .ok (.iload_n 1, 1) := by decide +kernel
theorem dX11_rule_22 : decode cX11_rule 22 = .ok (.iconst 1, 1) := by decide +kernel
theorem dX11_rule_23 : decode cX11_rule 23 = .ok (.invokevirtual 254, 3) := by decide +kernel
theorem dX11_rule_26 : decode cX11_rule 26 = .ok (.astore_n 2, 1) := by decide +kernel
theorem dX11_rule_27 : decode cX11_rule 27 = .ok (.aload_n 2, 1) := by decide +kernel
theorem dX11_rule_28 : decode cX11_rule 28 = .ok (.ifnonnull 9, 3) := by decide +kernel
theorem dX11_rule_31 : decode cX11_rule 31 = .ok (.aload_n 0, 1) := by decide +kernel
theorem dX11_rule_32 : decode cX11_rule 32 = .ok (.iconst 4, 1) := by decide +kernel
theorem dX11_rule_33 : decode cX11_rule 33 = .ok (.invokevirtual 97, 3) := by decide +kernel
theorem dX11_rule_36 : decode cX11_rule 36 = .ok (.ireturn, 1) := by decide +kernel
theorem dX11_rule_37 : decode cX11_rule 37 = .ok (.aload_n 0, 1) := by decide +kernel
theorem dX11_rule_38 : decode cX11_rule 38 = .ok (.getfield 19, 3) := by decide +kernel
theorem dX11_rule_41 : decode cX11_rule 41 = .ok (.invokevirtual 101, 3) := by decide +kernel
theorem dX11_rule_44 : decode cX11_rule 44 = .ok (.bipush 12, 2) := by decide +kernel
theorem dX11_rule_46 : decode cX11_rule 46 = .ok (.if_icmp .lt 9, 3) := by decide +kernel
theorem dX11_rule_49 : decode cX11_rule 49 = .ok (.aload_n 0, 1) := by decide +kernel
theorem dX11_rule_50 : decode cX11_rule 50 = .ok (.iconst 3, 1) := by decide +kernel
theorem dX11_rule_51 : decode cX11_rule 51 = .ok (.invokevirtual 97, 3) := by decide +kernel
theorem dX11_rule_54 : decode cX11_rule 54 = .ok (.ireturn, 1) := by decide +kernel
theorem dX11_rule_55 : decode cX11_rule 55 = .ok (.aload_n 0, 1) := by decide +kernel
theorem dX11_rule_56 : decode cX11_rule 56 = .ok (.getfield 19, 3) := by decide +kernel
theorem dX11_rule_59 : decode cX11_rule 59 = .ok (.aload_n 2, 1) := by decide +kernel
theorem dX11_rule_60 : decode cX11_rule 60 = .ok (.invokevirtual 110, 3) := by decide +kernel
theorem dX11_rule_63 : decode cX11_rule 63 = .ok (.pop, 1) := by decide +kernel
theorem dX11_rule_64 : decode cX11_rule 64 = .ok (.aload_n 0, 1) := by decide +kernel
theorem dX11_rule_65 : decode cX11_rule 65 = .ok (.aload_n 0, 1) := by decide +kernel
theorem dX11_rule_66 : decode cX11_rule 66 = .ok (.getfield 19, 3) := by decide +kernel
theorem dX11_rule_69 : decode cX11_rule 69 = .ok (.invokevirtual 101, 3) := by decide +kernel
theorem dX11_rule_72 : decode cX11_rule 72 = .ok (.invokevirtual 114, 3) := by decide +kernel
theorem dX11_rule_75 : decode cX11_rule 75 = .ok (.ireturn, 1) := by decide +kernel
/-- LivesAhead.rule(I)I -/
def f_X11_rule (ka : Nat → Nat) (σ : TH) (p0 : Nat) (p1 : Int32) : Option (Int32 × TH) :=
  gt_ (kd_ σ p0 = 13) <| lt_ (fr_ σ 1208 p0) fun r1 => nn_ r1 fun a2 => gt_ (kd_ σ a2 = 8) <| bd_ (f_X6_holds σ a2 p1) fun x3 s4 => if x3 = 0 then (bd_ (f_X11_refused s4 p0 (2 : Int32)) fun x5 s6 => some (x5, s6)) else (lt_ (fr_ s4 1208 p0) fun r7 => nn_ r7 fun a8 => gt_ (kd_ s4 a8 = 8) <| bd_ (f_X6_read s4 a8 p1 (1 : Int32)) fun r9 s10 => oc_ r9 (bd_ (f_X11_refused s10 p0 (4 : Int32)) fun x12 s13 => some (x12, s13)) (fun a11 => lt_ (fr_ s10 1202 p0) fun r14 => nn_ r14 fun a15 => gt_ (kd_ s10 a15 = 1) <| bd_ (f_Jx4a65c_size_8abf5 s10 a15) fun x16 s17 => if x16 < (12 : Int32) then (lt_ (fr_ s17 1202 p0) fun r18 => nn_ r18 fun a19 => gt_ (kd_ s17 a19 = 1) <| bd_ (f_Jx4a65c_add_9ea2d ka s17 a19 (some a11)) fun x20 s21 => lt_ (fr_ s21 1202 p0) fun r22 => nn_ r22 fun a23 => gt_ (kd_ s21 a23 = 1) <| bd_ (f_Jx4a65c_size_8abf5 s21 a23) fun x24 s25 => bd_ (f_X11_granted s25 p0 x24) fun x26 s27 => some (x26, s27)) else (bd_ (f_X11_refused s17 p0 (3 : Int32)) fun x28 s29 => some (x28, s29))))
set_option maxHeartbeats 4000000 in
set_option maxRecDepth 100000 in
theorem c_X11_rule {l : Launch} {D : va_G} {cy : Nat → ClassId} {ka : Nat → Nat} {σ z : TH} {p0 : Nat} {p1 : Int32} {r : Int32} (hf : f_X11_rule ka σ p0 p1 = some (r, z)) : ct_ l D cy ka yX11_rule 9 199 [va_rf (some p0), .int p1] σ (some (.int r)) z := by
  unfold f_X11_rule at hf
  refine v_start (cc := cX11_rule) (own := RX11) (maxL := 3) (ret := (some FieldType.int)) (nm := "rule") (by decide +kernel) kw_987 rfl rfl (by simp [lg_sl, va_rf_cat, cat_i, cat_l]) ?_
  refine v_eqL (L2 := [(0, va_rf (some p0)), (1, .int p1)]) (by simp [lv_args, va_rf_cat, cat_i, cat_l]) ?_
  refine v_aload_n (x := (some p0)) dX11_rule_0 rfl 0 rfl ?_
  obtain ⟨hk_p0, hf⟩ := gt_of hf
  refine v_getr cb_12 hk_p0 8 1208 rfl (by decide) rfl (lk_n kw_247 rfl) hf dX11_rule_1 (fun r1 hf => ?_)
  refine v_iload_n (x := p1) dX11_rule_4 rfl 1 rfl ?_
  obtain ⟨a2, rfl, hf⟩ := nn_of hf
  obtain ⟨hk_a2, hf⟩ := gt_of hf
  obtain ⟨x3, s4, hcs4, hf⟩ := bd_of hf
  have hts4 := c_X6_holds (l := l) (D := D) (cy := cy) (ka := ka) hcs4
  refine v_callV cb_7 hk_a2 (As := [.int p1]) (rest := []) hts4 yb_X6_holds kw_655 kw_656 kw_657 rfl ⟨Nat.le_of_ble_eq_true rfl, Nat.le_of_ble_eq_true rfl⟩ rfl (cat_len (Nat.le_of_ble_eq_true rfl)) dX11_rule_5 ?_
  have hk_p0 := tk_ hts4.1 hk_p0
  show v_ l D cy ka cX11_rule RX11 3 (some FieldType.int) "rule" 9 199 (qf_ D cy σ z (some (.int r))) σ z _ 8 [(0, va_rf (some p0)), (1, .int p1)] [.int x3]
  refine v_if_ne (tgt := 17) hf dX11_rule_8 (by decide) (fun hq hf => ?_) (fun hq hf => ?_)
  · refine v_aload_n (x := (some p0)) dX11_rule_11 rfl 0 rfl ?_
    refine v_iconst (v := 2) dX11_rule_12 (by decide) ?_
    obtain ⟨x5, s6, hcs6, hf⟩ := bd_of hf
    have hts6 := c_X11_refused (l := l) (D := D) (cy := cy) (ka := ka) hcs6
    refine v_callV cb_12 hk_p0 (As := [.int (2 : Int32)]) (rest := []) hts6 yb_X11_refused kw_307 kw_309 kp_0 rfl ⟨Nat.le_of_ble_eq_true rfl, Nat.le_of_ble_eq_true rfl⟩ rfl (cat_len (Nat.le_of_ble_eq_true rfl)) dX11_rule_13 ?_
    have hk_p0 := tk_ hts6.1 hk_p0
    show v_ l D cy ka cX11_rule RX11 3 (some FieldType.int) "rule" 9 199 (qf_ D cy σ z (some (.int r))) σ z _ 16 [(0, va_rf (some p0)), (1, .int p1)] [.int x5]
    exact v_iret hf dX11_rule_16
  · refine v_aload_n (x := (some p0)) dX11_rule_17 rfl 0 rfl ?_
    refine v_getr cb_12 hk_p0 8 1208 rfl (by decide) rfl (lk_n kw_247 rfl) hf dX11_rule_18 (fun r7 hf => ?_)
    refine v_iload_n (x := p1) dX11_rule_21 rfl 1 rfl ?_
    refine v_iconst (v := 1) dX11_rule_22 (by decide) ?_
    obtain ⟨a8, rfl, hf⟩ := nn_of hf
    obtain ⟨hk_a8, hf⟩ := gt_of hf
    obtain ⟨r9, s10, hcs10, hf⟩ := bd_of hf
    have hts10 := c_X6_read (l := l) (D := D) (cy := cy) (ka := ka) hcs10
    refine v_callV cb_7 hk_a8 (As := [.int p1, .int (1 : Int32)]) (rest := []) hts10 yb_X6_read kw_660 kw_661 kw_662 rfl ⟨Nat.le_of_ble_eq_true rfl, Nat.le_of_ble_eq_true rfl⟩ rfl (cat_len (Nat.le_of_ble_eq_true rfl)) dX11_rule_23 ?_
    have hk_p0 := tk_ hts10.1 hk_p0
    show v_ l D cy ka cX11_rule RX11 3 (some FieldType.int) "rule" 9 199 (qf_ D cy σ z (some (.int r))) σ z _ 26 [(0, va_rf (some p0)), (1, .int p1)] [va_rf r9]
    refine v_astore_n [(2, va_rf r9), (0, va_rf (some p0)), (1, .int p1)] dX11_rule_26 rfl (by decide) rfl ?_
    refine v_aload_n (x := r9) dX11_rule_27 rfl 0 rfl ?_
    refine v_ifnonnull2 (tgt := 37) hf dX11_rule_28 (by decide) (fun e9 hf9 => ?_) (fun a11 e9 hf9 => ?_)
    · subst e9
      replace hf := hf9
      clear hf9
      refine v_aload_n (x := (some p0)) dX11_rule_31 rfl 1 rfl ?_
      refine v_iconst (v := 4) dX11_rule_32 (by decide) ?_
      obtain ⟨x12, s13, hcs13, hf⟩ := bd_of hf
      have hts13 := c_X11_refused (l := l) (D := D) (cy := cy) (ka := ka) hcs13
      refine v_callV cb_12 hk_p0 (As := [.int (4 : Int32)]) (rest := []) hts13 yb_X11_refused kw_307 kw_309 kp_0 rfl ⟨Nat.le_of_ble_eq_true rfl, Nat.le_of_ble_eq_true rfl⟩ rfl (cat_len (Nat.le_of_ble_eq_true rfl)) dX11_rule_33 ?_
      have hk_p0 := tk_ hts13.1 hk_p0
      show v_ l D cy ka cX11_rule RX11 3 (some FieldType.int) "rule" 9 199 (qf_ D cy σ z (some (.int r))) σ z _ 36 [(2, va_rf none), (0, va_rf (some p0)), (1, .int p1)] [.int x12]
      exact v_iret hf dX11_rule_36
    · subst e9
      replace hf := hf9
      clear hf9
      refine v_aload_n (x := (some p0)) dX11_rule_37 rfl 1 rfl ?_
      refine v_getr cb_12 hk_p0 2 1202 rfl (by decide) rfl (lk_n kw_241 rfl) hf dX11_rule_38 (fun r14 hf => ?_)
      obtain ⟨a15, rfl, hf⟩ := nn_of hf
      obtain ⟨hk_a15, hf⟩ := gt_of hf
      obtain ⟨x16, s17, hcs17, hf⟩ := bd_of hf
      have hts17 := c_Jx4a65c_size_8abf5 (l := l) (D := D) (cy := cy) (ka := ka) hcs17
      refine v_callV cb_0 hk_a15 (As := []) (rest := []) hts17 yb_Jx4a65c_size_8abf5 kw_311 kw_312 kw_313 rfl ⟨Nat.le_of_ble_eq_true rfl, Nat.le_of_ble_eq_true rfl⟩ rfl (cat_len (Nat.le_of_ble_eq_true rfl)) dX11_rule_41 ?_
      have hk_p0 := tk_ hts17.1 hk_p0
      show v_ l D cy ka cX11_rule RX11 3 (some FieldType.int) "rule" 9 199 (qf_ D cy σ z (some (.int r))) σ z _ 44 [(2, va_rf (some a11)), (0, va_rf (some p0)), (1, .int p1)] [.int x16]
      refine v_bipush (v := 12) dX11_rule_44 (by decide) ?_
      refine v_icmp_lt (tgt := 55) hf dX11_rule_46 (by decide) (fun hq hf => ?_) (fun hq hf => ?_)
      · refine v_aload_n (x := (some p0)) dX11_rule_55 rfl 1 rfl ?_
        refine v_getr cb_12 hk_p0 2 1202 rfl (by decide) rfl (lk_n kw_241 rfl) hf dX11_rule_56 (fun r18 hf => ?_)
        refine v_aload_n (x := (some a11)) dX11_rule_59 rfl 0 rfl ?_
        obtain ⟨a19, rfl, hf⟩ := nn_of hf
        obtain ⟨hk_a19, hf⟩ := gt_of hf
        obtain ⟨x20, s21, hcs21, hf⟩ := bd_of hf
        have hts21 := c_Jx4a65c_add_9ea2d (l := l) (D := D) (cy := cy) (ka := ka) hcs21
        refine v_callV cb_0 hk_a19 (As := [va_rf (some a11)]) (rest := []) hts21 yb_Jx4a65c_add_9ea2d kw_330 kw_331 kw_332 rfl ⟨Nat.le_of_ble_eq_true rfl, Nat.le_of_ble_eq_true rfl⟩ rfl (cat_len (Nat.le_of_ble_eq_true rfl)) dX11_rule_60 ?_
        have hk_p0 := tk_ hts21.1 hk_p0
        show v_ l D cy ka cX11_rule RX11 3 (some FieldType.int) "rule" 9 199 (qf_ D cy σ z (some (.int r))) σ z _ 63 [(2, va_rf (some a11)), (0, va_rf (some p0)), (1, .int p1)] [.int x20]
        refine v_pop dX11_rule_63 rfl ?_
        refine v_aload_n (x := (some p0)) dX11_rule_64 rfl 1 rfl ?_
        refine v_aload_n (x := (some p0)) dX11_rule_65 rfl 1 rfl ?_
        refine v_getr cb_12 hk_p0 2 1202 rfl (by decide) rfl (lk_n kw_241 rfl) hf dX11_rule_66 (fun r22 hf => ?_)
        obtain ⟨a23, rfl, hf⟩ := nn_of hf
        obtain ⟨hk_a23, hf⟩ := gt_of hf
        obtain ⟨x24, s25, hcs25, hf⟩ := bd_of hf
        have hts25 := c_Jx4a65c_size_8abf5 (l := l) (D := D) (cy := cy) (ka := ka) hcs25
        refine v_callV cb_0 hk_a23 (As := []) (rest := [va_rf (some p0)]) hts25 yb_Jx4a65c_size_8abf5 kw_311 kw_312 kw_313 rfl ⟨Nat.le_of_ble_eq_true rfl, Nat.le_of_ble_eq_true rfl⟩ rfl (cat_len (Nat.le_of_ble_eq_true rfl)) dX11_rule_69 ?_
        have hk_p0 := tk_ hts25.1 hk_p0
        show v_ l D cy ka cX11_rule RX11 3 (some FieldType.int) "rule" 9 199 (qf_ D cy σ z (some (.int r))) σ z _ 72 [(2, va_rf (some a11)), (0, va_rf (some p0)), (1, .int p1)] [.int x24, va_rf (some p0)]
        obtain ⟨x26, s27, hcs27, hf⟩ := bd_of hf
        have hts27 := c_X11_granted (l := l) (D := D) (cy := cy) (ka := ka) hcs27
        refine v_callV cb_12 hk_p0 (As := [.int x24]) (rest := []) hts27 yb_X11_granted kw_395 kw_397 kp_4 rfl ⟨Nat.le_of_ble_eq_true rfl, Nat.le_of_ble_eq_true rfl⟩ rfl (cat_len (Nat.le_of_ble_eq_true rfl)) dX11_rule_72 ?_
        have hk_p0 := tk_ hts27.1 hk_p0
        show v_ l D cy ka cX11_rule RX11 3 (some FieldType.int) "rule" 9 199 (qf_ D cy σ z (some (.int r))) σ z _ 75 [(2, va_rf (some a11)), (0, va_rf (some p0)), (1, .int p1)] [.int x26]
        exact v_iret hf dX11_rule_75
      · refine v_aload_n (x := (some p0)) dX11_rule_49 rfl 1 rfl ?_
        refine v_iconst (v := 3) dX11_rule_50 (by decide) ?_
        obtain ⟨x28, s29, hcs29, hf⟩ := bd_of hf
        have hts29 := c_X11_refused (l := l) (D := D) (cy := cy) (ka := ka) hcs29
        refine v_callV cb_12 hk_p0 (As := [.int (3 : Int32)]) (rest := []) hts29 yb_X11_refused kw_307 kw_309 kp_0 rfl ⟨Nat.le_of_ble_eq_true rfl, Nat.le_of_ble_eq_true rfl⟩ rfl (cat_len (Nat.le_of_ble_eq_true rfl)) dX11_rule_51 ?_
        have hk_p0 := tk_ hts29.1 hk_p0
        show v_ l D cy ka cX11_rule RX11 3 (some FieldType.int) "rule" 9 199 (qf_ D cy σ z (some (.int r))) σ z _ 54 [(2, va_rf (some a11)), (0, va_rf (some p0)), (1, .int p1)] [.int x28]
        exact v_iret hf dX11_rule_54
theorem dX11_rumour_0 : decode cX11_rumour 0 = .ok (.iload_n 1, 1) := by decide +kernel
theorem dX11_rumour_1 : decode cX11_rumour 1 = .ok (.iconst 0, 1) := by decide +kernel
theorem dX11_rumour_2 : decode cX11_rumour 2 = .ok (.bipush 99, 2) := by decide +kernel
theorem dX11_rumour_4 : decode cX11_rumour 4 = .ok (.invokestatic 93, 3) := by decide +kernel
theorem dX11_rumour_7 : decode cX11_rumour 7 = .ok (.ifCond .eq 12, 3) := by decide +kernel
theorem dX11_rumour_10 : decode cX11_rumour 10 = .ok (.aload_n 0, 1) := by decide +kernel
theorem dX11_rumour_11 : decode cX11_rumour 11 = .ok (.iload_n 2, 1) := by decide +kernel
theorem dX11_rumour_12 : decode cX11_rumour 12 = .ok (.iload_n 3, 1) := by decide +kernel
theorem dX11_rumour_13 : decode cX11_rumour 13 = .ok (.invokevirtual 327, 3) := by decide +kernel
theorem dX11_rumour_16 : decode cX11_rumour 16 = .ok (.ifCond .ne 9, 3) := by decide +kernel
theorem dX11_rumour_19 : decode cX11_rumour 19 = .ok (.aload_n 0, 1) := by decide +kernel
theorem dX11_rumour_20 : decode cX11_rumour 20 = .ok (.iconst 2, 1) := by decide +kernel
theorem dX11_rumour_21 : decode cX11_rumour 21 = .ok (.invokevirtual 97, 3) := by decide +kernel
theorem dX11_rumour_24 : decode cX11_rumour 24 = .ok (.ireturn, 1) := by decide +kernel
theorem dX11_rumour_25 : decode cX11_rumour 25 = .ok (.new 331, 3) := by decide +kernel
theorem dX11_rumour_28 : decode cX11_rumour 28 = .ok (.dup, 1) := by decide +kernel
theorem dX11_rumour_29 : decode cX11_rumour 29 = .ok (.iconst (-1), 1) := by decide +kernel
theorem dX11_rumour_30 : decode cX11_rumour 30 = .ok (.iload_n 1, 1) := by decide +kernel
theorem dX11_rumour_31 : decode cX11_rumour 31 = .ok (.iload_n 2, 1) := by decide +kernel
theorem dX11_rumour_32 : decode cX11_rumour 32 = .ok (.iload_n 3, 1) := by decide +kernel
theorem dX11_rumour_33 : decode cX11_rumour 33 = .ok (.aload_n 0, 1) := by decide +kernel
theorem dX11_rumour_34 : decode cX11_rumour 34 = .ok (.getfield 66, 3) := by decide +kernel
theorem dX11_rumour_37 : decode cX11_rumour 37 = .ok (.invokespecial 333, 3) := by decide +kernel
theorem dX11_rumour_40 : decode cX11_rumour 40 = .ok (.astore 10, 2) := by decide +kernel
theorem dX11_rumour_42 : decode cX11_rumour 42 = .ok (.aload 10, 2) := by decide +kernel
theorem dX11_rumour_44 : decode cX11_rumour 44 = .ok (.iload 4, 2) := by decide +kernel
theorem dX11_rumour_46 : decode cX11_rumour 46 = .ok (.iload 5, 2) := by decide +kernel
theorem dX11_rumour_48 : decode cX11_rumour 48 = .ok (.invokevirtual 338, 3) := by decide +kernel
theorem dX11_rumour_51 : decode cX11_rumour 51 = .ok (.ifCond .eq 31, 3) := by decide +kernel
theorem dX11_rumour_54 : decode cX11_rumour 54 = .ok (.aload 10, 2) := by decide +kernel
theorem dX11_rumour_56 : decode cX11_rumour 56 = .ok (.iload 6, 2) := by decide +kernel
theorem dX11_rumour_58 : decode cX11_rumour 58 = .ok (.iload 7, 2) := by decide +kernel
theorem dX11_rumour_60 : decode cX11_rumour 60 = .ok (.invokevirtual 338, 3) := by decide +kernel
theorem dX11_rumour_63 : decode cX11_rumour 63 = .ok (.ifCond .eq 19, 3) := by decide +kernel
theorem dX11_rumour_66 : decode cX11_rumour 66 = .ok (.aload 10, 2) := by decide +kernel
theorem dX11_rumour_68 : decode cX11_rumour 68 = .ok (.iload 8, 2) := by decide +kernel
theorem dX11_rumour_70 : decode cX11_rumour 70 = .ok (.iload 9, 2) := by decide +kernel
theorem dX11_rumour_72 : decode cX11_rumour 72 = .ok (.invokevirtual 338, 3) := by decide +kernel
theorem dX11_rumour_75 : decode cX11_rumour 75 = .ok (.ifCond .eq 7, 3) := by decide +kernel
theorem dX11_rumour_78 : decode cX11_rumour 78 = .ok (.iconst 1, 1) := by decide +kernel
theorem dX11_rumour_79 : decode cX11_rumour 79 = .ok (.goto 4, 3) := by decide +kernel
theorem dX11_rumour_82 : decode cX11_rumour 82 = .ok (.iconst 0, 1) := by decide +kernel
theorem dX11_rumour_83 : decode cX11_rumour 83 = .ok (.istore 11, 2) := by decide +kernel
theorem dX11_rumour_85 : decode cX11_rumour 85 = .ok (.iload 11, 2) := by decide +kernel
theorem dX11_rumour_87 : decode cX11_rumour 87 = .ok (.ifCond .ne 9, 3) := by decide +kernel
theorem dX11_rumour_90 : decode cX11_rumour 90 = .ok (.aload_n 0, 1) := by decide +kernel
theorem dX11_rumour_91 : decode cX11_rumour 91 = .ok (.iconst 2, 1) := by decide +kernel
theorem dX11_rumour_92 : decode cX11_rumour 92 = .ok (.invokevirtual 97, 3) := by decide +kernel
theorem dX11_rumour_95 : decode cX11_rumour 95 = .ok (.ireturn, 1) := by decide +kernel
theorem dX11_rumour_96 : decode cX11_rumour 96 = .ok (.aload_n 0, 1) := by decide +kernel
theorem dX11_rumour_97 : decode cX11_rumour 97 = .ok (.aload 10, 2) := by decide +kernel
theorem dX11_rumour_99 : decode cX11_rumour 99 = .ok (.invokevirtual 334, 3) := by decide +kernel
theorem dX11_rumour_102 : decode cX11_rumour 102 = .ok (.ireturn, 1) := by decide +kernel
def f_X11_rumour_b19 (ka : Nat → Nat) (σ : TH) (l0 : Nat) : Option (Int32 × TH) :=
  gt_ (kd_ σ l0 = 13) <| bd_ (f_X11_refused σ l0 (2 : Int32)) fun x3 s4 => some (x3, s4)
set_option maxHeartbeats 4000000 in
set_option maxRecDepth 100000 in
theorem t_X11_rumour_b19 {l : Launch} {D : va_G} {cy : Nat → ClassId} {ka : Nat → Nat} {σ0 z : TH} {r : Int32}  {σ : TH} {l0 : Nat} (hf : f_X11_rumour_b19 ka σ l0 = some (r, z)) : v_ l D cy ka cX11_rumour RX11 12 (some FieldType.int) "rumour" 8 212 (qf_ D cy σ0 z (some (.int r))) σ0 z σ 19 [(0, va_rf (some l0))] [] := by
  unfold f_X11_rumour_b19 at hf
  refine v_aload_n (x := (some l0)) dX11_rumour_19 rfl 0 rfl ?_
  refine v_iconst (v := 2) dX11_rumour_20 (by decide) ?_
  obtain ⟨hk_l0, hf⟩ := gt_of hf
  obtain ⟨x3, s4, hcs4, hf⟩ := bd_of hf
  have hts4 := c_X11_refused (l := l) (D := D) (cy := cy) (ka := ka) hcs4
  refine v_callV cb_12 hk_l0 (As := [.int (2 : Int32)]) (rest := []) hts4 yb_X11_refused kw_307 kw_309 kp_0 rfl ⟨Nat.le_of_ble_eq_true rfl, Nat.le_of_ble_eq_true rfl⟩ rfl (cat_len (Nat.le_of_ble_eq_true rfl)) dX11_rumour_21 ?_
  have hk_l0 := tk_ hts4.1 hk_l0
  show v_ l D cy ka cX11_rumour RX11 12 (some FieldType.int) "rumour" 8 212 (qf_ D cy σ0 z (some (.int r))) σ0 z _ 24 [(0, va_rf (some l0))] [.int x3]
  exact v_iret hf dX11_rumour_24
def f_X11_rumour_b83 (ka : Nat → Nat) (σ : TH) (l0 : Nat) (l10 : Option Nat) (t0 : Int32) : Option (Int32 × TH) :=
  if t0 = 0 then (gt_ (kd_ σ l0 = 13) <| bd_ (f_X11_refused σ l0 (2 : Int32)) fun x14 s15 => some (x14, s15)) else (gt_ (kd_ σ l0 = 13) <| bd_ (f_X11_keepReport ka σ l0 l10) fun x16 s17 => some (x16, s17))
set_option maxHeartbeats 4000000 in
set_option maxRecDepth 100000 in
theorem t_X11_rumour_b83 {l : Launch} {D : va_G} {cy : Nat → ClassId} {ka : Nat → Nat} {σ0 z : TH} {r : Int32}  {σ : TH} {l0 : Nat} {l10 : Option Nat} {t0 : Int32} (hf : f_X11_rumour_b83 ka σ l0 l10 t0 = some (r, z)) : v_ l D cy ka cX11_rumour RX11 12 (some FieldType.int) "rumour" 8 212 (qf_ D cy σ0 z (some (.int r))) σ0 z σ 83 [(0, va_rf (some l0)), (10, va_rf l10)] [.int t0] := by
  unfold f_X11_rumour_b83 at hf
  refine v_istore [(11, .int t0), (0, va_rf (some l0)), (10, va_rf l10)] dX11_rumour_83 (by decide) (by simp [va_rf_cat, cat_i, cat_l]) ?_
  refine v_iload (x := t0) dX11_rumour_85 0 rfl ?_
  refine v_if_ne (tgt := 96) hf dX11_rumour_87 (by decide) (fun hq hf => ?_) (fun hq hf => ?_)
  · refine v_aload_n (x := (some l0)) dX11_rumour_90 rfl 1 rfl ?_
    refine v_iconst (v := 2) dX11_rumour_91 (by decide) ?_
    obtain ⟨hk_l0, hf⟩ := gt_of hf
    obtain ⟨x14, s15, hcs15, hf⟩ := bd_of hf
    have hts15 := c_X11_refused (l := l) (D := D) (cy := cy) (ka := ka) hcs15
    refine v_callV cb_12 hk_l0 (As := [.int (2 : Int32)]) (rest := []) hts15 yb_X11_refused kw_307 kw_309 kp_0 rfl ⟨Nat.le_of_ble_eq_true rfl, Nat.le_of_ble_eq_true rfl⟩ rfl (cat_len (Nat.le_of_ble_eq_true rfl)) dX11_rumour_92 ?_
    have hk_l0 := tk_ hts15.1 hk_l0
    show v_ l D cy ka cX11_rumour RX11 12 (some FieldType.int) "rumour" 8 212 (qf_ D cy σ0 z (some (.int r))) σ0 z _ 95 [(11, .int t0), (0, va_rf (some l0)), (10, va_rf l10)] [.int x14]
    exact v_iret hf dX11_rumour_95
  · refine v_aload_n (x := (some l0)) dX11_rumour_96 rfl 1 rfl ?_
    refine v_aload (x := l10) dX11_rumour_97 2 rfl ?_
    obtain ⟨hk_l0, hf⟩ := gt_of hf
    obtain ⟨x16, s17, hcs17, hf⟩ := bd_of hf
    have hts17 := c_X11_keepReport (l := l) (D := D) (cy := cy) (ka := ka) hcs17
    refine v_callV cb_12 hk_l0 (As := [va_rf l10]) (rest := []) hts17 yb_X11_keepReport kw_1038 kw_1040 kp_58 rfl ⟨Nat.le_of_ble_eq_true rfl, Nat.le_of_ble_eq_true rfl⟩ rfl (cat_len (Nat.le_of_ble_eq_true rfl)) dX11_rumour_99 ?_
    have hk_l0 := tk_ hts17.1 hk_l0
    show v_ l D cy ka cX11_rumour RX11 12 (some FieldType.int) "rumour" 8 212 (qf_ D cy σ0 z (some (.int r))) σ0 z _ 102 [(11, .int t0), (0, va_rf (some l0)), (10, va_rf l10)] [.int x16]
    exact v_iret hf dX11_rumour_102
def f_X11_rumour_b82 (ka : Nat → Nat) (σ : TH) (l0 : Nat) (l10 : Option Nat) : Option (Int32 × TH) :=
  f_X11_rumour_b83 ka σ l0 l10 (0 : Int32)
set_option maxHeartbeats 4000000 in
set_option maxRecDepth 100000 in
theorem t_X11_rumour_b82 {l : Launch} {D : va_G} {cy : Nat → ClassId} {ka : Nat → Nat} {σ0 z : TH} {r : Int32}  {σ : TH} {l0 : Nat} {l10 : Option Nat} (hf : f_X11_rumour_b82 ka σ l0 l10 = some (r, z)) : v_ l D cy ka cX11_rumour RX11 12 (some FieldType.int) "rumour" 8 212 (qf_ D cy σ0 z (some (.int r))) σ0 z σ 82 [(0, va_rf (some l0)), (10, va_rf l10)] [] := by
  unfold f_X11_rumour_b82 at hf
  refine v_iconst (v := 0) dX11_rumour_82 (by decide) ?_
  refine v_sub [0, 1] (L2 := [(0, va_rf (some l0)), (10, va_rf l10)]) rfl ?_
  exact t_X11_rumour_b83  hf
/-- LivesAhead.rumour(IIIIIIIII)I -/
def f_X11_rumour (ka : Nat → Nat) (σ : TH) (p0 : Nat) (p1 : Int32) (p2 : Int32) (p3 : Int32) (p4 : Int32) (p5 : Int32) (p6 : Int32) (p7 : Int32) (p8 : Int32) (p9 : Int32) : Option (Int32 × TH) :=
  bd_ (f_X11_within σ p1 (0 : Int32) (99 : Int32)) fun x1 s2 => if x1 = 0 then (f_X11_rumour_b19 ka s2 p0) else (gt_ (kd_ s2 p0 = 13) <| bd_ (f_X11_isHeard s2 p0 p2 p3) fun x5 s6 => if x5 = 0 then (f_X11_rumour_b19 ka s6 p0) else (gt_ (kd_ s6 (nx_ s6) = 0) <| lt_ (nx_ s6) fun a7 => lt_ (nw_ s6 9 0 10) fun s8 => lt_ (fi_ s8 1213 p0) fun x9 => bd_ (f_X7_init s8 a7 (-1 : Int32) p1 p2 p3 x9) fun x10 s11 => bd_ (f_X7_tellFact s11 a7 p4 p5) fun x12 s13 => if x12 = 0 then (f_X11_rumour_b82 ka s13 p0 (some a7)) else (bd_ (f_X7_tellFact s13 a7 p6 p7) fun x18 s19 => if x18 = 0 then (f_X11_rumour_b82 ka s19 p0 (some a7)) else (bd_ (f_X7_tellFact s19 a7 p8 p9) fun x20 s21 => if x20 = 0 then (f_X11_rumour_b82 ka s21 p0 (some a7)) else (f_X11_rumour_b83 ka s21 p0 (some a7) (1 : Int32))))))
set_option maxHeartbeats 4000000 in
set_option maxRecDepth 100000 in
theorem c_X11_rumour {l : Launch} {D : va_G} {cy : Nat → ClassId} {ka : Nat → Nat} {σ z : TH} {p0 : Nat} {p1 : Int32} {p2 : Int32} {p3 : Int32} {p4 : Int32} {p5 : Int32} {p6 : Int32} {p7 : Int32} {p8 : Int32} {p9 : Int32} {r : Int32} (hf : f_X11_rumour ka σ p0 p1 p2 p3 p4 p5 p6 p7 p8 p9 = some (r, z)) : ct_ l D cy ka yX11_rumour 8 212 [va_rf (some p0), .int p1, .int p2, .int p3, .int p4, .int p5, .int p6, .int p7, .int p8, .int p9] σ (some (.int r)) z := by
  unfold f_X11_rumour at hf
  refine v_start (cc := cX11_rumour) (own := RX11) (maxL := 12) (ret := (some FieldType.int)) (nm := "rumour") (by decide +kernel) kw_1045 rfl rfl (by simp [lg_sl, va_rf_cat, cat_i, cat_l]) ?_
  refine v_eqL (L2 := [(0, va_rf (some p0)), (1, .int p1), (2, .int p2), (3, .int p3), (4, .int p4), (5, .int p5), (6, .int p6), (7, .int p7), (8, .int p8), (9, .int p9)]) (by simp [lv_args, va_rf_cat, cat_i, cat_l]) ?_
  refine v_iload_n (x := p1) dX11_rumour_0 rfl 1 rfl ?_
  refine v_iconst (v := 0) dX11_rumour_1 (by decide) ?_
  refine v_bipush (v := 99) dX11_rumour_2 (by decide) ?_
  obtain ⟨x1, s2, hcs2, hf⟩ := bd_of hf
  have hts2 := c_X11_within (l := l) (D := D) (cy := cy) (ka := ka) hcs2
  refine v_callS (As := [.int p1, .int (0 : Int32), .int (99 : Int32)]) (rest := []) hts2 yb_X11_within kw_304 kw_305 rfl ⟨Nat.le_of_ble_eq_true rfl, Nat.le_of_ble_eq_true rfl⟩ rfl (cat_len (Nat.le_of_ble_eq_true rfl)) dX11_rumour_4 ?_
  show v_ l D cy ka cX11_rumour RX11 12 (some FieldType.int) "rumour" 8 212 (qf_ D cy σ z (some (.int r))) σ z _ 7 [(0, va_rf (some p0)), (1, .int p1), (2, .int p2), (3, .int p3), (4, .int p4), (5, .int p5), (6, .int p6), (7, .int p7), (8, .int p8), (9, .int p9)] [.int x1]
  refine v_if_eq (tgt := 19) hf dX11_rumour_7 (by decide) (fun hq hf => ?_) (fun hq hf => ?_)
  · refine v_sub [0] (L2 := [(0, va_rf (some p0))]) rfl ?_
    exact t_X11_rumour_b19  hf
  · refine v_aload_n (x := (some p0)) dX11_rumour_10 rfl 0 rfl ?_
    refine v_iload_n (x := p2) dX11_rumour_11 rfl 2 rfl ?_
    refine v_iload_n (x := p3) dX11_rumour_12 rfl 3 rfl ?_
    obtain ⟨hk_p0, hf⟩ := gt_of hf
    obtain ⟨x5, s6, hcs6, hf⟩ := bd_of hf
    have hts6 := c_X11_isHeard (l := l) (D := D) (cy := cy) (ka := ka) hcs6
    refine v_callV cb_12 hk_p0 (As := [.int p2, .int p3]) (rest := []) hts6 yb_X11_isHeard kw_992 kw_994 kp_57 rfl ⟨Nat.le_of_ble_eq_true rfl, Nat.le_of_ble_eq_true rfl⟩ rfl (cat_len (Nat.le_of_ble_eq_true rfl)) dX11_rumour_13 ?_
    have hk_p0 := tk_ hts6.1 hk_p0
    show v_ l D cy ka cX11_rumour RX11 12 (some FieldType.int) "rumour" 8 212 (qf_ D cy σ z (some (.int r))) σ z _ 16 [(0, va_rf (some p0)), (1, .int p1), (2, .int p2), (3, .int p3), (4, .int p4), (5, .int p5), (6, .int p6), (7, .int p7), (8, .int p8), (9, .int p9)] [.int x5]
    refine v_if_ne (tgt := 25) hf dX11_rumour_16 (by decide) (fun hq hf => ?_) (fun hq hf => ?_)
    · refine v_sub [0] (L2 := [(0, va_rf (some p0))]) rfl ?_
      exact t_X11_rumour_b19  hf
    · refine v_new2 cb_8 df_8 kw_996 kw_997 kw_29 9 rfl hf dX11_rumour_25 (fun a7 s8 hts8 hk_a7 hf => ?_)
      have hk_p0 := tk_ hts8 hk_p0
      refine v_dup dX11_rumour_28 (va_rf_cat _) ?_
      refine v_iconst (v := (-1)) dX11_rumour_29 (by decide) ?_
      refine v_iload_n (x := p1) dX11_rumour_30 rfl 1 rfl ?_
      refine v_iload_n (x := p2) dX11_rumour_31 rfl 2 rfl ?_
      refine v_iload_n (x := p3) dX11_rumour_32 rfl 3 rfl ?_
      refine v_aload_n (x := (some p0)) dX11_rumour_33 rfl 0 rfl ?_
      refine v_geti cb_12 hk_p0 13 1213 rfl (by decide) rfl (lk_n kw_252 rfl) hf dX11_rumour_34 (fun x9 hf => ?_)
      obtain ⟨x10, s11, hcs11, hf⟩ := bd_of hf
      have hts11 := c_X7_init (l := l) (D := D) (cy := cy) (ka := ka) hcs11
      refine v_callI (As := [.int (-1 : Int32), .int p1, .int p2, .int p3, .int x9]) (rest := [va_rf (some a7)]) hts11 yb_X7_init kw_998 kw_999 rfl rfl ⟨Nat.le_of_ble_eq_true rfl, Nat.le_of_ble_eq_true rfl⟩ rfl (cat_len (Nat.le_of_ble_eq_true rfl)) dX11_rumour_37 ?_
      have hk_p0 := tk_ hts11.1 hk_p0
      have hk_a7 := tk_ hts11.1 hk_a7
      show v_ l D cy ka cX11_rumour RX11 12 (some FieldType.int) "rumour" 8 212 (qf_ D cy σ z (some (.int r))) σ z _ 40 [(0, va_rf (some p0)), (1, .int p1), (2, .int p2), (3, .int p3), (4, .int p4), (5, .int p5), (6, .int p6), (7, .int p7), (8, .int p8), (9, .int p9)] [va_rf (some a7)]
      refine v_astore [(10, va_rf (some a7)), (0, va_rf (some p0)), (1, .int p1), (2, .int p2), (3, .int p3), (4, .int p4), (5, .int p5), (6, .int p6), (7, .int p7), (8, .int p8), (9, .int p9)] dX11_rumour_40 (by decide) rfl ?_
      refine v_aload (x := (some a7)) dX11_rumour_42 0 rfl ?_
      refine v_iload (x := p4) dX11_rumour_44 5 rfl ?_
      refine v_iload (x := p5) dX11_rumour_46 6 rfl ?_
      obtain ⟨x12, s13, hcs13, hf⟩ := bd_of hf
      have hts13 := c_X7_tellFact (l := l) (D := D) (cy := cy) (ka := ka) hcs13
      refine v_callV cb_8 hk_a7 (As := [.int p4, .int p5]) (rest := []) hts13 yb_X7_tellFact kw_1046 kw_1047 kw_1048 rfl ⟨Nat.le_of_ble_eq_true rfl, Nat.le_of_ble_eq_true rfl⟩ rfl (cat_len (Nat.le_of_ble_eq_true rfl)) dX11_rumour_48 ?_
      have hk_p0 := tk_ hts13.1 hk_p0
      have hk_a7 := tk_ hts13.1 hk_a7
      show v_ l D cy ka cX11_rumour RX11 12 (some FieldType.int) "rumour" 8 212 (qf_ D cy σ z (some (.int r))) σ z _ 51 [(10, va_rf (some a7)), (0, va_rf (some p0)), (1, .int p1), (2, .int p2), (3, .int p3), (4, .int p4), (5, .int p5), (6, .int p6), (7, .int p7), (8, .int p8), (9, .int p9)] [.int x12]
      refine v_if_eq (tgt := 82) hf dX11_rumour_51 (by decide) (fun hq hf => ?_) (fun hq hf => ?_)
      · refine v_sub [1, 0] (L2 := [(0, va_rf (some p0)), (10, va_rf (some a7))]) rfl ?_
        exact t_X11_rumour_b82  hf
      · refine v_aload (x := (some a7)) dX11_rumour_54 0 rfl ?_
        refine v_iload (x := p6) dX11_rumour_56 7 rfl ?_
        refine v_iload (x := p7) dX11_rumour_58 8 rfl ?_
        obtain ⟨x18, s19, hcs19, hf⟩ := bd_of hf
        have hts19 := c_X7_tellFact (l := l) (D := D) (cy := cy) (ka := ka) hcs19
        refine v_callV cb_8 hk_a7 (As := [.int p6, .int p7]) (rest := []) hts19 yb_X7_tellFact kw_1046 kw_1047 kw_1048 rfl ⟨Nat.le_of_ble_eq_true rfl, Nat.le_of_ble_eq_true rfl⟩ rfl (cat_len (Nat.le_of_ble_eq_true rfl)) dX11_rumour_60 ?_
        have hk_p0 := tk_ hts19.1 hk_p0
        have hk_a7 := tk_ hts19.1 hk_a7
        show v_ l D cy ka cX11_rumour RX11 12 (some FieldType.int) "rumour" 8 212 (qf_ D cy σ z (some (.int r))) σ z _ 63 [(10, va_rf (some a7)), (0, va_rf (some p0)), (1, .int p1), (2, .int p2), (3, .int p3), (4, .int p4), (5, .int p5), (6, .int p6), (7, .int p7), (8, .int p8), (9, .int p9)] [.int x18]
        refine v_if_eq (tgt := 82) hf dX11_rumour_63 (by decide) (fun hq hf => ?_) (fun hq hf => ?_)
        · refine v_sub [1, 0] (L2 := [(0, va_rf (some p0)), (10, va_rf (some a7))]) rfl ?_
          exact t_X11_rumour_b82  hf
        · refine v_aload (x := (some a7)) dX11_rumour_66 0 rfl ?_
          refine v_iload (x := p8) dX11_rumour_68 9 rfl ?_
          refine v_iload (x := p9) dX11_rumour_70 10 rfl ?_
          obtain ⟨x20, s21, hcs21, hf⟩ := bd_of hf
          have hts21 := c_X7_tellFact (l := l) (D := D) (cy := cy) (ka := ka) hcs21
          refine v_callV cb_8 hk_a7 (As := [.int p8, .int p9]) (rest := []) hts21 yb_X7_tellFact kw_1046 kw_1047 kw_1048 rfl ⟨Nat.le_of_ble_eq_true rfl, Nat.le_of_ble_eq_true rfl⟩ rfl (cat_len (Nat.le_of_ble_eq_true rfl)) dX11_rumour_72 ?_
          have hk_p0 := tk_ hts21.1 hk_p0
          have hk_a7 := tk_ hts21.1 hk_a7
          show v_ l D cy ka cX11_rumour RX11 12 (some FieldType.int) "rumour" 8 212 (qf_ D cy σ z (some (.int r))) σ z _ 75 [(10, va_rf (some a7)), (0, va_rf (some p0)), (1, .int p1), (2, .int p2), (3, .int p3), (4, .int p4), (5, .int p5), (6, .int p6), (7, .int p7), (8, .int p8), (9, .int p9)] [.int x20]
          refine v_if_eq (tgt := 82) hf dX11_rumour_75 (by decide) (fun hq hf => ?_) (fun hq hf => ?_)
          · refine v_sub [1, 0] (L2 := [(0, va_rf (some p0)), (10, va_rf (some a7))]) rfl ?_
            exact t_X11_rumour_b82  hf
          · refine v_iconst (v := 1) dX11_rumour_78 (by decide) ?_
            refine v_goto (tgt := 83) dX11_rumour_79 (by decide) ?_
            refine v_sub [1, 0] (L2 := [(0, va_rf (some p0)), (10, va_rf (some a7))]) rfl ?_
            exact t_X11_rumour_b83  hf
theorem dX11_said_0 : decode cX11_said 0 = .ok (.aload_n 0, 1) := by decide +kernel
theorem dX11_said_1 : decode cX11_said 1 = .ok (.iload_n 1, 1) := by decide +kernel
theorem dX11_said_2 : decode cX11_said 2 = .ok (.invokevirtual 397, 3) := by decide +kernel
theorem dX11_said_5 : decode cX11_said 5 = .ok (.astore_n 3, 1) := by decide +kernel
theorem dX11_said_6 : decode cX11_said 6 = .ok (.aload_n 3, 1) := by decide +kernel
theorem dX11_said_7 : decode cX11_said 7 = .ok (.ifnull 11, 3) := by decide +kernel
theorem dX11_said_10 : decode cX11_said 10 = .ok (.aload_n 3, 1) := by decide +kernel
theorem dX11_said_11 : decode cX11_said 11 = .ok (.iload_n 2, 1) := by decide +kernel
theorem dX11_said_12 : decode cX11_said 12 = .ok (.invokevirtual 418, 3) := by decide +kernel
theorem dX11_said_15 : decode cX11_said 15 = .ok (.ifCond .ne 6, 3) := by decide +kernel
theorem dX11_said_18 : decode cX11_said 18 = .ok (.ldc 220, 2) := by decide +kernel
theorem dX11_said_20 : decode cX11_said 20 = .ok (.ireturn, 1) := by decide +kernel
theorem dX11_said_21 : decode cX11_said 21 = .ok (.aload_n 3, 1) := by decide +kernel
theorem dX11_said_22 : decode cX11_said 22 = .ok (.getfield 428, 3) := by decide +kernel
theorem dX11_said_25 : decode cX11_said 25 = .ok (.iload_n 2, 1) := by decide +kernel
theorem dX11_said_26 : decode cX11_said 26 = .ok (.iaload, 1) := by decide +kernel
theorem dX11_said_27 : decode cX11_said 27 = .ok (.ireturn, 1) := by decide +kernel
def f_X11_said_b18 (σ : TH) : Option (Int32 × TH) :=
  some (((-2147483648) : Int32), σ)
set_option maxHeartbeats 4000000 in
set_option maxRecDepth 100000 in
theorem t_X11_said_b18 {l : Launch} {D : va_G} {cy : Nat → ClassId} {ka : Nat → Nat} {σ0 z : TH} {r : Int32}  {σ : TH}  (hf : f_X11_said_b18 σ  = some (r, z)) : v_ l D cy ka cX11_said RX11 4 (some FieldType.int) "said" 4 85 (qf_ D cy σ0 z (some (.int r))) σ0 z σ 18 [] [] := by
  unfold f_X11_said_b18 at hf
  refine v_ldc (v := (-2147483648)) kw_622 dX11_said_18 ?_
  exact v_iret hf dX11_said_20
/-- LivesAhead.said(II)I -/
def f_X11_said (σ : TH) (p0 : Nat) (p1 : Int32) (p2 : Int32) : Option (Int32 × TH) :=
  gt_ (kd_ σ p0 = 13) <| bd_ (f_X11_editionAt σ p0 p1) fun r1 s2 => oc_ r1 (f_X11_said_b18 s2 ) (fun a3 => gt_ (kd_ s2 a3 = 3) <| bd_ (f_X1_hasPrinted s2 a3 p2) fun x4 s5 => if x4 = 0 then (f_X11_said_b18 s5 ) else (lt_ (fr_ s5 208 a3) fun r6 => nn_ r6 fun a7 => gt_ (kd_ s5 a7 = 20) <| gt_ (¬ (p2 < 0 ∨ ln_ s5 a7 ≤ p2.toNatClampNeg)) <| lt_ (ai_ s5 a7 p2.toNatClampNeg) fun x8 => some (x8, s5)))
set_option maxHeartbeats 4000000 in
set_option maxRecDepth 100000 in
theorem c_X11_said {l : Launch} {D : va_G} {cy : Nat → ClassId} {ka : Nat → Nat} {σ z : TH} {p0 : Nat} {p1 : Int32} {p2 : Int32} {r : Int32} (hf : f_X11_said σ p0 p1 p2 = some (r, z)) : ct_ l D cy ka yX11_said 4 85 [va_rf (some p0), .int p1, .int p2] σ (some (.int r)) z := by
  unfold f_X11_said at hf
  refine v_start (cc := cX11_said) (own := RX11) (maxL := 4) (ret := (some FieldType.int)) (nm := "said") (by decide +kernel) kw_1266 rfl rfl (by simp [lg_sl, va_rf_cat, cat_i, cat_l]) ?_
  refine v_eqL (L2 := [(0, va_rf (some p0)), (1, .int p1), (2, .int p2)]) (by simp [lv_args, va_rf_cat, cat_i, cat_l]) ?_
  refine v_aload_n (x := (some p0)) dX11_said_0 rfl 0 rfl ?_
  refine v_iload_n (x := p1) dX11_said_1 rfl 1 rfl ?_
  obtain ⟨hk_p0, hf⟩ := gt_of hf
  obtain ⟨r1, s2, hcs2, hf⟩ := bd_of hf
  have hts2 := c_X11_editionAt (l := l) (D := D) (cy := cy) (ka := ka) hcs2
  refine v_callV cb_12 hk_p0 (As := [.int p1]) (rest := []) hts2 yb_X11_editionAt kw_1243 kw_1245 kp_65 rfl ⟨Nat.le_of_ble_eq_true rfl, Nat.le_of_ble_eq_true rfl⟩ rfl (cat_len (Nat.le_of_ble_eq_true rfl)) dX11_said_2 ?_
  have hk_p0 := tk_ hts2.1 hk_p0
  show v_ l D cy ka cX11_said RX11 4 (some FieldType.int) "said" 4 85 (qf_ D cy σ z (some (.int r))) σ z _ 5 [(0, va_rf (some p0)), (1, .int p1), (2, .int p2)] [va_rf r1]
  refine v_astore_n [(3, va_rf r1), (0, va_rf (some p0)), (1, .int p1), (2, .int p2)] dX11_said_5 rfl (by decide) rfl ?_
  refine v_aload_n (x := r1) dX11_said_6 rfl 0 rfl ?_
  refine v_ifnull2 (tgt := 18) hf dX11_said_7 (by decide) (fun e9 hf9 => ?_) (fun a3 e9 hf9 => ?_)
  · subst e9
    replace hf := hf9
    clear hf9
    refine v_sub [] (L2 := []) rfl ?_
    exact t_X11_said_b18  hf
  · subst e9
    replace hf := hf9
    clear hf9
    refine v_aload_n (x := (some a3)) dX11_said_10 rfl 0 rfl ?_
    refine v_iload_n (x := p2) dX11_said_11 rfl 3 rfl ?_
    obtain ⟨hk_a3, hf⟩ := gt_of hf
    obtain ⟨x4, s5, hcs5, hf⟩ := bd_of hf
    have hts5 := c_X1_hasPrinted (l := l) (D := D) (cy := cy) (ka := ka) hcs5
    refine v_callV cb_2 hk_a3 (As := [.int p2]) (rest := []) hts5 yb_X1_hasPrinted kw_1234 kw_1235 kw_1236 rfl ⟨Nat.le_of_ble_eq_true rfl, Nat.le_of_ble_eq_true rfl⟩ rfl (cat_len (Nat.le_of_ble_eq_true rfl)) dX11_said_12 ?_
    have hk_p0 := tk_ hts5.1 hk_p0
    have hk_a3 := tk_ hts5.1 hk_a3
    show v_ l D cy ka cX11_said RX11 4 (some FieldType.int) "said" 4 85 (qf_ D cy σ z (some (.int r))) σ z _ 15 [(3, va_rf (some a3)), (0, va_rf (some p0)), (1, .int p1), (2, .int p2)] [.int x4]
    refine v_if_ne (tgt := 21) hf dX11_said_15 (by decide) (fun hq hf => ?_) (fun hq hf => ?_)
    · refine v_sub [] (L2 := []) rfl ?_
      exact t_X11_said_b18  hf
    · refine v_aload_n (x := (some a3)) dX11_said_21 rfl 0 rfl ?_
      refine v_getr cb_2 hk_a3 8 208 rfl (by decide) rfl (lk_n kw_1195 rfl) hf dX11_said_22 (fun r6 hf => ?_)
      refine v_iload_n (x := p2) dX11_said_25 rfl 3 rfl ?_
      obtain ⟨a7, rfl, hf⟩ := nn_of hf
      obtain ⟨hk_a7, hf⟩ := gt_of hf
      refine v_iald hk_a7 hf dX11_said_26 (fun x8 hf => ?_)
      exact v_iret hf dX11_said_27
theorem dX11_dayMostSaid_0 : decode cX11_dayMostSaid 0 = .ok (.iconst (-1), 1) := by decide +kernel
theorem dX11_dayMostSaid_1 : decode cX11_dayMostSaid 1 = .ok (.istore_n 1, 1) := by decide +kernel
theorem dX11_dayMostSaid_2 : decode cX11_dayMostSaid 2 = .ok (.iconst 0, 1) := by decide +kernel
theorem dX11_dayMostSaid_3 : decode cX11_dayMostSaid 3 = .ok (.istore_n 2, 1) := by decide +kernel
theorem dX11_dayMostSaid_4 : decode cX11_dayMostSaid 4 = .ok (.iconst 0, 1) := by decide +kernel
theorem dX11_dayMostSaid_5 : decode cX11_dayMostSaid 5 = .ok (.istore_n 3, 1) := by decide +kernel
theorem dX11_dayMostSaid_6 : decode cX11_dayMostSaid 6 = .ok (.iload_n 3, 1) := by decide +kernel
theorem dX11_dayMostSaid_7 : decode cX11_dayMostSaid 7 = .ok (.aload_n 0, 1) := by decide +kernel
theorem dX11_dayMostSaid_8 : decode cX11_dayMostSaid 8 = .ok (.invokevirtual 101, 3) := by decide +kernel
theorem dX11_dayMostSaid_11 : decode cX11_dayMostSaid 11 = .ok (.if_icmp .ge 97, 3) := by decide +kernel
theorem dX11_dayMostSaid_14 : decode cX11_dayMostSaid 14 = .ok (.aload_n 0, 1) := by decide +kernel
theorem dX11_dayMostSaid_15 : decode cX11_dayMostSaid 15 = .ok (.iload_n 3, 1) := by decide +kernel
theorem dX11_dayMostSaid_16 : decode cX11_dayMostSaid 16 = .ok (.invokevirtual 238, 3) := by decide +kernel
theorem dX11_dayMostSaid_19 : decode cX11_dayMostSaid 19 = .ok (.checkcast 331, 3) := by decide +kernel
theorem dX11_dayMostSaid_22 : decode cX11_dayMostSaid 22 = .ok (.getfield 508, 3) := by decide +kernel
theorem dX11_dayMostSaid_25 : decode cX11_dayMostSaid 25 = .ok (.istore 4, 2) := by decide +kernel
theorem dX11_dayMostSaid_27 : decode cX11_dayMostSaid 27 = .ok (.iconst 0, 1) := by decide +kernel
theorem dX11_dayMostSaid_28 : decode cX11_dayMostSaid 28 = .ok (.istore 5, 2) := by decide +kernel
theorem dX11_dayMostSaid_30 : decode cX11_dayMostSaid 30 = .ok (.iconst 0, 1) := by decide +kernel
theorem dX11_dayMostSaid_31 : decode cX11_dayMostSaid 31 = .ok (.istore 6, 2) := by decide +kernel
theorem dX11_dayMostSaid_33 : decode cX11_dayMostSaid 33 = .ok (.iload 6, 2) := by decide +kernel
theorem dX11_dayMostSaid_35 : decode cX11_dayMostSaid 35 = .ok (.aload_n 0, 1) := by decide +kernel
theorem dX11_dayMostSaid_36 : decode cX11_dayMostSaid 36 = .ok (.invokevirtual 101, 3) := by decide +kernel
theorem dX11_dayMostSaid_39 : decode cX11_dayMostSaid 39 = .ok (.if_icmp .ge 39, 3) := by decide +kernel
theorem dX11_dayMostSaid_42 : decode cX11_dayMostSaid 42 = .ok (.iload 5, 2) := by decide +kernel
theorem dX11_dayMostSaid_44 : decode cX11_dayMostSaid 44 = .ok (.aload_n 0, 1) := by decide +kernel
theorem dX11_dayMostSaid_45 : decode cX11_dayMostSaid 45 = .ok (.iload 6, 2) := by decide +kernel
theorem dX11_dayMostSaid_47 : decode cX11_dayMostSaid 47 = .ok (.invokevirtual 238, 3) := by decide +kernel
theorem dX11_dayMostSaid_50 : decode cX11_dayMostSaid 50 = .ok (.checkcast 331, 3) := by decide +kernel
theorem dX11_dayMostSaid_53 : decode cX11_dayMostSaid 53 = .ok (.getfield 508, 3) := by decide +kernel
theorem dX11_dayMostSaid_56 : decode cX11_dayMostSaid 56 = .ok (.iload 4, 2) := by decide +kernel
theorem dX11_dayMostSaid_58 : decode cX11_dayMostSaid 58 = .ok (.if_icmp .ne 7, 3) := by decide +kernel
theorem dX11_dayMostSaid_61 : decode cX11_dayMostSaid 61 = .ok (.iconst 1, 1) := by decide +kernel
theorem dX11_dayMostSaid_62 : decode cX11_dayMostSaid 62 = .ok (.goto 4, 3) := by decide +kernel
theorem dX11_dayMostSaid_65 : decode cX11_dayMostSaid 65 = .ok (.iconst 0, 1) := by decide +kernel
theorem dX11_dayMostSaid_66 : decode cX11_dayMostSaid 66 = .ok (.invokestatic 169, 3) := by decide +kernel
theorem dX11_dayMostSaid_69 : decode cX11_dayMostSaid 69 = .ok (.iadd, 1) := by decide +kernel
theorem dX11_dayMostSaid_70 : decode cX11_dayMostSaid 70 = .ok (.istore 5, 2) := by decide +kernel
theorem dX11_dayMostSaid_72 : decode cX11_dayMostSaid 72 = .ok (.iinc 6 1, 3) := by decide +kernel
theorem dX11_dayMostSaid_75 : decode cX11_dayMostSaid 75 = .ok (.goto (-42), 3) := by decide +kernel
theorem dX11_dayMostSaid_78 : decode cX11_dayMostSaid 78 = .ok (.iload 5, 2) := by decide +kernel
theorem dX11_dayMostSaid_80 : decode cX11_dayMostSaid 80 = .ok (.iload_n 2, 1) := by decide +kernel
theorem dX11_dayMostSaid_81 : decode cX11_dayMostSaid 81 = .ok (.if_icmp .gt 15, 3) := by decide +kernel
theorem dX11_dayMostSaid_84 : decode cX11_dayMostSaid 84 = .ok (.iload 5, 2) := by decide +kernel
theorem dX11_dayMostSaid_86 : decode cX11_dayMostSaid 86 = .ok (.iload_n 2, 1) := by decide +kernel
theorem dX11_dayMostSaid_87 : decode cX11_dayMostSaid 87 = .ok (.if_icmp .ne 15, 3) := by decide +kernel
theorem dX11_dayMostSaid_90 : decode cX11_dayMostSaid 90 = .ok (.iload 4, 2) := by decide +kernel
theorem dX11_dayMostSaid_92 : decode cX11_dayMostSaid 92 = .ok (.iload_n 1, 1) := by decide +kernel
theorem dX11_dayMostSaid_93 : decode cX11_dayMostSaid 93 = .ok (.if_icmp .ge 9, 3) := by decide +kernel
theorem dX11_dayMostSaid_96 : decode cX11_dayMostSaid 96 = .ok (.iload 4, 2) := by decide +kernel
theorem dX11_dayMostSaid_98 : decode cX11_dayMostSaid 98 = .ok (.istore_n 1, 1) := by decide +kernel
theorem dX11_dayMostSaid_99 : decode cX11_dayMostSaid 99 = .ok (.iload 5, 2) := by decide +kernel
theorem dX11_dayMostSaid_101 : decode cX11_dayMostSaid 101 = .ok (.istore_n 2, 1) := by decide +kernel
theorem dX11_dayMostSaid_102 : decode cX11_dayMostSaid 102 = .ok (.iinc 3 1, 3) := by decide +kernel
theorem dX11_dayMostSaid_105 : decode cX11_dayMostSaid 105 = .ok (.goto (-99), 3) := by decide +kernel
theorem dX11_dayMostSaid_108 : decode cX11_dayMostSaid 108 = .ok (.iload_n 1, 1) := by decide +kernel
theorem dX11_dayMostSaid_109 : decode cX11_dayMostSaid 109 = .ok (.ireturn, 1) := by decide +kernel
def f_X11_dayMostSaid_b102 (rec_6 : TH → Option Nat → Int32 → Int32 → Int32 → Option (Int32 × TH)) (σ : TH) (l0 : Option Nat) (l1 : Int32) (l2 : Int32) (l3 : Int32) : Option (Int32 × TH) :=
  lt_ (l3 + 1) fun x11 => rec_6 σ l0 l1 l2 x11
set_option maxHeartbeats 4000000 in
set_option maxRecDepth 100000 in
theorem t_X11_dayMostSaid_b102 {l : Launch} {D : va_G} {cy : Nat → ClassId} {ka : Nat → Nat} {σ0 z : TH} {r : Int32} {rec_6 : TH → Option Nat → Int32 → Int32 → Int32 → Option (Int32 × TH)} (hrec_6 : ∀ (σ : TH) (l0 : Option Nat) (l1 : Int32) (l2 : Int32) (l3 : Int32), rec_6 σ l0 l1 l2 l3 = some (r, z) → v_ l D cy ka cX11_dayMostSaid RX11 7 (some FieldType.int) "dayMostSaid" 3 64 (qf_ D cy σ0 z (some (.int r))) σ0 z σ 6 [(0, va_rf l0), (1, .int l1), (2, .int l2), (3, .int l3)] []) {σ : TH} {l0 : Option Nat} {l1 : Int32} {l2 : Int32} {l3 : Int32} (hf : f_X11_dayMostSaid_b102 rec_6 σ l0 l1 l2 l3 = some (r, z)) : v_ l D cy ka cX11_dayMostSaid RX11 7 (some FieldType.int) "dayMostSaid" 3 64 (qf_ D cy σ0 z (some (.int r))) σ0 z σ 102 [(0, va_rf l0), (1, .int l1), (2, .int l2), (3, .int l3)] [] := by
  unfold f_X11_dayMostSaid_b102 at hf
  obtain ⟨x11, ex11⟩ : ∃ y : Int32, y = l3 + 1 := ⟨_, rfl⟩
  rw [lt_e, ← ex11] at hf
  refine v_iinc (v := x11) [(3, .int x11), (0, va_rf l0), (1, .int l1), (2, .int l2)] dX11_dayMostSaid_102 3 rfl (by rw [ex11]; rfl) (by decide) rfl ?_
  refine v_goto (tgt := 6) dX11_dayMostSaid_105 (by decide) ?_
  refine v_sub [1, 2, 3, 0] (L2 := [(0, va_rf l0), (1, .int l1), (2, .int l2), (3, .int x11)]) rfl ?_
  exact hrec_6 _ _ _ _ _ hf
def f_X11_dayMostSaid_b96 (rec_6 : TH → Option Nat → Int32 → Int32 → Int32 → Option (Int32 × TH)) (σ : TH) (l0 : Option Nat) (l3 : Int32) (l4 : Int32) (l5 : Int32) : Option (Int32 × TH) :=
  f_X11_dayMostSaid_b102 rec_6 σ l0 l4 l5 l3
set_option maxHeartbeats 4000000 in
set_option maxRecDepth 100000 in
theorem t_X11_dayMostSaid_b96 {l : Launch} {D : va_G} {cy : Nat → ClassId} {ka : Nat → Nat} {σ0 z : TH} {r : Int32} {rec_6 : TH → Option Nat → Int32 → Int32 → Int32 → Option (Int32 × TH)} (hrec_6 : ∀ (σ : TH) (l0 : Option Nat) (l1 : Int32) (l2 : Int32) (l3 : Int32), rec_6 σ l0 l1 l2 l3 = some (r, z) → v_ l D cy ka cX11_dayMostSaid RX11 7 (some FieldType.int) "dayMostSaid" 3 64 (qf_ D cy σ0 z (some (.int r))) σ0 z σ 6 [(0, va_rf l0), (1, .int l1), (2, .int l2), (3, .int l3)] []) {σ : TH} {l0 : Option Nat} {l3 : Int32} {l4 : Int32} {l5 : Int32} (hf : f_X11_dayMostSaid_b96 rec_6 σ l0 l3 l4 l5 = some (r, z)) : v_ l D cy ka cX11_dayMostSaid RX11 7 (some FieldType.int) "dayMostSaid" 3 64 (qf_ D cy σ0 z (some (.int r))) σ0 z σ 96 [(0, va_rf l0), (3, .int l3), (4, .int l4), (5, .int l5)] [] := by
  unfold f_X11_dayMostSaid_b96 at hf
  refine v_iload (x := l4) dX11_dayMostSaid_96 2 rfl ?_
  refine v_istore_n [(1, .int l4), (0, va_rf l0), (3, .int l3), (4, .int l4), (5, .int l5)] dX11_dayMostSaid_98 rfl (by decide) (by simp [va_rf_cat, cat_i, cat_l]) ?_
  refine v_iload (x := l5) dX11_dayMostSaid_99 4 rfl ?_
  refine v_istore_n [(2, .int l5), (1, .int l4), (0, va_rf l0), (3, .int l3), (4, .int l4), (5, .int l5)] dX11_dayMostSaid_101 rfl (by decide) rfl ?_
  refine v_sub [2, 1, 0, 3] (L2 := [(0, va_rf l0), (1, .int l4), (2, .int l5), (3, .int l3)]) rfl ?_
  exact t_X11_dayMostSaid_b102 hrec_6 hf
def f_X11_dayMostSaid_b66 (rec_33 : TH → Option Nat → Int32 → Int32 → Int32 → Int32 → Int32 → Int32 → Option (Int32 × TH)) (σ : TH) (l0 : Option Nat) (l1 : Int32) (l2 : Int32) (l3 : Int32) (l4 : Int32) (l6 : Int32) (t0 : Int32) (t1 : Int32) : Option (Int32 × TH) :=
  bd_ (f_X11_asNumber σ t0) fun x16 s17 => lt_ (t1 + x16) fun x18 => lt_ (l6 + 1) fun x19 => rec_33 s17 l0 l1 l2 l3 l4 x18 x19
set_option maxHeartbeats 4000000 in
set_option maxRecDepth 100000 in
theorem t_X11_dayMostSaid_b66 {l : Launch} {D : va_G} {cy : Nat → ClassId} {ka : Nat → Nat} {σ0 z : TH} {r : Int32} {rec_33 : TH → Option Nat → Int32 → Int32 → Int32 → Int32 → Int32 → Int32 → Option (Int32 × TH)} (hrec_33 : ∀ (σ : TH) (l0 : Option Nat) (l1 : Int32) (l2 : Int32) (l3 : Int32) (l4 : Int32) (l5 : Int32) (l6 : Int32), rec_33 σ l0 l1 l2 l3 l4 l5 l6 = some (r, z) → v_ l D cy ka cX11_dayMostSaid RX11 7 (some FieldType.int) "dayMostSaid" 3 64 (qf_ D cy σ0 z (some (.int r))) σ0 z σ 33 [(0, va_rf l0), (1, .int l1), (2, .int l2), (3, .int l3), (4, .int l4), (5, .int l5), (6, .int l6)] []) {σ : TH} {l0 : Option Nat} {l1 : Int32} {l2 : Int32} {l3 : Int32} {l4 : Int32} {l6 : Int32} {t0 : Int32} {t1 : Int32} (hf : f_X11_dayMostSaid_b66 rec_33 σ l0 l1 l2 l3 l4 l6 t0 t1 = some (r, z)) : v_ l D cy ka cX11_dayMostSaid RX11 7 (some FieldType.int) "dayMostSaid" 3 64 (qf_ D cy σ0 z (some (.int r))) σ0 z σ 66 [(0, va_rf l0), (1, .int l1), (2, .int l2), (3, .int l3), (4, .int l4), (6, .int l6)] [.int t0, .int t1] := by
  unfold f_X11_dayMostSaid_b66 at hf
  obtain ⟨x16, s17, hcs17, hf⟩ := bd_of hf
  have hts17 := c_X11_asNumber (l := l) (D := D) (cy := cy) (ka := ka) hcs17
  refine v_callS (As := [.int t0]) (rest := [.int t1]) hts17 yb_X11_asNumber kw_442 kw_443 rfl ⟨Nat.le_of_ble_eq_true rfl, Nat.le_of_ble_eq_true rfl⟩ rfl (cat_len (Nat.le_of_ble_eq_true rfl)) dX11_dayMostSaid_66 ?_
  show v_ l D cy ka cX11_dayMostSaid RX11 7 (some FieldType.int) "dayMostSaid" 3 64 (qf_ D cy σ0 z (some (.int r))) σ0 z _ 69 [(0, va_rf l0), (1, .int l1), (2, .int l2), (3, .int l3), (4, .int l4), (6, .int l6)] [.int x16, .int t1]
  refine v_iadd dX11_dayMostSaid_69 ?_
  obtain ⟨x18, ex18⟩ : ∃ y : Int32, y = t1 + x16 := ⟨_, rfl⟩
  rw [lt_e, ← ex18] at hf
  rw [← ex18]
  refine v_istore [(5, .int x18), (0, va_rf l0), (1, .int l1), (2, .int l2), (3, .int l3), (4, .int l4), (6, .int l6)] dX11_dayMostSaid_70 (by decide) rfl ?_
  obtain ⟨x19, ex19⟩ : ∃ y : Int32, y = l6 + 1 := ⟨_, rfl⟩
  rw [lt_e, ← ex19] at hf
  refine v_iinc (v := x19) [(6, .int x19), (5, .int x18), (0, va_rf l0), (1, .int l1), (2, .int l2), (3, .int l3), (4, .int l4)] dX11_dayMostSaid_72 6 rfl (by rw [ex19]; rfl) (by decide) rfl ?_
  refine v_goto (tgt := 33) dX11_dayMostSaid_75 (by decide) ?_
  refine v_sub [2, 3, 4, 5, 6, 1, 0] (L2 := [(0, va_rf l0), (1, .int l1), (2, .int l2), (3, .int l3), (4, .int l4), (5, .int x18), (6, .int x19)]) rfl ?_
  exact hrec_33 _ _ _ _ _ _ _ _ hf
def f_X11_dayMostSaid_b33 (rec_6 : TH → Option Nat → Int32 → Int32 → Int32 → Option (Int32 × TH)) : Nat → TH → Option Nat → Int32 → Int32 → Int32 → Int32 → Int32 → Int32 → Option (Int32 × TH)
  | 0, _, _, _, _, _, _, _, _ => none
  | n + 1, σ, l0, l1, l2, l3, l4, l5, l6 => nn_ l0 fun a8 => gt_ (kd_ σ a8 = 1) <| bd_ (f_Jx4a65c_size_8abf5 σ a8) fun x9 s10 => if x9 ≤ l6 then (if l2 < l5 then (f_X11_dayMostSaid_b96 rec_6 s10 (some a8) l3 l4 l5) else (if l5 = l2 then (if l1 ≤ l4 then (f_X11_dayMostSaid_b102 rec_6 s10 (some a8) l1 l2 l3) else (f_X11_dayMostSaid_b96 rec_6 s10 (some a8) l3 l4 l5)) else (f_X11_dayMostSaid_b102 rec_6 s10 (some a8) l1 l2 l3))) else (bd_ (f_Jx4a65c_get_915e3 s10 a8 l6) fun r12 s13 => gt_ (Option.elim r12 9 (kd_ s13) = 9) <| nn_ r12 fun a14 => gt_ (kd_ s13 a14 = 9) <| lt_ (fi_ s13 802 a14) fun x15 => if x15 = l4 then (f_X11_dayMostSaid_b66 (f_X11_dayMostSaid_b33 rec_6 n) s13 (some a8) l1 l2 l3 l4 l6 (1 : Int32) l5) else (f_X11_dayMostSaid_b66 (f_X11_dayMostSaid_b33 rec_6 n) s13 (some a8) l1 l2 l3 l4 l6 (0 : Int32) l5))
set_option maxHeartbeats 4000000 in
set_option maxRecDepth 100000 in
theorem t_X11_dayMostSaid_b33 {l : Launch} {D : va_G} {cy : Nat → ClassId} {ka : Nat → Nat} {σ0 z : TH} {r : Int32} {rec_6 : TH → Option Nat → Int32 → Int32 → Int32 → Option (Int32 × TH)} (hrec_6 : ∀ (σ : TH) (l0 : Option Nat) (l1 : Int32) (l2 : Int32) (l3 : Int32), rec_6 σ l0 l1 l2 l3 = some (r, z) → v_ l D cy ka cX11_dayMostSaid RX11 7 (some FieldType.int) "dayMostSaid" 3 64 (qf_ D cy σ0 z (some (.int r))) σ0 z σ 6 [(0, va_rf l0), (1, .int l1), (2, .int l2), (3, .int l3)] []) : ∀ (n : Nat) (σ : TH) (l0 : Option Nat) (l1 : Int32) (l2 : Int32) (l3 : Int32) (l4 : Int32) (l5 : Int32) (l6 : Int32), f_X11_dayMostSaid_b33 rec_6 n σ l0 l1 l2 l3 l4 l5 l6 = some (r, z) → v_ l D cy ka cX11_dayMostSaid RX11 7 (some FieldType.int) "dayMostSaid" 3 64 (qf_ D cy σ0 z (some (.int r))) σ0 z σ 33 [(0, va_rf l0), (1, .int l1), (2, .int l2), (3, .int l3), (4, .int l4), (5, .int l5), (6, .int l6)] [] := by
  intro n
  induction n with
  | zero => intro σ l0 l1 l2 l3 l4 l5 l6 hf; unfold f_X11_dayMostSaid_b33 at hf; cases hf
  | succ n ih =>
    intro σ l0 l1 l2 l3 l4 l5 l6 hf
    unfold f_X11_dayMostSaid_b33 at hf
    have hrec_33 := ih
    refine v_iload (x := l6) dX11_dayMostSaid_33 6 rfl ?_
    refine v_aload_n (x := l0) dX11_dayMostSaid_35 rfl 0 rfl ?_
    obtain ⟨a8, rfl, hf⟩ := nn_of hf
    obtain ⟨hk_a8, hf⟩ := gt_of hf
    obtain ⟨x9, s10, hcs10, hf⟩ := bd_of hf
    have hts10 := c_Jx4a65c_size_8abf5 (l := l) (D := D) (cy := cy) (ka := ka) hcs10
    refine v_callV cb_0 hk_a8 (As := []) (rest := [.int l6]) hts10 yb_Jx4a65c_size_8abf5 kw_311 kw_312 kw_313 rfl ⟨Nat.le_of_ble_eq_true rfl, Nat.le_of_ble_eq_true rfl⟩ rfl (cat_len (Nat.le_of_ble_eq_true rfl)) dX11_dayMostSaid_36 ?_
    have hk_a8 := tk_ hts10.1 hk_a8
    show v_ l D cy ka cX11_dayMostSaid RX11 7 (some FieldType.int) "dayMostSaid" 3 64 (qf_ D cy σ0 z (some (.int r))) σ0 z _ 39 [(0, va_rf (some a8)), (1, .int l1), (2, .int l2), (3, .int l3), (4, .int l4), (5, .int l5), (6, .int l6)] [.int x9, .int l6]
    refine v_icmp_ge (tgt := 78) hf dX11_dayMostSaid_39 (by decide) (fun hq hf => ?_) (fun hq hf => ?_)
    · refine v_iload (x := l5) dX11_dayMostSaid_78 5 rfl ?_
      refine v_iload_n (x := l2) dX11_dayMostSaid_80 rfl 2 rfl ?_
      refine v_icmp_gt (tgt := 96) hf dX11_dayMostSaid_81 (by decide) (fun hq hf => ?_) (fun hq hf => ?_)
      · refine v_sub [0, 3, 4, 5] (L2 := [(0, va_rf (some a8)), (3, .int l3), (4, .int l4), (5, .int l5)]) rfl ?_
        exact t_X11_dayMostSaid_b96 hrec_6 hf
      · refine v_iload (x := l5) dX11_dayMostSaid_84 5 rfl ?_
        refine v_iload_n (x := l2) dX11_dayMostSaid_86 rfl 2 rfl ?_
        refine v_icmp_ne (tgt := 102) hf dX11_dayMostSaid_87 (by decide) (fun hq hf => ?_) (fun hq hf => ?_)
        · refine v_iload (x := l4) dX11_dayMostSaid_90 4 rfl ?_
          refine v_iload_n (x := l1) dX11_dayMostSaid_92 rfl 1 rfl ?_
          refine v_icmp_ge (tgt := 102) hf dX11_dayMostSaid_93 (by decide) (fun hq hf => ?_) (fun hq hf => ?_)
          · refine v_sub [0, 1, 2, 3] (L2 := [(0, va_rf (some a8)), (1, .int l1), (2, .int l2), (3, .int l3)]) rfl ?_
            exact t_X11_dayMostSaid_b102 hrec_6 hf
          · refine v_sub [0, 3, 4, 5] (L2 := [(0, va_rf (some a8)), (3, .int l3), (4, .int l4), (5, .int l5)]) rfl ?_
            exact t_X11_dayMostSaid_b96 hrec_6 hf
        · refine v_sub [0, 1, 2, 3] (L2 := [(0, va_rf (some a8)), (1, .int l1), (2, .int l2), (3, .int l3)]) rfl ?_
          exact t_X11_dayMostSaid_b102 hrec_6 hf
    · refine v_iload (x := l5) dX11_dayMostSaid_42 5 rfl ?_
      refine v_aload_n (x := (some a8)) dX11_dayMostSaid_44 rfl 0 rfl ?_
      refine v_iload (x := l6) dX11_dayMostSaid_45 6 rfl ?_
      obtain ⟨r12, s13, hcs13, hf⟩ := bd_of hf
      have hts13 := c_Jx4a65c_get_915e3 (l := l) (D := D) (cy := cy) (ka := ka) hcs13
      refine v_callV cb_0 hk_a8 (As := [.int l6]) (rest := [.int l5]) hts13 yb_Jx4a65c_get_915e3 kw_407 kw_408 kw_409 rfl ⟨Nat.le_of_ble_eq_true rfl, Nat.le_of_ble_eq_true rfl⟩ rfl (cat_len (Nat.le_of_ble_eq_true rfl)) dX11_dayMostSaid_47 ?_
      have hk_a8 := tk_ hts13.1 hk_a8
      show v_ l D cy ka cX11_dayMostSaid RX11 7 (some FieldType.int) "dayMostSaid" 3 64 (qf_ D cy σ0 z (some (.int r))) σ0 z _ 50 [(0, va_rf (some a8)), (1, .int l1), (2, .int l2), (3, .int l3), (4, .int l4), (5, .int l5), (6, .int l6)] [va_rf r12, .int l5]
      refine v_cast cb_8 9 rfl kw_996 hf dX11_dayMostSaid_50 (fun hf => ?_)
      obtain ⟨a14, rfl, hf⟩ := nn_of hf
      obtain ⟨hk_a14, hf⟩ := gt_of hf
      refine v_geti cb_8 hk_a14 2 802 rfl (by decide) rfl (lk_n kw_1006 rfl) hf dX11_dayMostSaid_53 (fun x15 hf => ?_)
      refine v_iload (x := l4) dX11_dayMostSaid_56 4 rfl ?_
      refine v_icmp_ne (tgt := 65) hf dX11_dayMostSaid_58 (by decide) (fun hq hf => ?_) (fun hq hf => ?_)
      · refine v_iconst (v := 1) dX11_dayMostSaid_61 (by decide) ?_
        refine v_goto (tgt := 66) dX11_dayMostSaid_62 (by decide) ?_
        refine v_sub [0, 1, 2, 3, 4, 6] (L2 := [(0, va_rf (some a8)), (1, .int l1), (2, .int l2), (3, .int l3), (4, .int l4), (6, .int l6)]) rfl ?_
        exact t_X11_dayMostSaid_b66 hrec_33 hf
      · refine v_iconst (v := 0) dX11_dayMostSaid_65 (by decide) ?_
        refine v_sub [0, 1, 2, 3, 4, 6] (L2 := [(0, va_rf (some a8)), (1, .int l1), (2, .int l2), (3, .int l3), (4, .int l4), (6, .int l6)]) rfl ?_
        exact t_X11_dayMostSaid_b66 hrec_33 hf
def f_X11_dayMostSaid_b6 : Nat → TH → Option Nat → Int32 → Int32 → Int32 → Option (Int32 × TH)
  | 0, _, _, _, _, _ => none
  | n + 1, σ, l0, l1, l2, l3 => nn_ l0 fun a1 => gt_ (kd_ σ a1 = 1) <| bd_ (f_Jx4a65c_size_8abf5 σ a1) fun x2 s3 => if x2 ≤ l3 then (some (l1, s3)) else (bd_ (f_Jx4a65c_get_915e3 s3 a1 l3) fun r4 s5 => gt_ (Option.elim r4 9 (kd_ s5) = 9) <| nn_ r4 fun a6 => gt_ (kd_ s5 a6 = 9) <| lt_ (fi_ s5 802 a6) fun x7 => f_X11_dayMostSaid_b33 (f_X11_dayMostSaid_b6 n) fu_ s5 (some a1) l1 l2 l3 x7 (0 : Int32) (0 : Int32))
set_option maxHeartbeats 4000000 in
set_option maxRecDepth 100000 in
theorem t_X11_dayMostSaid_b6 {l : Launch} {D : va_G} {cy : Nat → ClassId} {ka : Nat → Nat} {σ0 z : TH} {r : Int32}  : ∀ (n : Nat) (σ : TH) (l0 : Option Nat) (l1 : Int32) (l2 : Int32) (l3 : Int32), f_X11_dayMostSaid_b6 n σ l0 l1 l2 l3 = some (r, z) → v_ l D cy ka cX11_dayMostSaid RX11 7 (some FieldType.int) "dayMostSaid" 3 64 (qf_ D cy σ0 z (some (.int r))) σ0 z σ 6 [(0, va_rf l0), (1, .int l1), (2, .int l2), (3, .int l3)] [] := by
  intro n
  induction n with
  | zero => intro σ l0 l1 l2 l3 hf; unfold f_X11_dayMostSaid_b6 at hf; cases hf
  | succ n ih =>
    intro σ l0 l1 l2 l3 hf
    unfold f_X11_dayMostSaid_b6 at hf
    have hrec_6 := ih
    refine v_iload_n (x := l3) dX11_dayMostSaid_6 rfl 3 rfl ?_
    refine v_aload_n (x := l0) dX11_dayMostSaid_7 rfl 0 rfl ?_
    obtain ⟨a1, rfl, hf⟩ := nn_of hf
    obtain ⟨hk_a1, hf⟩ := gt_of hf
    obtain ⟨x2, s3, hcs3, hf⟩ := bd_of hf
    have hts3 := c_Jx4a65c_size_8abf5 (l := l) (D := D) (cy := cy) (ka := ka) hcs3
    refine v_callV cb_0 hk_a1 (As := []) (rest := [.int l3]) hts3 yb_Jx4a65c_size_8abf5 kw_311 kw_312 kw_313 rfl ⟨Nat.le_of_ble_eq_true rfl, Nat.le_of_ble_eq_true rfl⟩ rfl (cat_len (Nat.le_of_ble_eq_true rfl)) dX11_dayMostSaid_8 ?_
    have hk_a1 := tk_ hts3.1 hk_a1
    show v_ l D cy ka cX11_dayMostSaid RX11 7 (some FieldType.int) "dayMostSaid" 3 64 (qf_ D cy σ0 z (some (.int r))) σ0 z _ 11 [(0, va_rf (some a1)), (1, .int l1), (2, .int l2), (3, .int l3)] [.int x2, .int l3]
    refine v_icmp_ge (tgt := 108) hf dX11_dayMostSaid_11 (by decide) (fun hq hf => ?_) (fun hq hf => ?_)
    · refine v_iload_n (x := l1) dX11_dayMostSaid_108 rfl 1 rfl ?_
      exact v_iret hf dX11_dayMostSaid_109
    · refine v_aload_n (x := (some a1)) dX11_dayMostSaid_14 rfl 0 rfl ?_
      refine v_iload_n (x := l3) dX11_dayMostSaid_15 rfl 3 rfl ?_
      obtain ⟨r4, s5, hcs5, hf⟩ := bd_of hf
      have hts5 := c_Jx4a65c_get_915e3 (l := l) (D := D) (cy := cy) (ka := ka) hcs5
      refine v_callV cb_0 hk_a1 (As := [.int l3]) (rest := []) hts5 yb_Jx4a65c_get_915e3 kw_407 kw_408 kw_409 rfl ⟨Nat.le_of_ble_eq_true rfl, Nat.le_of_ble_eq_true rfl⟩ rfl (cat_len (Nat.le_of_ble_eq_true rfl)) dX11_dayMostSaid_16 ?_
      have hk_a1 := tk_ hts5.1 hk_a1
      show v_ l D cy ka cX11_dayMostSaid RX11 7 (some FieldType.int) "dayMostSaid" 3 64 (qf_ D cy σ0 z (some (.int r))) σ0 z _ 19 [(0, va_rf (some a1)), (1, .int l1), (2, .int l2), (3, .int l3)] [va_rf r4]
      refine v_cast cb_8 9 rfl kw_996 hf dX11_dayMostSaid_19 (fun hf => ?_)
      obtain ⟨a6, rfl, hf⟩ := nn_of hf
      obtain ⟨hk_a6, hf⟩ := gt_of hf
      refine v_geti cb_8 hk_a6 2 802 rfl (by decide) rfl (lk_n kw_1006 rfl) hf dX11_dayMostSaid_22 (fun x7 hf => ?_)
      refine v_istore [(4, .int x7), (0, va_rf (some a1)), (1, .int l1), (2, .int l2), (3, .int l3)] dX11_dayMostSaid_25 (by decide) rfl ?_
      refine v_iconst (v := 0) dX11_dayMostSaid_27 (by decide) ?_
      refine v_istore [(5, .int (0 : Int32)), (4, .int x7), (0, va_rf (some a1)), (1, .int l1), (2, .int l2), (3, .int l3)] dX11_dayMostSaid_28 (by decide) rfl ?_
      refine v_iconst (v := 0) dX11_dayMostSaid_30 (by decide) ?_
      refine v_istore [(6, .int (0 : Int32)), (5, .int (0 : Int32)), (4, .int x7), (0, va_rf (some a1)), (1, .int l1), (2, .int l2), (3, .int l3)] dX11_dayMostSaid_31 (by decide) rfl ?_
      refine v_sub [3, 4, 5, 6, 2, 1, 0] (L2 := [(0, va_rf (some a1)), (1, .int l1), (2, .int l2), (3, .int l3), (4, .int x7), (5, .int (0 : Int32)), (6, .int (0 : Int32))]) rfl ?_
      exact t_X11_dayMostSaid_b33 hrec_6 _ _ _ _ _ _ _ _ _ hf
/-- LivesAhead.dayMostSaid(Ljava/util/ArrayList;)I -/
def f_X11_dayMostSaid (σ : TH) (p0 : Option Nat) : Option (Int32 × TH) :=
  f_X11_dayMostSaid_b6 fu_ σ p0 (-1 : Int32) (0 : Int32) (0 : Int32)
set_option maxHeartbeats 4000000 in
set_option maxRecDepth 100000 in
theorem c_X11_dayMostSaid {l : Launch} {D : va_G} {cy : Nat → ClassId} {ka : Nat → Nat} {σ z : TH} {p0 : Option Nat} {r : Int32} (hf : f_X11_dayMostSaid σ p0 = some (r, z)) : ct_ l D cy ka yX11_dayMostSaid 3 64 [va_rf p0] σ (some (.int r)) z := by
  unfold f_X11_dayMostSaid at hf
  refine v_start (cc := cX11_dayMostSaid) (own := RX11) (maxL := 7) (ret := (some FieldType.int)) (nm := "dayMostSaid") (by decide +kernel) kw_1096 rfl rfl (by simp [lg_sl, va_rf_cat, cat_i, cat_l]) ?_
  refine v_eqL (L2 := [(0, va_rf p0)]) (by simp [lv_args, va_rf_cat, cat_i, cat_l]) ?_
  refine v_iconst (v := (-1)) dX11_dayMostSaid_0 (by decide) ?_
  refine v_istore_n [(1, .int (-1 : Int32)), (0, va_rf p0)] dX11_dayMostSaid_1 rfl (by decide) (by simp [va_rf_cat, cat_i, cat_l]) ?_
  refine v_iconst (v := 0) dX11_dayMostSaid_2 (by decide) ?_
  refine v_istore_n [(2, .int (0 : Int32)), (1, .int (-1 : Int32)), (0, va_rf p0)] dX11_dayMostSaid_3 rfl (by decide) rfl ?_
  refine v_iconst (v := 0) dX11_dayMostSaid_4 (by decide) ?_
  refine v_istore_n [(3, .int (0 : Int32)), (2, .int (0 : Int32)), (1, .int (-1 : Int32)), (0, va_rf p0)] dX11_dayMostSaid_5 rfl (by decide) rfl ?_
  refine v_sub [3, 2, 1, 0] (L2 := [(0, va_rf p0), (1, .int (-1 : Int32)), (2, .int (0 : Int32)), (3, .int (0 : Int32))]) rfl ?_
  exact t_X11_dayMostSaid_b6  _ _ _ _ _ _ hf
theorem dX11_tell_0 : decode cX11_tell 0 = .ok (.aload_n 0, 1) := by decide +kernel
theorem dX11_tell_1 : decode cX11_tell 1 = .ok (.iload_n 1, 1) := by decide +kernel
theorem dX11_tell_2 : decode cX11_tell 2 = .ok (.invokevirtual 149, 3) := by decide +kernel
theorem dX11_tell_5 : decode cX11_tell 5 = .ok (.astore_n 2, 1) := by decide +kernel
theorem dX11_tell_6 : decode cX11_tell 6 = .ok (.aload_n 2, 1) := by decide +kernel
theorem dX11_tell_7 : decode cX11_tell 7 = .ok (.ifnonnull 9, 3) := by decide +kernel
theorem dX11_tell_10 : decode cX11_tell 10 = .ok (.aload_n 0, 1) := by decide +kernel
theorem dX11_tell_11 : decode cX11_tell 11 = .ok (.iconst 1, 1) := by decide +kernel
theorem dX11_tell_12 : decode cX11_tell 12 = .ok (.invokevirtual 97, 3) := by decide +kernel
theorem dX11_tell_15 : decode cX11_tell 15 = .ok (.ireturn, 1) := by decide +kernel
theorem dX11_tell_16 : decode cX11_tell 16 = .ok (.aload_n 2, 1) := by decide +kernel
theorem dX11_tell_17 : decode cX11_tell 17 = .ok (.invokevirtual 166, 3) := by decide +kernel
theorem dX11_tell_20 : decode cX11_tell 20 = .ok (.ifCond .eq 9, 3) := by decide +kernel
theorem dX11_tell_23 : decode cX11_tell 23 = .ok (.aload_n 0, 1) := by decide +kernel
theorem dX11_tell_24 : decode cX11_tell 24 = .ok (.iconst 5, 1) := by decide +kernel
theorem dX11_tell_25 : decode cX11_tell 25 = .ok (.invokevirtual 97, 3) := by decide +kernel
theorem dX11_tell_28 : decode cX11_tell 28 = .ok (.ireturn, 1) := by decide +kernel
theorem dX11_tell_29 : decode cX11_tell 29 = .ok (.aload_n 0, 1) := by decide +kernel
theorem dX11_tell_30 : decode cX11_tell 30 = .ok (.iload_n 1, 1) := by decide +kernel
theorem dX11_tell_31 : decode cX11_tell 31 = .ok (.invokevirtual 347, 3) := by decide +kernel
theorem dX11_tell_34 : decode cX11_tell 34 = .ok (.astore_n 3, 1) := by decide +kernel
theorem dX11_tell_35 : decode cX11_tell 35 = .ok (.aload_n 0, 1) := by decide +kernel
theorem dX11_tell_36 : decode cX11_tell 36 = .ok (.aload_n 2, 1) := by decide +kernel
theorem dX11_tell_37 : decode cX11_tell 37 = .ok (.aload_n 3, 1) := by decide +kernel
theorem dX11_tell_38 : decode cX11_tell 38 = .ok (.invokevirtual 351, 3) := by decide +kernel
theorem dX11_tell_41 : decode cX11_tell 41 = .ok (.ifCond .ne 9, 3) := by decide +kernel
theorem dX11_tell_44 : decode cX11_tell 44 = .ok (.aload_n 0, 1) := by decide +kernel
theorem dX11_tell_45 : decode cX11_tell 45 = .ok (.iconst 5, 1) := by decide +kernel
theorem dX11_tell_46 : decode cX11_tell 46 = .ok (.invokevirtual 97, 3) := by decide +kernel
theorem dX11_tell_49 : decode cX11_tell 49 = .ok (.ireturn, 1) := by decide +kernel
theorem dX11_tell_50 : decode cX11_tell 50 = .ok (.aload_n 2, 1) := by decide +kernel
theorem dX11_tell_51 : decode cX11_tell 51 = .ok (.aload_n 3, 1) := by decide +kernel
theorem dX11_tell_52 : decode cX11_tell 52 = .ok (.invokestatic 355, 3) := by decide +kernel
theorem dX11_tell_55 : decode cX11_tell 55 = .ok (.putfield 173, 3) := by decide +kernel
theorem dX11_tell_58 : decode cX11_tell 58 = .ok (.aload_n 0, 1) := by decide +kernel
theorem dX11_tell_59 : decode cX11_tell 59 = .ok (.aload_n 2, 1) := by decide +kernel
theorem dX11_tell_60 : decode cX11_tell 60 = .ok (.getfield 173, 3) := by decide +kernel
theorem dX11_tell_63 : decode cX11_tell 63 = .ok (.invokevirtual 114, 3) := by decide +kernel
theorem dX11_tell_66 : decode cX11_tell 66 = .ok (.ireturn, 1) := by decide +kernel
/-- LivesAhead.tell(I)I -/
def f_X11_tell (ka : Nat → Nat) (σ : TH) (p0 : Nat) (p1 : Int32) : Option (Int32 × TH) :=
  gt_ (kd_ σ p0 = 13) <| bd_ (f_X11_personAt σ p0 p1) fun r1 s2 => oc_ r1 (bd_ (f_X11_refused s2 p0 (1 : Int32)) fun x4 s5 => some (x4, s5)) (fun a3 => gt_ (kd_ s2 a3 = 4) <| bd_ (f_X2_isDead s2 a3) fun x6 s7 => if x6 = 0 then (bd_ (f_X11_proofsOf ka s7 p0 p1) fun r8 s9 => bd_ (f_X11_isProven s9 p0 (some a3) r8) fun x10 s11 => if x10 = 0 then (bd_ (f_X11_refused s11 p0 (5 : Int32)) fun x12 s13 => some (x12, s13)) else (bd_ (f_X11_dayMostSaid s11 r8) fun x14 s15 => lt_ (si_ s15 305 a3 x14) fun s16 => lt_ (fi_ s16 305 a3) fun x17 => bd_ (f_X11_granted s16 p0 x17) fun x18 s19 => some (x18, s19))) else (bd_ (f_X11_refused s7 p0 (5 : Int32)) fun x20 s21 => some (x20, s21)))
set_option maxHeartbeats 4000000 in
set_option maxRecDepth 100000 in
theorem c_X11_tell {l : Launch} {D : va_G} {cy : Nat → ClassId} {ka : Nat → Nat} {σ z : TH} {p0 : Nat} {p1 : Int32} {r : Int32} (hf : f_X11_tell ka σ p0 p1 = some (r, z)) : ct_ l D cy ka yX11_tell 8 215 [va_rf (some p0), .int p1] σ (some (.int r)) z := by
  unfold f_X11_tell at hf
  refine v_start (cc := cX11_tell) (own := RX11) (maxL := 4) (ret := (some FieldType.int)) (nm := "tell") (by decide +kernel) kw_1093 rfl rfl (by simp [lg_sl, va_rf_cat, cat_i, cat_l]) ?_
  refine v_eqL (L2 := [(0, va_rf (some p0)), (1, .int p1)]) (by simp [lv_args, va_rf_cat, cat_i, cat_l]) ?_
  refine v_aload_n (x := (some p0)) dX11_tell_0 rfl 0 rfl ?_
  refine v_iload_n (x := p1) dX11_tell_1 rfl 1 rfl ?_
  obtain ⟨hk_p0, hf⟩ := gt_of hf
  obtain ⟨r1, s2, hcs2, hf⟩ := bd_of hf
  have hts2 := c_X11_personAt (l := l) (D := D) (cy := cy) (ka := ka) hcs2
  refine v_callV cb_12 hk_p0 (As := [.int p1]) (rest := []) hts2 yb_X11_personAt kw_526 kw_528 kp_11 rfl ⟨Nat.le_of_ble_eq_true rfl, Nat.le_of_ble_eq_true rfl⟩ rfl (cat_len (Nat.le_of_ble_eq_true rfl)) dX11_tell_2 ?_
  have hk_p0 := tk_ hts2.1 hk_p0
  show v_ l D cy ka cX11_tell RX11 4 (some FieldType.int) "tell" 8 215 (qf_ D cy σ z (some (.int r))) σ z _ 5 [(0, va_rf (some p0)), (1, .int p1)] [va_rf r1]
  refine v_astore_n [(2, va_rf r1), (0, va_rf (some p0)), (1, .int p1)] dX11_tell_5 rfl (by decide) rfl ?_
  refine v_aload_n (x := r1) dX11_tell_6 rfl 0 rfl ?_
  refine v_ifnonnull2 (tgt := 16) hf dX11_tell_7 (by decide) (fun e9 hf9 => ?_) (fun a3 e9 hf9 => ?_)
  · subst e9
    replace hf := hf9
    clear hf9
    refine v_aload_n (x := (some p0)) dX11_tell_10 rfl 1 rfl ?_
    refine v_iconst (v := 1) dX11_tell_11 (by decide) ?_
    obtain ⟨x4, s5, hcs5, hf⟩ := bd_of hf
    have hts5 := c_X11_refused (l := l) (D := D) (cy := cy) (ka := ka) hcs5
    refine v_callV cb_12 hk_p0 (As := [.int (1 : Int32)]) (rest := []) hts5 yb_X11_refused kw_307 kw_309 kp_0 rfl ⟨Nat.le_of_ble_eq_true rfl, Nat.le_of_ble_eq_true rfl⟩ rfl (cat_len (Nat.le_of_ble_eq_true rfl)) dX11_tell_12 ?_
    have hk_p0 := tk_ hts5.1 hk_p0
    show v_ l D cy ka cX11_tell RX11 4 (some FieldType.int) "tell" 8 215 (qf_ D cy σ z (some (.int r))) σ z _ 15 [(2, va_rf none), (0, va_rf (some p0)), (1, .int p1)] [.int x4]
    exact v_iret hf dX11_tell_15
  · subst e9
    replace hf := hf9
    clear hf9
    refine v_aload_n (x := (some a3)) dX11_tell_16 rfl 0 rfl ?_
    obtain ⟨hk_a3, hf⟩ := gt_of hf
    obtain ⟨x6, s7, hcs7, hf⟩ := bd_of hf
    have hts7 := c_X2_isDead (l := l) (D := D) (cy := cy) (ka := ka) hcs7
    refine v_callV cb_3 hk_a3 (As := []) (rest := []) hts7 yb_X2_isDead kw_534 kw_535 kw_536 rfl ⟨Nat.le_of_ble_eq_true rfl, Nat.le_of_ble_eq_true rfl⟩ rfl (cat_len (Nat.le_of_ble_eq_true rfl)) dX11_tell_17 ?_
    have hk_p0 := tk_ hts7.1 hk_p0
    have hk_a3 := tk_ hts7.1 hk_a3
    show v_ l D cy ka cX11_tell RX11 4 (some FieldType.int) "tell" 8 215 (qf_ D cy σ z (some (.int r))) σ z _ 20 [(2, va_rf (some a3)), (0, va_rf (some p0)), (1, .int p1)] [.int x6]
    refine v_if_eq (tgt := 29) hf dX11_tell_20 (by decide) (fun hq hf => ?_) (fun hq hf => ?_)
    · refine v_aload_n (x := (some p0)) dX11_tell_29 rfl 1 rfl ?_
      refine v_iload_n (x := p1) dX11_tell_30 rfl 2 rfl ?_
      obtain ⟨r8, s9, hcs9, hf⟩ := bd_of hf
      have hts9 := c_X11_proofsOf (l := l) (D := D) (cy := cy) (ka := ka) hcs9
      refine v_callV cb_12 hk_p0 (As := [.int p1]) (rest := []) hts9 yb_X11_proofsOf kw_1072 kw_1074 kp_60 rfl ⟨Nat.le_of_ble_eq_true rfl, Nat.le_of_ble_eq_true rfl⟩ rfl (cat_len (Nat.le_of_ble_eq_true rfl)) dX11_tell_31 ?_
      have hk_p0 := tk_ hts9.1 hk_p0
      have hk_a3 := tk_ hts9.1 hk_a3
      show v_ l D cy ka cX11_tell RX11 4 (some FieldType.int) "tell" 8 215 (qf_ D cy σ z (some (.int r))) σ z _ 34 [(2, va_rf (some a3)), (0, va_rf (some p0)), (1, .int p1)] [va_rf r8]
      refine v_astore_n [(3, va_rf r8), (2, va_rf (some a3)), (0, va_rf (some p0)), (1, .int p1)] dX11_tell_34 rfl (by decide) rfl ?_
      refine v_aload_n (x := (some p0)) dX11_tell_35 rfl 2 rfl ?_
      refine v_aload_n (x := (some a3)) dX11_tell_36 rfl 1 rfl ?_
      refine v_aload_n (x := r8) dX11_tell_37 rfl 0 rfl ?_
      obtain ⟨x10, s11, hcs11, hf⟩ := bd_of hf
      have hts11 := c_X11_isProven (l := l) (D := D) (cy := cy) (ka := ka) hcs11
      refine v_callV cb_12 hk_p0 (As := [va_rf (some a3), va_rf r8]) (rest := []) hts11 yb_X11_isProven kw_1076 kw_1078 kp_61 rfl ⟨Nat.le_of_ble_eq_true rfl, Nat.le_of_ble_eq_true rfl⟩ rfl (cat_len (Nat.le_of_ble_eq_true rfl)) dX11_tell_38 ?_
      have hk_p0 := tk_ hts11.1 hk_p0
      have hk_a3 := tk_ hts11.1 hk_a3
      show v_ l D cy ka cX11_tell RX11 4 (some FieldType.int) "tell" 8 215 (qf_ D cy σ z (some (.int r))) σ z _ 41 [(3, va_rf r8), (2, va_rf (some a3)), (0, va_rf (some p0)), (1, .int p1)] [.int x10]
      refine v_if_ne (tgt := 50) hf dX11_tell_41 (by decide) (fun hq hf => ?_) (fun hq hf => ?_)
      · refine v_aload_n (x := (some p0)) dX11_tell_44 rfl 2 rfl ?_
        refine v_iconst (v := 5) dX11_tell_45 (by decide) ?_
        obtain ⟨x12, s13, hcs13, hf⟩ := bd_of hf
        have hts13 := c_X11_refused (l := l) (D := D) (cy := cy) (ka := ka) hcs13
        refine v_callV cb_12 hk_p0 (As := [.int (5 : Int32)]) (rest := []) hts13 yb_X11_refused kw_307 kw_309 kp_0 rfl ⟨Nat.le_of_ble_eq_true rfl, Nat.le_of_ble_eq_true rfl⟩ rfl (cat_len (Nat.le_of_ble_eq_true rfl)) dX11_tell_46 ?_
        have hk_p0 := tk_ hts13.1 hk_p0
        have hk_a3 := tk_ hts13.1 hk_a3
        show v_ l D cy ka cX11_tell RX11 4 (some FieldType.int) "tell" 8 215 (qf_ D cy σ z (some (.int r))) σ z _ 49 [(3, va_rf r8), (2, va_rf (some a3)), (0, va_rf (some p0)), (1, .int p1)] [.int x12]
        exact v_iret hf dX11_tell_49
      · refine v_aload_n (x := (some a3)) dX11_tell_50 rfl 1 rfl ?_
        refine v_aload_n (x := r8) dX11_tell_51 rfl 0 rfl ?_
        obtain ⟨x14, s15, hcs15, hf⟩ := bd_of hf
        have hts15 := c_X11_dayMostSaid (l := l) (D := D) (cy := cy) (ka := ka) hcs15
        refine v_callS (As := [va_rf r8]) (rest := [va_rf (some a3)]) hts15 yb_X11_dayMostSaid kw_1094 kw_1095 rfl ⟨Nat.le_of_ble_eq_true rfl, Nat.le_of_ble_eq_true rfl⟩ rfl (cat_len (Nat.le_of_ble_eq_true rfl)) dX11_tell_52 ?_
        have hk_p0 := tk_ hts15.1 hk_p0
        have hk_a3 := tk_ hts15.1 hk_a3
        show v_ l D cy ka cX11_tell RX11 4 (some FieldType.int) "tell" 8 215 (qf_ D cy σ z (some (.int r))) σ z _ 55 [(3, va_rf r8), (2, va_rf (some a3)), (0, va_rf (some p0)), (1, .int p1)] [.int x14, va_rf (some a3)]
        refine v_puti2 cb_3 hk_a3 5 305 rfl (by decide) rfl (lk_n kw_475 rfl) (Or.inl rfl) rfl rfl hf dX11_tell_55 (fun s16 hts16 hf => ?_)
        have hk_p0 := tk_ hts16 hk_p0
        have hk_a3 := tk_ hts16 hk_a3
        refine v_aload_n (x := (some p0)) dX11_tell_58 rfl 2 rfl ?_
        refine v_aload_n (x := (some a3)) dX11_tell_59 rfl 1 rfl ?_
        refine v_geti cb_3 hk_a3 5 305 rfl (by decide) rfl (lk_n kw_475 rfl) hf dX11_tell_60 (fun x17 hf => ?_)
        obtain ⟨x18, s19, hcs19, hf⟩ := bd_of hf
        have hts19 := c_X11_granted (l := l) (D := D) (cy := cy) (ka := ka) hcs19
        refine v_callV cb_12 hk_p0 (As := [.int x17]) (rest := []) hts19 yb_X11_granted kw_395 kw_397 kp_4 rfl ⟨Nat.le_of_ble_eq_true rfl, Nat.le_of_ble_eq_true rfl⟩ rfl (cat_len (Nat.le_of_ble_eq_true rfl)) dX11_tell_63 ?_
        have hk_p0 := tk_ hts19.1 hk_p0
        have hk_a3 := tk_ hts19.1 hk_a3
        show v_ l D cy ka cX11_tell RX11 4 (some FieldType.int) "tell" 8 215 (qf_ D cy σ z (some (.int r))) σ z _ 66 [(3, va_rf r8), (2, va_rf (some a3)), (0, va_rf (some p0)), (1, .int p1)] [.int x18]
        exact v_iret hf dX11_tell_66
    · refine v_aload_n (x := (some p0)) dX11_tell_23 rfl 1 rfl ?_
      refine v_iconst (v := 5) dX11_tell_24 (by decide) ?_
      obtain ⟨x20, s21, hcs21, hf⟩ := bd_of hf
      have hts21 := c_X11_refused (l := l) (D := D) (cy := cy) (ka := ka) hcs21
      refine v_callV cb_12 hk_p0 (As := [.int (5 : Int32)]) (rest := []) hts21 yb_X11_refused kw_307 kw_309 kp_0 rfl ⟨Nat.le_of_ble_eq_true rfl, Nat.le_of_ble_eq_true rfl⟩ rfl (cat_len (Nat.le_of_ble_eq_true rfl)) dX11_tell_25 ?_
      have hk_p0 := tk_ hts21.1 hk_p0
      have hk_a3 := tk_ hts21.1 hk_a3
      show v_ l D cy ka cX11_tell RX11 4 (some FieldType.int) "tell" 8 215 (qf_ D cy σ z (some (.int r))) σ z _ 28 [(2, va_rf (some a3)), (0, va_rf (some p0)), (1, .int p1)] [.int x20]
      exact v_iret hf dX11_tell_28
theorem dX11_used_0 : decode cX11_used 0 = .ok (.iload_n 1, 1) := by decide +kernel
theorem dX11_used_1 : decode cX11_used 1 = .ok (.iconst 0, 1) := by decide +kernel
theorem dX11_used_2 : decode cX11_used 2 = .ok (.aload_n 0, 1) := by decide +kernel
theorem dX11_used_3 : decode cX11_used 3 = .ok (.getfield 25, 3) := by decide +kernel
theorem dX11_used_6 : decode cX11_used 6 = .ok (.invokevirtual 101, 3) := by decide +kernel
theorem dX11_used_9 : decode cX11_used 9 = .ok (.iconst 1, 1) := by decide +kernel
theorem dX11_used_10 : decode cX11_used 10 = .ok (.isub, 1) := by decide +kernel
theorem dX11_used_11 : decode cX11_used 11 = .ok (.invokestatic 93, 3) := by decide +kernel
theorem dX11_used_14 : decode cX11_used 14 = .ok (.ifCond .ne 5, 3) := by decide +kernel
theorem dX11_used_17 : decode cX11_used 17 = .ok (.iconst (-1), 1) := by decide +kernel
theorem dX11_used_18 : decode cX11_used 18 = .ok (.ireturn, 1) := by decide +kernel
theorem dX11_used_19 : decode cX11_used 19 = .ok (.aload_n 0, 1) := by decide +kernel
theorem dX11_used_20 : decode cX11_used 20 = .ok (.getfield 25, 3) := by decide +kernel
theorem dX11_used_23 : decode cX11_used 23 = .ok (.iload_n 1, 1) := by decide +kernel
theorem dX11_used_24 : decode cX11_used 24 = .ok (.invokevirtual 238, 3) := by decide +kernel
theorem dX11_used_27 : decode cX11_used 27 = .ok (.checkcast 359, 3) := by decide +kernel
theorem dX11_used_30 : decode cX11_used 30 = .ok (.getfield 362, 3) := by decide +kernel
theorem dX11_used_33 : decode cX11_used 33 = .ok (.ireturn, 1) := by decide +kernel
/-- LivesAhead.used(I)I -/
def f_X11_used (σ : TH) (p0 : Nat) (p1 : Int32) : Option (Int32 × TH) :=
  gt_ (kd_ σ p0 = 13) <| lt_ (fr_ σ 1204 p0) fun r1 => nn_ r1 fun a2 => gt_ (kd_ σ a2 = 1) <| bd_ (f_Jx4a65c_size_8abf5 σ a2) fun x3 s4 => bd_ (f_X11_within s4 p1 (0 : Int32) (x3 - (1 : Int32))) fun x5 s6 => if x5 = 0 then (some ((-1 : Int32), s6)) else (lt_ (fr_ s6 1204 p0) fun r7 => nn_ r7 fun a8 => gt_ (kd_ s6 a8 = 1) <| bd_ (f_Jx4a65c_get_915e3 s6 a8 p1) fun r9 s10 => gt_ (Option.elim r9 5 (kd_ s10) = 5) <| nn_ r9 fun a11 => gt_ (kd_ s10 a11 = 5) <| lt_ (fi_ s10 405 a11) fun x12 => some (x12, s10))
set_option maxHeartbeats 4000000 in
set_option maxRecDepth 100000 in
theorem c_X11_used {l : Launch} {D : va_G} {cy : Nat → ClassId} {ka : Nat → Nat} {σ z : TH} {p0 : Nat} {p1 : Int32} {r : Int32} (hf : f_X11_used σ p0 p1 = some (r, z)) : ct_ l D cy ka yX11_used 3 64 [va_rf (some p0), .int p1] σ (some (.int r)) z := by
  unfold f_X11_used at hf
  refine v_start (cc := cX11_used) (own := RX11) (maxL := 2) (ret := (some FieldType.int)) (nm := "used") (by decide +kernel) kw_1132 rfl rfl (by simp [lg_sl, va_rf_cat, cat_i, cat_l]) ?_
  refine v_eqL (L2 := [(0, va_rf (some p0)), (1, .int p1)]) (by simp [lv_args, va_rf_cat, cat_i, cat_l]) ?_
  refine v_iload_n (x := p1) dX11_used_0 rfl 1 rfl ?_
  refine v_iconst (v := 0) dX11_used_1 (by decide) ?_
  refine v_aload_n (x := (some p0)) dX11_used_2 rfl 0 rfl ?_
  obtain ⟨hk_p0, hf⟩ := gt_of hf
  refine v_getr cb_12 hk_p0 4 1204 rfl (by decide) rfl (lk_n kw_243 rfl) hf dX11_used_3 (fun r1 hf => ?_)
  obtain ⟨a2, rfl, hf⟩ := nn_of hf
  obtain ⟨hk_a2, hf⟩ := gt_of hf
  obtain ⟨x3, s4, hcs4, hf⟩ := bd_of hf
  have hts4 := c_Jx4a65c_size_8abf5 (l := l) (D := D) (cy := cy) (ka := ka) hcs4
  refine v_callV cb_0 hk_a2 (As := []) (rest := [.int (0 : Int32), .int p1]) hts4 yb_Jx4a65c_size_8abf5 kw_311 kw_312 kw_313 rfl ⟨Nat.le_of_ble_eq_true rfl, Nat.le_of_ble_eq_true rfl⟩ rfl (cat_len (Nat.le_of_ble_eq_true rfl)) dX11_used_6 ?_
  have hk_p0 := tk_ hts4.1 hk_p0
  show v_ l D cy ka cX11_used RX11 2 (some FieldType.int) "used" 3 64 (qf_ D cy σ z (some (.int r))) σ z _ 9 [(0, va_rf (some p0)), (1, .int p1)] [.int x3, .int (0 : Int32), .int p1]
  refine v_iconst (v := 1) dX11_used_9 (by decide) ?_
  refine v_isub dX11_used_10 ?_
  obtain ⟨x5, s6, hcs6, hf⟩ := bd_of hf
  have hts6 := c_X11_within (l := l) (D := D) (cy := cy) (ka := ka) hcs6
  refine v_callS (As := [.int p1, .int (0 : Int32), .int (x3 - (1 : Int32))]) (rest := []) hts6 yb_X11_within kw_304 kw_305 rfl ⟨Nat.le_of_ble_eq_true rfl, Nat.le_of_ble_eq_true rfl⟩ rfl (cat_len (Nat.le_of_ble_eq_true rfl)) dX11_used_11 ?_
  have hk_p0 := tk_ hts6.1 hk_p0
  show v_ l D cy ka cX11_used RX11 2 (some FieldType.int) "used" 3 64 (qf_ D cy σ z (some (.int r))) σ z _ 14 [(0, va_rf (some p0)), (1, .int p1)] [.int x5]
  refine v_if_ne (tgt := 19) hf dX11_used_14 (by decide) (fun hq hf => ?_) (fun hq hf => ?_)
  · refine v_iconst (v := (-1)) dX11_used_17 (by decide) ?_
    exact v_iret hf dX11_used_18
  · refine v_aload_n (x := (some p0)) dX11_used_19 rfl 0 rfl ?_
    refine v_getr cb_12 hk_p0 4 1204 rfl (by decide) rfl (lk_n kw_243 rfl) hf dX11_used_20 (fun r7 hf => ?_)
    refine v_iload_n (x := p1) dX11_used_23 rfl 1 rfl ?_
    obtain ⟨a8, rfl, hf⟩ := nn_of hf
    obtain ⟨hk_a8, hf⟩ := gt_of hf
    obtain ⟨r9, s10, hcs10, hf⟩ := bd_of hf
    have hts10 := c_Jx4a65c_get_915e3 (l := l) (D := D) (cy := cy) (ka := ka) hcs10
    refine v_callV cb_0 hk_a8 (As := [.int p1]) (rest := []) hts10 yb_Jx4a65c_get_915e3 kw_407 kw_408 kw_409 rfl ⟨Nat.le_of_ble_eq_true rfl, Nat.le_of_ble_eq_true rfl⟩ rfl (cat_len (Nat.le_of_ble_eq_true rfl)) dX11_used_24 ?_
    have hk_p0 := tk_ hts10.1 hk_p0
    show v_ l D cy ka cX11_used RX11 2 (some FieldType.int) "used" 3 64 (qf_ D cy σ z (some (.int r))) σ z _ 27 [(0, va_rf (some p0)), (1, .int p1)] [va_rf r9]
    refine v_cast cb_4 5 rfl kw_1101 hf dX11_used_27 (fun hf => ?_)
    obtain ⟨a11, rfl, hf⟩ := nn_of hf
    obtain ⟨hk_a11, hf⟩ := gt_of hf
    refine v_geti cb_4 hk_a11 5 405 rfl (by decide) rfl (lk_n kw_1115 rfl) hf dX11_used_30 (fun x12 hf => ?_)
    exact v_iret hf dX11_used_33
theorem dX11_placeOfLeast_0 : decode cX11_placeOfLeast 0 = .ok (.iconst 0, 1) := by decide +kernel
theorem dX11_placeOfLeast_1 : decode cX11_placeOfLeast 1 = .ok (.istore_n 1, 1) := by decide +kernel
theorem dX11_placeOfLeast_2 : decode cX11_placeOfLeast 2 = .ok (.iconst 1, 1) := by decide +kernel
theorem dX11_placeOfLeast_3 : decode cX11_placeOfLeast 3 = .ok (.istore_n 2, 1) := by decide +kernel
theorem dX11_placeOfLeast_4 : decode cX11_placeOfLeast 4 = .ok (.iload_n 2, 1) := by decide +kernel
theorem dX11_placeOfLeast_5 : decode cX11_placeOfLeast 5 = .ok (.aload_n 0, 1) := by decide +kernel
theorem dX11_placeOfLeast_6 : decode cX11_placeOfLeast 6 = .ok (.invokevirtual 101, 3) := by decide +kernel
theorem dX11_placeOfLeast_9 : decode cX11_placeOfLeast 9 = .ok (.if_icmp .ge 36, 3) := by decide +kernel
theorem dX11_placeOfLeast_12 : decode cX11_placeOfLeast 12 = .ok (.aload_n 0, 1) := by decide +kernel
theorem dX11_placeOfLeast_13 : decode cX11_placeOfLeast 13 = .ok (.iload_n 2, 1) := by decide +kernel
theorem dX11_placeOfLeast_14 : decode cX11_placeOfLeast 14 = .ok (.invokevirtual 238, 3) := by decide +kernel
theorem dX11_placeOfLeast_17 : decode cX11_placeOfLeast 17 = .ok (.checkcast 144, 3) := by decide +kernel
theorem dX11_placeOfLeast_20 : decode cX11_placeOfLeast 20 = .ok (.getfield 440, 3) := by decide +kernel
theorem dX11_placeOfLeast_23 : decode cX11_placeOfLeast 23 = .ok (.aload_n 0, 1) := by decide +kernel
theorem dX11_placeOfLeast_24 : decode cX11_placeOfLeast 24 = .ok (.iload_n 1, 1) := by decide +kernel
theorem dX11_placeOfLeast_25 : decode cX11_placeOfLeast 25 = .ok (.invokevirtual 238, 3) := by decide +kernel
theorem dX11_placeOfLeast_28 : decode cX11_placeOfLeast 28 = .ok (.checkcast 144, 3) := by decide +kernel
theorem dX11_placeOfLeast_31 : decode cX11_placeOfLeast 31 = .ok (.getfield 440, 3) := by decide +kernel
theorem dX11_placeOfLeast_34 : decode cX11_placeOfLeast 34 = .ok (.if_icmp .gt 5, 3) := by decide +kernel
theorem dX11_placeOfLeast_37 : decode cX11_placeOfLeast 37 = .ok (.iload_n 2, 1) := by decide +kernel
theorem dX11_placeOfLeast_38 : decode cX11_placeOfLeast 38 = .ok (.istore_n 1, 1) := by decide +kernel
theorem dX11_placeOfLeast_39 : decode cX11_placeOfLeast 39 = .ok (.iinc 2 1, 3) := by decide +kernel
theorem dX11_placeOfLeast_42 : decode cX11_placeOfLeast 42 = .ok (.goto (-38), 3) := by decide +kernel
theorem dX11_placeOfLeast_45 : decode cX11_placeOfLeast 45 = .ok (.iload_n 1, 1) := by decide +kernel
theorem dX11_placeOfLeast_46 : decode cX11_placeOfLeast 46 = .ok (.ireturn, 1) := by decide +kernel
def f_X11_placeOfLeast_b39 (rec_4 : TH → Option Nat → Int32 → Int32 → Option (Int32 × TH)) (σ : TH) (l0 : Option Nat) (l1 : Int32) (l2 : Int32) : Option (Int32 × TH) :=
  lt_ (l2 + 1) fun x12 => rec_4 σ l0 l1 x12
set_option maxHeartbeats 4000000 in
set_option maxRecDepth 100000 in
theorem t_X11_placeOfLeast_b39 {l : Launch} {D : va_G} {cy : Nat → ClassId} {ka : Nat → Nat} {σ0 z : TH} {r : Int32} {rec_4 : TH → Option Nat → Int32 → Int32 → Option (Int32 × TH)} (hrec_4 : ∀ (σ : TH) (l0 : Option Nat) (l1 : Int32) (l2 : Int32), rec_4 σ l0 l1 l2 = some (r, z) → v_ l D cy ka cX11_placeOfLeast RX11 3 (some FieldType.int) "placeOfLeast" 3 64 (qf_ D cy σ0 z (some (.int r))) σ0 z σ 4 [(0, va_rf l0), (1, .int l1), (2, .int l2)] []) {σ : TH} {l0 : Option Nat} {l1 : Int32} {l2 : Int32} (hf : f_X11_placeOfLeast_b39 rec_4 σ l0 l1 l2 = some (r, z)) : v_ l D cy ka cX11_placeOfLeast RX11 3 (some FieldType.int) "placeOfLeast" 3 64 (qf_ D cy σ0 z (some (.int r))) σ0 z σ 39 [(0, va_rf l0), (1, .int l1), (2, .int l2)] [] := by
  unfold f_X11_placeOfLeast_b39 at hf
  obtain ⟨x12, ex12⟩ : ∃ y : Int32, y = l2 + 1 := ⟨_, rfl⟩
  rw [lt_e, ← ex12] at hf
  refine v_iinc (v := x12) [(2, .int x12), (0, va_rf l0), (1, .int l1)] dX11_placeOfLeast_39 2 rfl (by rw [ex12]; rfl) (by decide) rfl ?_
  refine v_goto (tgt := 4) dX11_placeOfLeast_42 (by decide) ?_
  refine v_sub [1, 2, 0] (L2 := [(0, va_rf l0), (1, .int l1), (2, .int x12)]) rfl ?_
  exact hrec_4 _ _ _ _ hf
def f_X11_placeOfLeast_b4 : Nat → TH → Option Nat → Int32 → Int32 → Option (Int32 × TH)
  | 0, _, _, _, _ => none
  | n + 1, σ, l0, l1, l2 => nn_ l0 fun a1 => gt_ (kd_ σ a1 = 1) <| bd_ (f_Jx4a65c_size_8abf5 σ a1) fun x2 s3 => if x2 ≤ l2 then (some (l1, s3)) else (bd_ (f_Jx4a65c_get_915e3 s3 a1 l2) fun r4 s5 => gt_ (Option.elim r4 4 (kd_ s5) = 4) <| nn_ r4 fun a6 => gt_ (kd_ s5 a6 = 4) <| lt_ (fi_ s5 308 a6) fun x7 => bd_ (f_Jx4a65c_get_915e3 s5 a1 l1) fun r8 s9 => gt_ (Option.elim r8 4 (kd_ s9) = 4) <| nn_ r8 fun a10 => gt_ (kd_ s9 a10 = 4) <| lt_ (fi_ s9 308 a10) fun x11 => if x11 < x7 then (f_X11_placeOfLeast_b39 (f_X11_placeOfLeast_b4 n) s9 (some a1) l1 l2) else (f_X11_placeOfLeast_b39 (f_X11_placeOfLeast_b4 n) s9 (some a1) l2 l2))
set_option maxHeartbeats 4000000 in
set_option maxRecDepth 100000 in
theorem t_X11_placeOfLeast_b4 {l : Launch} {D : va_G} {cy : Nat → ClassId} {ka : Nat → Nat} {σ0 z : TH} {r : Int32}  : ∀ (n : Nat) (σ : TH) (l0 : Option Nat) (l1 : Int32) (l2 : Int32), f_X11_placeOfLeast_b4 n σ l0 l1 l2 = some (r, z) → v_ l D cy ka cX11_placeOfLeast RX11 3 (some FieldType.int) "placeOfLeast" 3 64 (qf_ D cy σ0 z (some (.int r))) σ0 z σ 4 [(0, va_rf l0), (1, .int l1), (2, .int l2)] [] := by
  intro n
  induction n with
  | zero => intro σ l0 l1 l2 hf; unfold f_X11_placeOfLeast_b4 at hf; cases hf
  | succ n ih =>
    intro σ l0 l1 l2 hf
    unfold f_X11_placeOfLeast_b4 at hf
    have hrec_4 := ih
    refine v_iload_n (x := l2) dX11_placeOfLeast_4 rfl 2 rfl ?_
    refine v_aload_n (x := l0) dX11_placeOfLeast_5 rfl 0 rfl ?_
    obtain ⟨a1, rfl, hf⟩ := nn_of hf
    obtain ⟨hk_a1, hf⟩ := gt_of hf
    obtain ⟨x2, s3, hcs3, hf⟩ := bd_of hf
    have hts3 := c_Jx4a65c_size_8abf5 (l := l) (D := D) (cy := cy) (ka := ka) hcs3
    refine v_callV cb_0 hk_a1 (As := []) (rest := [.int l2]) hts3 yb_Jx4a65c_size_8abf5 kw_311 kw_312 kw_313 rfl ⟨Nat.le_of_ble_eq_true rfl, Nat.le_of_ble_eq_true rfl⟩ rfl (cat_len (Nat.le_of_ble_eq_true rfl)) dX11_placeOfLeast_6 ?_
    have hk_a1 := tk_ hts3.1 hk_a1
    show v_ l D cy ka cX11_placeOfLeast RX11 3 (some FieldType.int) "placeOfLeast" 3 64 (qf_ D cy σ0 z (some (.int r))) σ0 z _ 9 [(0, va_rf (some a1)), (1, .int l1), (2, .int l2)] [.int x2, .int l2]
    refine v_icmp_ge (tgt := 45) hf dX11_placeOfLeast_9 (by decide) (fun hq hf => ?_) (fun hq hf => ?_)
    · refine v_iload_n (x := l1) dX11_placeOfLeast_45 rfl 1 rfl ?_
      exact v_iret hf dX11_placeOfLeast_46
    · refine v_aload_n (x := (some a1)) dX11_placeOfLeast_12 rfl 0 rfl ?_
      refine v_iload_n (x := l2) dX11_placeOfLeast_13 rfl 2 rfl ?_
      obtain ⟨r4, s5, hcs5, hf⟩ := bd_of hf
      have hts5 := c_Jx4a65c_get_915e3 (l := l) (D := D) (cy := cy) (ka := ka) hcs5
      refine v_callV cb_0 hk_a1 (As := [.int l2]) (rest := []) hts5 yb_Jx4a65c_get_915e3 kw_407 kw_408 kw_409 rfl ⟨Nat.le_of_ble_eq_true rfl, Nat.le_of_ble_eq_true rfl⟩ rfl (cat_len (Nat.le_of_ble_eq_true rfl)) dX11_placeOfLeast_14 ?_
      have hk_a1 := tk_ hts5.1 hk_a1
      show v_ l D cy ka cX11_placeOfLeast RX11 3 (some FieldType.int) "placeOfLeast" 3 64 (qf_ D cy σ0 z (some (.int r))) σ0 z _ 17 [(0, va_rf (some a1)), (1, .int l1), (2, .int l2)] [va_rf r4]
      refine v_cast cb_3 4 rfl kw_441 hf dX11_placeOfLeast_17 (fun hf => ?_)
      obtain ⟨a6, rfl, hf⟩ := nn_of hf
      obtain ⟨hk_a6, hf⟩ := gt_of hf
      refine v_geti cb_3 hk_a6 8 308 rfl (by decide) rfl (lk_n kw_481 rfl) hf dX11_placeOfLeast_20 (fun x7 hf => ?_)
      refine v_aload_n (x := (some a1)) dX11_placeOfLeast_23 rfl 0 rfl ?_
      refine v_iload_n (x := l1) dX11_placeOfLeast_24 rfl 1 rfl ?_
      obtain ⟨r8, s9, hcs9, hf⟩ := bd_of hf
      have hts9 := c_Jx4a65c_get_915e3 (l := l) (D := D) (cy := cy) (ka := ka) hcs9
      refine v_callV cb_0 hk_a1 (As := [.int l1]) (rest := [.int x7]) hts9 yb_Jx4a65c_get_915e3 kw_407 kw_408 kw_409 rfl ⟨Nat.le_of_ble_eq_true rfl, Nat.le_of_ble_eq_true rfl⟩ rfl (cat_len (Nat.le_of_ble_eq_true rfl)) dX11_placeOfLeast_25 ?_
      have hk_a1 := tk_ hts9.1 hk_a1
      show v_ l D cy ka cX11_placeOfLeast RX11 3 (some FieldType.int) "placeOfLeast" 3 64 (qf_ D cy σ0 z (some (.int r))) σ0 z _ 28 [(0, va_rf (some a1)), (1, .int l1), (2, .int l2)] [va_rf r8, .int x7]
      refine v_cast cb_3 4 rfl kw_441 hf dX11_placeOfLeast_28 (fun hf => ?_)
      obtain ⟨a10, rfl, hf⟩ := nn_of hf
      obtain ⟨hk_a10, hf⟩ := gt_of hf
      refine v_geti cb_3 hk_a10 8 308 rfl (by decide) rfl (lk_n kw_481 rfl) hf dX11_placeOfLeast_31 (fun x11 hf => ?_)
      refine v_icmp_gt (tgt := 39) hf dX11_placeOfLeast_34 (by decide) (fun hq hf => ?_) (fun hq hf => ?_)
      · refine v_sub [0, 1, 2] (L2 := [(0, va_rf (some a1)), (1, .int l1), (2, .int l2)]) rfl ?_
        exact t_X11_placeOfLeast_b39 hrec_4 hf
      · refine v_iload_n (x := l2) dX11_placeOfLeast_37 rfl 2 rfl ?_
        refine v_istore_n [(1, .int l2), (0, va_rf (some a1)), (2, .int l2)] dX11_placeOfLeast_38 rfl (by decide) rfl ?_
        refine v_sub [1, 0, 2] (L2 := [(0, va_rf (some a1)), (1, .int l2), (2, .int l2)]) rfl ?_
        exact t_X11_placeOfLeast_b39 hrec_4 hf
/-- LivesAhead.placeOfLeast(Ljava/util/ArrayList;)I -/
def f_X11_placeOfLeast (σ : TH) (p0 : Option Nat) : Option (Int32 × TH) :=
  f_X11_placeOfLeast_b4 fu_ σ p0 (0 : Int32) (1 : Int32)
set_option maxHeartbeats 4000000 in
set_option maxRecDepth 100000 in
theorem c_X11_placeOfLeast {l : Launch} {D : va_G} {cy : Nat → ClassId} {ka : Nat → Nat} {σ z : TH} {p0 : Option Nat} {r : Int32} (hf : f_X11_placeOfLeast σ p0 = some (r, z)) : ct_ l D cy ka yX11_placeOfLeast 3 64 [va_rf p0] σ (some (.int r)) z := by
  unfold f_X11_placeOfLeast at hf
  refine v_start (cc := cX11_placeOfLeast) (own := RX11) (maxL := 3) (ret := (some FieldType.int)) (nm := "placeOfLeast") (by decide +kernel) kw_1288 rfl rfl (by simp [lg_sl, va_rf_cat, cat_i, cat_l]) ?_
  refine v_eqL (L2 := [(0, va_rf p0)]) (by simp [lv_args, va_rf_cat, cat_i, cat_l]) ?_
  refine v_iconst (v := 0) dX11_placeOfLeast_0 (by decide) ?_
  refine v_istore_n [(1, .int (0 : Int32)), (0, va_rf p0)] dX11_placeOfLeast_1 rfl (by decide) (by simp [va_rf_cat, cat_i, cat_l]) ?_
  refine v_iconst (v := 1) dX11_placeOfLeast_2 (by decide) ?_
  refine v_istore_n [(2, .int (1 : Int32)), (1, .int (0 : Int32)), (0, va_rf p0)] dX11_placeOfLeast_3 rfl (by decide) rfl ?_
  refine v_sub [2, 1, 0] (L2 := [(0, va_rf p0), (1, .int (0 : Int32)), (2, .int (1 : Int32))]) rfl ?_
  exact t_X11_placeOfLeast_b4  _ _ _ _ _ hf
