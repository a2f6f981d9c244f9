/-! Functions over the typed heap and contracts, by wip/gen/gen.py: X11_chanceAt X11_chanceOf X11_hoursFor X11_where X10_init X15_isDeadBy X15_ageOn X15_bits X15_isPerson X15_kindsOf X15_isStale X15_staleOf X15_storySize X15_today X15_about X15_done X15_in X15_refused X15_ages X15_alike X15_answer X15_tellingOn X15_apart X15_ask X15_isLiving X15_storiesOf -/
theorem dX11_chanceAt_0 : decode cX11_chanceAt 0 = .ok (.iload_n 0, 1) := by decide +kernel
theorem dX11_chanceAt_1 : decode cX11_chanceAt 1 = .ok (.bipush 40, 2) := by decide +kernel
theorem dX11_chanceAt_3 : decode cX11_chanceAt 3 = .ok (.if_icmp .ge 5, 3) := by decide +kernel
theorem dX11_chanceAt_6 : decode cX11_chanceAt 6 = .ok (.iconst 1, 1) := by decide +kernel
theorem dX11_chanceAt_7 : decode cX11_chanceAt 7 = .ok (.ireturn, 1) := by decide +kernel
theorem dX11_chanceAt_8 : decode cX11_chanceAt 8 = .ok (.iload_n 0, 1) := by decide +kernel
theorem dX11_chanceAt_9 : decode cX11_chanceAt 9 = .ok (.bipush 60, 2) := by decide +kernel
theorem dX11_chanceAt_11 : decode cX11_chanceAt 11 = .ok (.if_icmp .ge 5, 3) := by decide +kernel
theorem dX11_chanceAt_14 : decode cX11_chanceAt 14 = .ok (.iconst 3, 1) := by decide +kernel
theorem dX11_chanceAt_15 : decode cX11_chanceAt 15 = .ok (.ireturn, 1) := by decide +kernel
theorem dX11_chanceAt_16 : decode cX11_chanceAt 16 = .ok (.iload_n 0, 1) := by decide +kernel
theorem dX11_chanceAt_17 : decode cX11_chanceAt 17 = .ok (.bipush 75, 2) := by decide +kernel
theorem dX11_chanceAt_19 : decode cX11_chanceAt 19 = .ok (.if_icmp .ge 6, 3) := by decide +kernel
theorem dX11_chanceAt_22 : decode cX11_chanceAt 22 = .ok (.bipush 10, 2) := by decide +kernel
theorem dX11_chanceAt_24 : decode cX11_chanceAt 24 = .ok (.ireturn, 1) := by decide +kernel
theorem dX11_chanceAt_25 : decode cX11_chanceAt 25 = .ok (.iload_n 0, 1) := by decide +kernel
theorem dX11_chanceAt_26 : decode cX11_chanceAt 26 = .ok (.bipush 85, 2) := by decide +kernel
theorem dX11_chanceAt_28 : decode cX11_chanceAt 28 = .ok (.if_icmp .ge 8, 3) := by decide +kernel
theorem dX11_chanceAt_31 : decode cX11_chanceAt 31 = .ok (.bipush 30, 2) := by decide +kernel
theorem dX11_chanceAt_33 : decode cX11_chanceAt 33 = .ok (.goto 5, 3) := by decide +kernel
theorem dX11_chanceAt_36 : decode cX11_chanceAt 36 = .ok (.bipush 80, 2) := by decide +kernel
theorem dX11_chanceAt_38 : decode cX11_chanceAt 38 = .ok (.ireturn, 1) := by decide +kernel
def f_X11_chanceAt_b38 (σ : TH) (t0 : Int32) : Option (Int32 × TH) :=
  some (t0, σ)
set_option maxHeartbeats 4000000 in
set_option maxRecDepth 100000 in
theorem t_X11_chanceAt_b38 {l : Launch} {D : va_G} {cy : Nat → ClassId} {ka : Nat → Nat} {σ0 z : TH} {r : Int32}  {σ : TH} {t0 : Int32} (hf : f_X11_chanceAt_b38 σ t0 = some (r, z)) : v_ l D cy ka cX11_chanceAt RX11 1 (some FieldType.int) "chanceAt" 0 0 (qf_ D cy σ0 z (some (.int r))) σ0 z σ 38 [] [.int t0] := by
  unfold f_X11_chanceAt_b38 at hf
  exact v_iret hf dX11_chanceAt_38
/-- LivesAhead.chanceAt(I)I -/
def f_X11_chanceAt (σ : TH) (p0 : Int32) : Option (Int32 × TH) :=
  if (40 : Int32) ≤ p0 then (if (60 : Int32) ≤ p0 then (if (75 : Int32) ≤ p0 then (if (85 : Int32) ≤ p0 then (f_X11_chanceAt_b38 σ (80 : Int32)) else (f_X11_chanceAt_b38 σ (30 : Int32))) else (some ((10 : Int32), σ))) else (some ((3 : Int32), σ))) else (some ((1 : Int32), σ))
set_option maxHeartbeats 4000000 in
set_option maxRecDepth 100000 in
theorem c_X11_chanceAt {l : Launch} {D : va_G} {cy : Nat → ClassId} {ka : Nat → Nat} {σ z : TH} {p0 : Int32} {r : Int32} (hf : f_X11_chanceAt σ p0 = some (r, z)) : ct_ l D cy ka yX11_chanceAt 0 0 [.int p0] σ (some (.int r)) z := by
  unfold f_X11_chanceAt at hf
  refine v_start (cc := cX11_chanceAt) (own := RX11) (maxL := 1) (ret := (some FieldType.int)) (nm := "chanceAt") (by decide +kernel) kw_1285 rfl rfl (by simp [lg_sl, va_rf_cat, cat_i, cat_l]) ?_
  refine v_eqL (L2 := [(0, .int p0)]) (by simp [lv_args, va_rf_cat, cat_i, cat_l]) ?_
  refine v_iload_n (x := p0) dX11_chanceAt_0 rfl 0 rfl ?_
  refine v_bipush (v := 40) dX11_chanceAt_1 (by decide) ?_
  refine v_icmp_ge (tgt := 8) hf dX11_chanceAt_3 (by decide) (fun hq hf => ?_) (fun hq hf => ?_)
  · refine v_iload_n (x := p0) dX11_chanceAt_8 rfl 0 rfl ?_
    refine v_bipush (v := 60) dX11_chanceAt_9 (by decide) ?_
    refine v_icmp_ge (tgt := 16) hf dX11_chanceAt_11 (by decide) (fun hq hf => ?_) (fun hq hf => ?_)
    · refine v_iload_n (x := p0) dX11_chanceAt_16 rfl 0 rfl ?_
      refine v_bipush (v := 75) dX11_chanceAt_17 (by decide) ?_
      refine v_icmp_ge (tgt := 25) hf dX11_chanceAt_19 (by decide) (fun hq hf => ?_) (fun hq hf => ?_)
      · refine v_iload_n (x := p0) dX11_chanceAt_25 rfl 0 rfl ?_
        refine v_bipush (v := 85) dX11_chanceAt_26 (by decide) ?_
        refine v_icmp_ge (tgt := 36) hf dX11_chanceAt_28 (by decide) (fun hq hf => ?_) (fun hq hf => ?_)
        · refine v_bipush (v := 80) dX11_chanceAt_36 (by decide) ?_
          refine v_sub [] (L2 := []) rfl ?_
          exact t_X11_chanceAt_b38  hf
        · refine v_bipush (v := 30) dX11_chanceAt_31 (by decide) ?_
          refine v_goto (tgt := 38) dX11_chanceAt_33 (by decide) ?_
          refine v_sub [] (L2 := []) rfl ?_
          exact t_X11_chanceAt_b38  hf
      · refine v_bipush (v := 10) dX11_chanceAt_22 (by decide) ?_
        exact v_iret hf dX11_chanceAt_24
    · refine v_iconst (v := 3) dX11_chanceAt_14 (by decide) ?_
      exact v_iret hf dX11_chanceAt_15
  · refine v_iconst (v := 1) dX11_chanceAt_6 (by decide) ?_
    exact v_iret hf dX11_chanceAt_7
theorem dX11_chanceOf_0 : decode cX11_chanceOf 0 = .ok (.aload_n 0, 1) := by decide +kernel
theorem dX11_chanceOf_1 : decode cX11_chanceOf 1 = .ok (.aload_n 1, 1) := by decide +kernel
theorem dX11_chanceOf_2 : decode cX11_chanceOf 2 = .ok (.invokevirtual 156, 3) := by decide +kernel
theorem dX11_chanceOf_5 : decode cX11_chanceOf 5 = .ok (.invokestatic 524, 3) := by decide +kernel
theorem dX11_chanceOf_8 : decode cX11_chanceOf 8 = .ok (.istore_n 2, 1) := by decide +kernel
theorem dX11_chanceOf_9 : decode cX11_chanceOf 9 = .ok (.aload_n 1, 1) := by decide +kernel
theorem dX11_chanceOf_10 : decode cX11_chanceOf 10 = .ok (.getfield 176, 3) := by decide +kernel
theorem dX11_chanceOf_13 : decode cX11_chanceOf 13 = .ok (.ifCond .eq 9, 3) := by decide +kernel
theorem dX11_chanceOf_16 : decode cX11_chanceOf 16 = .ok (.iload_n 2, 1) := by decide +kernel
theorem dX11_chanceOf_17 : decode cX11_chanceOf 17 = .ok (.iconst 5, 1) := by decide +kernel
theorem dX11_chanceOf_18 : decode cX11_chanceOf 18 = .ok (.imul, 1) := by decide +kernel
theorem dX11_chanceOf_19 : decode cX11_chanceOf 19 = .ok (.goto 4, 3) := by decide +kernel
theorem dX11_chanceOf_22 : decode cX11_chanceOf 22 = .ok (.iload_n 2, 1) := by decide +kernel
theorem dX11_chanceOf_23 : decode cX11_chanceOf 23 = .ok (.ireturn, 1) := by decide +kernel
def f_X11_chanceOf_b23 (σ : TH) (t0 : Int32) : Option (Int32 × TH) :=
  some (t0, σ)
set_option maxHeartbeats 4000000 in
set_option maxRecDepth 100000 in
theorem t_X11_chanceOf_b23 {l : Launch} {D : va_G} {cy : Nat → ClassId} {ka : Nat → Nat} {σ0 z : TH} {r : Int32}  {σ : TH} {t0 : Int32} (hf : f_X11_chanceOf_b23 σ t0 = some (r, z)) : v_ l D cy ka cX11_chanceOf RX11 3 (some FieldType.int) "chanceOf" 2 42 (qf_ D cy σ0 z (some (.int r))) σ0 z σ 23 [] [.int t0] := by
  unfold f_X11_chanceOf_b23 at hf
  exact v_iret hf dX11_chanceOf_23
/-- LivesAhead.chanceOf(LLivesAhead$Person;)I -/
def f_X11_chanceOf (σ : TH) (p0 : Nat) (p1 : Option Nat) : Option (Int32 × TH) :=
  gt_ (kd_ σ p0 = 13) <| bd_ (f_X11_ageOf σ p0 p1) fun x1 s2 => bd_ (f_X11_chanceAt s2 x1) fun x3 s4 => nn_ p1 fun a5 => gt_ (kd_ s4 a5 = 4) <| lt_ (fi_ s4 306 a5) fun x6 => if x6 = 0 then (f_X11_chanceOf_b23 s4 x3) else (f_X11_chanceOf_b23 s4 (x3 * (5 : Int32)))
set_option maxHeartbeats 4000000 in
set_option maxRecDepth 100000 in
theorem c_X11_chanceOf {l : Launch} {D : va_G} {cy : Nat → ClassId} {ka : Nat → Nat} {σ z : TH} {p0 : Nat} {p1 : Option Nat} {r : Int32} (hf : f_X11_chanceOf σ p0 p1 = some (r, z)) : ct_ l D cy ka yX11_chanceOf 2 42 [va_rf (some p0), va_rf p1] σ (some (.int r)) z := by
  unfold f_X11_chanceOf at hf
  refine v_start (cc := cX11_chanceOf) (own := RX11) (maxL := 3) (ret := (some FieldType.int)) (nm := "chanceOf") (by decide +kernel) kw_1282 rfl rfl (by simp [lg_sl, va_rf_cat, cat_i, cat_l]) ?_
  refine v_eqL (L2 := [(0, va_rf (some p0)), (1, va_rf p1)]) (by simp [lv_args, va_rf_cat, cat_i, cat_l]) ?_
  refine v_aload_n (x := (some p0)) dX11_chanceOf_0 rfl 0 rfl ?_
  refine v_aload_n (x := p1) dX11_chanceOf_1 rfl 1 rfl ?_
  obtain ⟨hk_p0, hf⟩ := gt_of hf
  obtain ⟨x1, s2, hcs2, hf⟩ := bd_of hf
  have hts2 := c_X11_ageOf (l := l) (D := D) (cy := cy) (ka := ka) hcs2
  refine v_callV cb_12 hk_p0 (As := [va_rf p1]) (rest := []) hts2 yb_X11_ageOf kw_530 kw_532 kp_12 rfl ⟨Nat.le_of_ble_eq_true rfl, Nat.le_of_ble_eq_true rfl⟩ rfl (cat_len (Nat.le_of_ble_eq_true rfl)) dX11_chanceOf_2 ?_
  have hk_p0 := tk_ hts2.1 hk_p0
  show v_ l D cy ka cX11_chanceOf RX11 3 (some FieldType.int) "chanceOf" 2 42 (qf_ D cy σ z (some (.int r))) σ z _ 5 [(0, va_rf (some p0)), (1, va_rf p1)] [.int x1]
  obtain ⟨x3, s4, hcs4, hf⟩ := bd_of hf
  have hts4 := c_X11_chanceAt (l := l) (D := D) (cy := cy) (ka := ka) hcs4
  refine v_callS (As := [.int x1]) (rest := []) hts4 yb_X11_chanceAt kw_1283 kw_1284 rfl ⟨Nat.le_of_ble_eq_true rfl, Nat.le_of_ble_eq_true rfl⟩ rfl (cat_len (Nat.le_of_ble_eq_true rfl)) dX11_chanceOf_5 ?_
  have hk_p0 := tk_ hts4.1 hk_p0
  show v_ l D cy ka cX11_chanceOf RX11 3 (some FieldType.int) "chanceOf" 2 42 (qf_ D cy σ z (some (.int r))) σ z _ 8 [(0, va_rf (some p0)), (1, va_rf p1)] [.int x3]
  refine v_istore_n [(2, .int x3), (0, va_rf (some p0)), (1, va_rf p1)] dX11_chanceOf_8 rfl (by decide) (by simp [va_rf_cat, cat_i, cat_l]) ?_
  refine v_aload_n (x := p1) dX11_chanceOf_9 rfl 2 rfl ?_
  obtain ⟨a5, rfl, hf⟩ := nn_of hf
  obtain ⟨hk_a5, hf⟩ := gt_of hf
  refine v_geti cb_3 hk_a5 6 306 rfl (by decide) rfl (lk_n kw_477 rfl) hf dX11_chanceOf_10 (fun x6 hf => ?_)
  refine v_if_eq (tgt := 22) hf dX11_chanceOf_13 (by decide) (fun hq hf => ?_) (fun hq hf => ?_)
  · refine v_iload_n (x := x3) dX11_chanceOf_22 rfl 0 rfl ?_
    refine v_sub [] (L2 := []) rfl ?_
    exact t_X11_chanceOf_b23  hf
  · refine v_iload_n (x := x3) dX11_chanceOf_16 rfl 0 rfl ?_
    refine v_iconst (v := 5) dX11_chanceOf_17 (by decide) ?_
    refine v_imul dX11_chanceOf_18 ?_
    refine v_goto (tgt := 23) dX11_chanceOf_19 (by decide) ?_
    refine v_sub [] (L2 := []) rfl ?_
    exact t_X11_chanceOf_b23  hf
theorem dX11_hoursFor_0 : decode cX11_hoursFor 0 = .ok (.iconst 1, 1) := by decide +kernel
theorem dX11_hoursFor_1 : decode cX11_hoursFor 1 = .ok (.aload_n 0, 1) := by decide +kernel
theorem dX11_hoursFor_2 : decode cX11_hoursFor 2 = .ok (.aload_n 1, 1) := by decide +kernel
theorem dX11_hoursFor_3 : decode cX11_hoursFor 3 = .ok (.aload_n 0, 1) := by decide +kernel
theorem dX11_hoursFor_4 : decode cX11_hoursFor 4 = .ok (.invokevirtual 188, 3) := by decide +kernel
theorem dX11_hoursFor_7 : decode cX11_hoursFor 7 = .ok (.invokevirtual 191, 3) := by decide +kernel
theorem dX11_hoursFor_10 : decode cX11_hoursFor 10 = .ok (.invokestatic 183, 3) := by decide +kernel
theorem dX11_hoursFor_13 : decode cX11_hoursFor 13 = .ok (.iconst 2, 1) := by decide +kernel
theorem dX11_hoursFor_14 : decode cX11_hoursFor 14 = .ok (.iadd, 1) := by decide +kernel
theorem dX11_hoursFor_15 : decode cX11_hoursFor 15 = .ok (.iconst 3, 1) := by decide +kernel
theorem dX11_hoursFor_16 : decode cX11_hoursFor 16 = .ok (.idiv, 1) := by decide +kernel
theorem dX11_hoursFor_17 : decode cX11_hoursFor 17 = .ok (.iadd, 1) := by decide +kernel
theorem dX11_hoursFor_18 : decode cX11_hoursFor 18 = .ok (.ireturn, 1) := by decide +kernel
/-- LivesAhead.hoursFor(LLivesAhead$Person;)I -/
def f_X11_hoursFor (σ : TH) (p0 : Nat) (p1 : Option Nat) : Option (Int32 × TH) :=
  gt_ (kd_ σ p0 = 13) <| bd_ (f_X11_today σ p0) fun x1 s2 => bd_ (f_X11_staleKinds s2 p0 p1 x1) fun x3 s4 => bd_ (f_J6_bitCount_0f7a4 s4 x3) fun x5 s6 => gt_ (¬ (3 : Int32) = 0) <| some ((1 : Int32) + ((x5 + (2 : Int32)) / (3 : Int32)), s6)
set_option maxHeartbeats 4000000 in
set_option maxRecDepth 100000 in
theorem c_X11_hoursFor {l : Launch} {D : va_G} {cy : Nat → ClassId} {ka : Nat → Nat} {σ z : TH} {p0 : Nat} {p1 : Option Nat} {r : Int32} (hf : f_X11_hoursFor σ p0 p1 = some (r, z)) : ct_ l D cy ka yX11_hoursFor 2 48 [va_rf (some p0), va_rf p1] σ (some (.int r)) z := by
  unfold f_X11_hoursFor at hf
  refine v_start (cc := cX11_hoursFor) (own := RX11) (maxL := 2) (ret := (some FieldType.int)) (nm := "hoursFor") (by decide +kernel) kw_1301 rfl rfl (by simp [lg_sl, va_rf_cat, cat_i, cat_l]) ?_
  refine v_eqL (L2 := [(0, va_rf (some p0)), (1, va_rf p1)]) (by simp [lv_args, va_rf_cat, cat_i, cat_l]) ?_
  refine v_iconst (v := 1) dX11_hoursFor_0 (by decide) ?_
  refine v_aload_n (x := (some p0)) dX11_hoursFor_1 rfl 0 rfl ?_
  refine v_aload_n (x := p1) dX11_hoursFor_2 rfl 1 rfl ?_
  refine v_aload_n (x := (some p0)) dX11_hoursFor_3 rfl 0 rfl ?_
  obtain ⟨hk_p0, hf⟩ := gt_of hf
  obtain ⟨x1, s2, hcs2, hf⟩ := bd_of hf
  have hts2 := c_X11_today (l := l) (D := D) (cy := cy) (ka := ka) hcs2
  refine v_callV cb_12 hk_p0 (As := []) (rest := [va_rf p1, va_rf (some p0), .int (1 : Int32)]) hts2 yb_X11_today kw_538 kw_540 kp_13 rfl ⟨Nat.le_of_ble_eq_true rfl, Nat.le_of_ble_eq_true rfl⟩ rfl (cat_len (Nat.le_of_ble_eq_true rfl)) dX11_hoursFor_4 ?_
  have hk_p0 := tk_ hts2.1 hk_p0
  show v_ l D cy ka cX11_hoursFor RX11 2 (some FieldType.int) "hoursFor" 2 48 (qf_ D cy σ z (some (.int r))) σ z _ 7 [(0, va_rf (some p0)), (1, va_rf p1)] [.int x1, va_rf p1, va_rf (some p0), .int (1 : Int32)]
  obtain ⟨x3, s4, hcs4, hf⟩ := bd_of hf
  have hts4 := c_X11_staleKinds (l := l) (D := D) (cy := cy) (ka := ka) hcs4
  refine v_callV cb_12 hk_p0 (As := [va_rf p1, .int x1]) (rest := [.int (1 : Int32)]) hts4 yb_X11_staleKinds kw_552 kw_554 kp_14 rfl ⟨Nat.le_of_ble_eq_true rfl, Nat.le_of_ble_eq_true rfl⟩ rfl (cat_len (Nat.le_of_ble_eq_true rfl)) dX11_hoursFor_7 ?_
  have hk_p0 := tk_ hts4.1 hk_p0
  show v_ l D cy ka cX11_hoursFor RX11 2 (some FieldType.int) "hoursFor" 2 48 (qf_ D cy σ z (some (.int r))) σ z _ 10 [(0, va_rf (some p0)), (1, va_rf p1)] [.int x3, .int (1 : Int32)]
  obtain ⟨x5, s6, hcs6, hf⟩ := bd_of hf
  have hts6 := c_J6_bitCount_0f7a4 (l := l) (D := D) (cy := cy) (ka := ka) hcs6
  refine v_callS (As := [.int x3]) (rest := [.int (1 : Int32)]) hts6 yb_J6_bitCount_0f7a4 kw_546 kw_547 rfl ⟨Nat.le_of_ble_eq_true rfl, Nat.le_of_ble_eq_true rfl⟩ rfl (cat_len (Nat.le_of_ble_eq_true rfl)) dX11_hoursFor_10 ?_
  have hk_p0 := tk_ hts6.1 hk_p0
  show v_ l D cy ka cX11_hoursFor RX11 2 (some FieldType.int) "hoursFor" 2 48 (qf_ D cy σ z (some (.int r))) σ z _ 13 [(0, va_rf (some p0)), (1, va_rf p1)] [.int x5, .int (1 : Int32)]
  refine v_iconst (v := 2) dX11_hoursFor_13 (by decide) ?_
  refine v_iadd dX11_hoursFor_14 ?_
  refine v_iconst (v := 3) dX11_hoursFor_15 (by decide) ?_
  refine v_idiv hf dX11_hoursFor_16 (fun hf => ?_)
  refine v_iadd dX11_hoursFor_17 ?_
  exact v_iret hf dX11_hoursFor_18
theorem dX11_where_0 : decode cX11_where 0 = .ok (.aload_n 0, 1) := by decide +kernel
theorem dX11_where_1 : decode cX11_where 1 = .ok (.getfield 69, 3) := by decide +kernel
theorem dX11_where_4 : decode cX11_where 4 = .ok (.iconst 4, 1) := by decide +kernel
theorem dX11_where_5 : decode cX11_where 5 = .ok (.if_icmp .ne 13, 3) := by decide +kernel
theorem dX11_where_8 : decode cX11_where 8 = .ok (.aload_n 0, 1) := by decide +kernel
theorem dX11_where_9 : decode cX11_where 9 = .ok (.getfield 41, 3) := by decide +kernel
theorem dX11_where_12 : decode cX11_where 12 = .ok (.getfield 275, 3) := by decide +kernel
theorem dX11_where_15 : decode cX11_where 15 = .ok (.goto 4, 3) := by decide +kernel
theorem dX11_where_18 : decode cX11_where 18 = .ok (.iconst (-1), 1) := by decide +kernel
theorem dX11_where_19 : decode cX11_where 19 = .ok (.ireturn, 1) := by decide +kernel
def f_X11_where_b19 (σ : TH) (t0 : Int32) : Option (Int32 × TH) :=
  some (t0, σ)
set_option maxHeartbeats 4000000 in
set_option maxRecDepth 100000 in
theorem t_X11_where_b19 {l : Launch} {D : va_G} {cy : Nat → ClassId} {ka : Nat → Nat} {σ0 z : TH} {r : Int32}  {σ : TH} {t0 : Int32} (hf : f_X11_where_b19 σ t0 = some (r, z)) : v_ l D cy ka cX11_where RX11 1 (some FieldType.int) "where" 0 0 (qf_ D cy σ0 z (some (.int r))) σ0 z σ 19 [] [.int t0] := by
  unfold f_X11_where_b19 at hf
  exact v_iret hf dX11_where_19
/-- LivesAhead.where()I -/
def f_X11_where (σ : TH) (p0 : Nat) : Option (Int32 × TH) :=
  gt_ (kd_ σ p0 = 13) <| lt_ (fi_ σ 1214 p0) fun x1 => if x1 = (4 : Int32) then (lt_ (fr_ σ 1208 p0) fun r2 => nn_ r2 fun a3 => gt_ (kd_ σ a3 = 8) <| lt_ (fi_ σ 703 a3) fun x4 => f_X11_where_b19 σ x4) else (f_X11_where_b19 σ (-1 : Int32))
set_option maxHeartbeats 4000000 in
set_option maxRecDepth 100000 in
theorem c_X11_where {l : Launch} {D : va_G} {cy : Nat → ClassId} {ka : Nat → Nat} {σ z : TH} {p0 : Nat} {r : Int32} (hf : f_X11_where σ p0 = some (r, z)) : ct_ l D cy ka yX11_where 0 0 [va_rf (some p0)] σ (some (.int r)) z := by
  unfold f_X11_where at hf
  refine v_start (cc := cX11_where) (own := RX11) (maxL := 1) (ret := (some FieldType.int)) (nm := "where") (by decide +kernel) kw_894 rfl rfl (by simp [lg_sl, va_rf_cat, cat_i, cat_l]) ?_
  refine v_eqL (L2 := [(0, va_rf (some p0))]) (by simp [lv_args, va_rf_cat, cat_i, cat_l]) ?_
  refine v_aload_n (x := (some p0)) dX11_where_0 rfl 0 rfl ?_
  obtain ⟨hk_p0, hf⟩ := gt_of hf
  refine v_geti cb_12 hk_p0 14 1214 rfl (by decide) rfl (lk_n kw_253 rfl) hf dX11_where_1 (fun x1 hf => ?_)
  refine v_iconst (v := 4) dX11_where_4 (by decide) ?_
  refine v_icmp_ne (tgt := 18) hf dX11_where_5 (by decide) (fun hq hf => ?_) (fun hq hf => ?_)
  · refine v_aload_n (x := (some p0)) dX11_where_8 rfl 0 rfl ?_
    refine v_getr cb_12 hk_p0 8 1208 rfl (by decide) rfl (lk_n kw_247 rfl) hf dX11_where_9 (fun r2 hf => ?_)
    obtain ⟨a3, rfl, hf⟩ := nn_of hf
    obtain ⟨hk_a3, hf⟩ := gt_of hf
    refine v_geti cb_7 hk_a3 3 703 rfl (by decide) rfl (lk_n kw_80 rfl) hf dX11_where_12 (fun x4 hf => ?_)
    refine v_goto (tgt := 19) dX11_where_15 (by decide) ?_
    refine v_sub [] (L2 := []) rfl ?_
    exact t_X11_where_b19  hf
  · refine v_iconst (v := (-1)) dX11_where_18 (by decide) ?_
    refine v_sub [] (L2 := []) rfl ?_
    exact t_X11_where_b19  hf
theorem dX10_init_0 : decode cX10_init 0 = .ok (.aload_n 0, 1) := by decide +kernel
theorem dX10_init_1 : decode cX10_init 1 = .ok (.invokespecial 1, 3) := by decide +kernel
theorem dX10_init_4 : decode cX10_init 4 = .ok (.aload_n 0, 1) := by decide +kernel
theorem dX10_init_5 : decode cX10_init 5 = .ok (.iconst 1, 1) := by decide +kernel
theorem dX10_init_6 : decode cX10_init 6 = .ok (.putfield 7, 3) := by decide +kernel
theorem dX10_init_9 : decode cX10_init 9 = .ok (.aload_n 0, 1) := by decide +kernel
theorem dX10_init_10 : decode cX10_init 10 = .ok (.iload_n 1, 1) := by decide +kernel
theorem dX10_init_11 : decode cX10_init 11 = .ok (.putfield 13, 3) := by decide +kernel
theorem dX10_init_14 : decode cX10_init 14 = .ok (.return_, 1) := by decide +kernel
/-- LivesAhead$Writer.<init>(I)V -/
def f_X10_init (σ : TH) (p0 : Nat) (p1 : Int32) : Option (Unit × TH) :=
  gt_ (kd_ σ p0 = 12) <| lt_ (si_ σ 1101 p0 (1 : Int32)) fun s1 => lt_ (si_ s1 1100 p0 p1) fun s2 => some ((), s2)
set_option maxHeartbeats 4000000 in
set_option maxRecDepth 100000 in
theorem c_X10_init {l : Launch} {D : va_G} {cy : Nat → ClassId} {ka : Nat → Nat} {σ z : TH} {p0 : Nat} {p1 : Int32} {r : Unit} (hf : f_X10_init σ p0 p1 = some (r, z)) : ct_ l D cy ka yX10_init 1 20 [va_rf (some p0), .int p1] σ none z := by
  unfold f_X10_init at hf
  refine v_start (cc := cX10_init) (own := RX10) (maxL := 2) (ret := none) (nm := "<init>") (by decide +kernel) kw_319 rfl rfl (by simp [lg_sl, va_rf_cat, cat_i, cat_l]) ?_
  refine v_eqL (L2 := [(0, va_rf (some p0)), (1, .int p1)]) (by simp [lv_args, va_rf_cat, cat_i, cat_l]) ?_
  refine v_aload_n (x := (some p0)) dX10_init_0 rfl 0 rfl ?_
  refine v_objInit kw_320 kw_40 kw_41 (by decide) (by decide) (cat_len (Nat.le_of_ble_eq_true rfl)) dX10_init_1 ?_
  refine v_aload_n (x := (some p0)) dX10_init_4 rfl 0 rfl ?_
  refine v_iconst (v := 1) dX10_init_5 (by decide) ?_
  obtain ⟨hk_p0, hf⟩ := gt_of hf
  refine v_puti2 cb_11 hk_p0 1 1101 rfl (by decide) rfl (lk_n kw_323 rfl) (Or.inl rfl) rfl rfl hf dX10_init_6 (fun s1 hts1 hf => ?_)
  have hk_p0 := tk_ hts1 hk_p0
  refine v_aload_n (x := (some p0)) dX10_init_9 rfl 0 rfl ?_
  refine v_iload_n (x := p1) dX10_init_10 rfl 1 rfl ?_
  refine v_puti2 cb_11 hk_p0 0 1100 rfl (by decide) rfl (lk_n kw_321 rfl) (Or.inl rfl) rfl rfl hf dX10_init_11 (fun s2 hts2 hf => ?_)
  have hk_p0 := tk_ hts2 hk_p0
  exact v_vret hf dX10_init_14
theorem dX15_isDeadBy_0 : decode cX15_isDeadBy 0 = .ok (.aload_n 0, 1) := by decide +kernel
theorem dX15_isDeadBy_1 : decode cX15_isDeadBy 1 = .ok (.getfield 45, 3) := by decide +kernel
theorem dX15_isDeadBy_4 : decode cX15_isDeadBy 4 = .ok (.iload_n 1, 1) := by decide +kernel
theorem dX15_isDeadBy_5 : decode cX15_isDeadBy 5 = .ok (.baload, 1) := by decide +kernel
theorem dX15_isDeadBy_6 : decode cX15_isDeadBy 6 = .ok (.ifCond .eq 17, 3) := by decide +kernel
theorem dX15_isDeadBy_9 : decode cX15_isDeadBy 9 = .ok (.aload_n 0, 1) := by decide +kernel
theorem dX15_isDeadBy_10 : decode cX15_isDeadBy 10 = .ok (.getfield 35, 3) := by decide +kernel
theorem dX15_isDeadBy_13 : decode cX15_isDeadBy 13 = .ok (.iload_n 1, 1) := by decide +kernel
theorem dX15_isDeadBy_14 : decode cX15_isDeadBy 14 = .ok (.iaload, 1) := by decide +kernel
theorem dX15_isDeadBy_15 : decode cX15_isDeadBy 15 = .ok (.iload_n 2, 1) := by decide +kernel
theorem dX15_isDeadBy_16 : decode cX15_isDeadBy 16 = .ok (.if_icmp .gt 7, 3) := by decide +kernel
theorem dX15_isDeadBy_19 : decode cX15_isDeadBy 19 = .ok (.iconst 1, 1) := by decide +kernel
theorem dX15_isDeadBy_20 : decode cX15_isDeadBy 20 = .ok (.goto 4, 3) := by decide +kernel
theorem dX15_isDeadBy_23 : decode cX15_isDeadBy 23 = .ok (.iconst 0, 1) := by decide +kernel
theorem dX15_isDeadBy_24 : decode cX15_isDeadBy 24 = .ok (.ireturn, 1) := by decide +kernel
def f_X15_isDeadBy_b24 (σ : TH) (t0 : Int32) : Option (Int32 × TH) :=
  gt_ (t0 = 0 ∨ t0 = 1) <| some (t0, σ)
set_option maxHeartbeats 4000000 in
set_option maxRecDepth 100000 in
theorem t_X15_isDeadBy_b24 {l : Launch} {D : va_G} {cy : Nat → ClassId} {ka : Nat → Nat} {σ0 z : TH} {r : Int32}  {σ : TH} {t0 : Int32} (hf : f_X15_isDeadBy_b24 σ t0 = some (r, z)) : v_ l D cy ka cX15_isDeadBy RX15 3 (some FieldType.boolean) "isDeadBy" 0 0 (qf_ D cy σ0 z (some (.int r))) σ0 z σ 24 [] [.int t0] := by
  unfold f_X15_isDeadBy_b24 at hf
  obtain ⟨hb9, hf⟩ := gt_of hf
  exact v_zret hf (nz_ hb9) dX15_isDeadBy_24
def f_X15_isDeadBy_b23 (σ : TH) : Option (Int32 × TH) :=
  f_X15_isDeadBy_b24 σ (0 : Int32)
set_option maxHeartbeats 4000000 in
set_option maxRecDepth 100000 in
theorem t_X15_isDeadBy_b23 {l : Launch} {D : va_G} {cy : Nat → ClassId} {ka : Nat → Nat} {σ0 z : TH} {r : Int32}  {σ : TH}  (hf : f_X15_isDeadBy_b23 σ  = some (r, z)) : v_ l D cy ka cX15_isDeadBy RX15 3 (some FieldType.boolean) "isDeadBy" 0 0 (qf_ D cy σ0 z (some (.int r))) σ0 z σ 23 [] [] := by
  unfold f_X15_isDeadBy_b23 at hf
  refine v_iconst (v := 0) dX15_isDeadBy_23 (by decide) ?_
  refine v_sub [] (L2 := []) rfl ?_
  exact t_X15_isDeadBy_b24  hf
/-- LivesAheadModel.isDeadBy(II)Z -/
def f_X15_isDeadBy (σ : TH) (p0 : Nat) (p1 : Int32) (p2 : Int32) : Option (Int32 × TH) :=
  gt_ (kd_ σ p0 = 17) <| lt_ (fr_ σ 1615 p0) fun r1 => nn_ r1 fun a2 => gt_ (kd_ σ a2 = 22) <| gt_ (¬ (p1 < 0 ∨ ln_ σ a2 ≤ p1.toNatClampNeg)) <| lt_ (ai_ σ a2 p1.toNatClampNeg) fun x3 => if x3 = 0 then (f_X15_isDeadBy_b23 σ ) else (lt_ (fr_ σ 1612 p0) fun r4 => nn_ r4 fun a5 => gt_ (kd_ σ a5 = 20) <| gt_ (¬ (p1 < 0 ∨ ln_ σ a5 ≤ p1.toNatClampNeg)) <| lt_ (ai_ σ a5 p1.toNatClampNeg) fun x6 => if p2 < x6 then (f_X15_isDeadBy_b23 σ ) else (f_X15_isDeadBy_b24 σ (1 : Int32)))
set_option maxHeartbeats 4000000 in
set_option maxRecDepth 100000 in
theorem c_X15_isDeadBy {l : Launch} {D : va_G} {cy : Nat → ClassId} {ka : Nat → Nat} {σ z : TH} {p0 : Nat} {p1 : Int32} {p2 : Int32} {r : Int32} (hf : f_X15_isDeadBy σ p0 p1 p2 = some (r, z)) : ct_ l D cy ka yX15_isDeadBy 0 0 [va_rf (some p0), .int p1, .int p2] σ (some (.int r)) z := by
  unfold f_X15_isDeadBy at hf
  refine v_start (cc := cX15_isDeadBy) (own := RX15) (maxL := 3) (ret := (some FieldType.boolean)) (nm := "isDeadBy") (by decide +kernel) kw_1785 rfl rfl (by simp [lg_sl, va_rf_cat, cat_i, cat_l]) ?_
  refine v_eqL (L2 := [(0, va_rf (some p0)), (1, .int p1), (2, .int p2)]) (by simp [lv_args, va_rf_cat, cat_i, cat_l]) ?_
  refine v_aload_n (x := (some p0)) dX15_isDeadBy_0 rfl 0 rfl ?_
  obtain ⟨hk_p0, hf⟩ := gt_of hf
  refine v_getr cb_16 hk_p0 15 1615 rfl (by decide) rfl (lk_n kw_1472 rfl) hf dX15_isDeadBy_1 (fun r1 hf => ?_)
  refine v_iload_n (x := p1) dX15_isDeadBy_4 rfl 1 rfl ?_
  obtain ⟨a2, rfl, hf⟩ := nn_of hf
  obtain ⟨hk_a2, hf⟩ := gt_of hf
  refine v_zald hk_a2 hf dX15_isDeadBy_5 (fun x3 hf => ?_)
  refine v_if_eq (tgt := 23) hf dX15_isDeadBy_6 (by decide) (fun hq hf => ?_) (fun hq hf => ?_)
  · refine v_sub [] (L2 := []) rfl ?_
    exact t_X15_isDeadBy_b23  hf
  · refine v_aload_n (x := (some p0)) dX15_isDeadBy_9 rfl 0 rfl ?_
    refine v_getr cb_16 hk_p0 12 1612 rfl (by decide) rfl (lk_n kw_1469 rfl) hf dX15_isDeadBy_10 (fun r4 hf => ?_)
    refine v_iload_n (x := p1) dX15_isDeadBy_13 rfl 1 rfl ?_
    obtain ⟨a5, rfl, hf⟩ := nn_of hf
    obtain ⟨hk_a5, hf⟩ := gt_of hf
    refine v_iald hk_a5 hf dX15_isDeadBy_14 (fun x6 hf => ?_)
    refine v_iload_n (x := p2) dX15_isDeadBy_15 rfl 2 rfl ?_
    refine v_icmp_gt (tgt := 23) hf dX15_isDeadBy_16 (by decide) (fun hq hf => ?_) (fun hq hf => ?_)
    · refine v_sub [] (L2 := []) rfl ?_
      exact t_X15_isDeadBy_b23  hf
    · refine v_iconst (v := 1) dX15_isDeadBy_19 (by decide) ?_
      refine v_goto (tgt := 24) dX15_isDeadBy_20 (by decide) ?_
      refine v_sub [] (L2 := []) rfl ?_
      exact t_X15_isDeadBy_b24  hf
theorem dX15_ageOn_0 : decode cX15_ageOn 0 = .ok (.aload_n 0, 1) := by decide +kernel
theorem dX15_ageOn_1 : decode cX15_ageOn 1 = .ok (.iload_n 1, 1) := by decide +kernel
theorem dX15_ageOn_2 : decode cX15_ageOn 2 = .ok (.iload_n 2, 1) := by decide +kernel
theorem dX15_ageOn_3 : decode cX15_ageOn 3 = .ok (.invokevirtual 223, 3) := by decide +kernel
theorem dX15_ageOn_6 : decode cX15_ageOn 6 = .ok (.ifCond .eq 12, 3) := by decide +kernel
theorem dX15_ageOn_9 : decode cX15_ageOn 9 = .ok (.aload_n 0, 1) := by decide +kernel
theorem dX15_ageOn_10 : decode cX15_ageOn 10 = .ok (.getfield 35, 3) := by decide +kernel
theorem dX15_ageOn_13 : decode cX15_ageOn 13 = .ok (.iload_n 1, 1) := by decide +kernel
theorem dX15_ageOn_14 : decode cX15_ageOn 14 = .ok (.iaload, 1) := by decide +kernel
theorem dX15_ageOn_15 : decode cX15_ageOn 15 = .ok (.goto 4, 3) := by decide +kernel
theorem dX15_ageOn_18 : decode cX15_ageOn 18 = .ok (.iload_n 2, 1) := by decide +kernel
theorem dX15_ageOn_19 : decode cX15_ageOn 19 = .ok (.aload_n 0, 1) := by decide +kernel
theorem dX15_ageOn_20 : decode cX15_ageOn 20 = .ok (.getfield 26, 3) := by decide +kernel
theorem dX15_ageOn_23 : decode cX15_ageOn 23 = .ok (.iload_n 1, 1) := by decide +kernel
theorem dX15_ageOn_24 : decode cX15_ageOn 24 = .ok (.iaload, 1) := by decide +kernel
theorem dX15_ageOn_25 : decode cX15_ageOn 25 = .ok (.iadd, 1) := by decide +kernel
theorem dX15_ageOn_26 : decode cX15_ageOn 26 = .ok (.sipush 365, 3) := by decide +kernel
theorem dX15_ageOn_29 : decode cX15_ageOn 29 = .ok (.idiv, 1) := by decide +kernel
theorem dX15_ageOn_30 : decode cX15_ageOn 30 = .ok (.ireturn, 1) := by decide +kernel
def f_X15_ageOn_b19 (σ : TH) (l0 : Nat) (l1 : Int32) (t0 : Int32) : Option (Int32 × TH) :=
  gt_ (kd_ σ l0 = 17) <| lt_ (fr_ σ 1609 l0) fun r3 => nn_ r3 fun a4 => gt_ (kd_ σ a4 = 20) <| gt_ (¬ (l1 < 0 ∨ ln_ σ a4 ≤ l1.toNatClampNeg)) <| lt_ (ai_ σ a4 l1.toNatClampNeg) fun x5 => gt_ (¬ (365 : Int32) = 0) <| some ((t0 + x5) / (365 : Int32), σ)
set_option maxHeartbeats 4000000 in
set_option maxRecDepth 100000 in
theorem t_X15_ageOn_b19 {l : Launch} {D : va_G} {cy : Nat → ClassId} {ka : Nat → Nat} {σ0 z : TH} {r : Int32}  {σ : TH} {l0 : Nat} {l1 : Int32} {t0 : Int32} (hf : f_X15_ageOn_b19 σ l0 l1 t0 = some (r, z)) : v_ l D cy ka cX15_ageOn RX15 3 (some FieldType.int) "ageOn" 1 22 (qf_ D cy σ0 z (some (.int r))) σ0 z σ 19 [(0, va_rf (some l0)), (1, .int l1)] [.int t0] := by
  unfold f_X15_ageOn_b19 at hf
  refine v_aload_n (x := (some l0)) dX15_ageOn_19 rfl 0 rfl ?_
  obtain ⟨hk_l0, hf⟩ := gt_of hf
  refine v_getr cb_16 hk_l0 9 1609 rfl (by decide) rfl (lk_n kw_1466 rfl) hf dX15_ageOn_20 (fun r3 hf => ?_)
  refine v_iload_n (x := l1) dX15_ageOn_23 rfl 1 rfl ?_
  obtain ⟨a4, rfl, hf⟩ := nn_of hf
  obtain ⟨hk_a4, hf⟩ := gt_of hf
  refine v_iald hk_a4 hf dX15_ageOn_24 (fun x5 hf => ?_)
  refine v_iadd dX15_ageOn_25 ?_
  refine v_sipush (v := 365) dX15_ageOn_26 (by decide) ?_
  refine v_idiv hf dX15_ageOn_29 (fun hf => ?_)
  exact v_iret hf dX15_ageOn_30
/-- LivesAheadModel.ageOn(II)I -/
def f_X15_ageOn (σ : TH) (p0 : Nat) (p1 : Int32) (p2 : Int32) : Option (Int32 × TH) :=
  gt_ (kd_ σ p0 = 17) <| bd_ (f_X15_isDeadBy σ p0 p1 p2) fun x1 s2 => if x1 = 0 then (f_X15_ageOn_b19 s2 p0 p1 p2) else (lt_ (fr_ s2 1612 p0) fun r6 => nn_ r6 fun a7 => gt_ (kd_ s2 a7 = 20) <| gt_ (¬ (p1 < 0 ∨ ln_ s2 a7 ≤ p1.toNatClampNeg)) <| lt_ (ai_ s2 a7 p1.toNatClampNeg) fun x8 => f_X15_ageOn_b19 s2 p0 p1 x8)
set_option maxHeartbeats 4000000 in
set_option maxRecDepth 100000 in
theorem c_X15_ageOn {l : Launch} {D : va_G} {cy : Nat → ClassId} {ka : Nat → Nat} {σ z : TH} {p0 : Nat} {p1 : Int32} {p2 : Int32} {r : Int32} (hf : f_X15_ageOn σ p0 p1 p2 = some (r, z)) : ct_ l D cy ka yX15_ageOn 1 22 [va_rf (some p0), .int p1, .int p2] σ (some (.int r)) z := by
  unfold f_X15_ageOn at hf
  refine v_start (cc := cX15_ageOn) (own := RX15) (maxL := 3) (ret := (some FieldType.int)) (nm := "ageOn") (by decide +kernel) kw_1781 rfl rfl (by simp [lg_sl, va_rf_cat, cat_i, cat_l]) ?_
  refine v_eqL (L2 := [(0, va_rf (some p0)), (1, .int p1), (2, .int p2)]) (by simp [lv_args, va_rf_cat, cat_i, cat_l]) ?_
  refine v_aload_n (x := (some p0)) dX15_ageOn_0 rfl 0 rfl ?_
  refine v_iload_n (x := p1) dX15_ageOn_1 rfl 1 rfl ?_
  refine v_iload_n (x := p2) dX15_ageOn_2 rfl 2 rfl ?_
  obtain ⟨hk_p0, hf⟩ := gt_of hf
  obtain ⟨x1, s2, hcs2, hf⟩ := bd_of hf
  have hts2 := c_X15_isDeadBy (l := l) (D := D) (cy := cy) (ka := ka) hcs2
  refine v_callV cb_16 hk_p0 (As := [.int p1, .int p2]) (rest := []) hts2 yb_X15_isDeadBy kw_1782 kw_1784 kp_86 rfl ⟨Nat.le_of_ble_eq_true rfl, Nat.le_of_ble_eq_true rfl⟩ rfl (cat_len (Nat.le_of_ble_eq_true rfl)) dX15_ageOn_3 ?_
  have hk_p0 := tk_ hts2.1 hk_p0
  show v_ l D cy ka cX15_ageOn RX15 3 (some FieldType.int) "ageOn" 1 22 (qf_ D cy σ z (some (.int r))) σ z _ 6 [(0, va_rf (some p0)), (1, .int p1), (2, .int p2)] [.int x1]
  refine v_if_eq (tgt := 18) hf dX15_ageOn_6 (by decide) (fun hq hf => ?_) (fun hq hf => ?_)
  · refine v_iload_n (x := p2) dX15_ageOn_18 rfl 2 rfl ?_
    refine v_sub [0, 1] (L2 := [(0, va_rf (some p0)), (1, .int p1)]) rfl ?_
    exact t_X15_ageOn_b19  hf
  · refine v_aload_n (x := (some p0)) dX15_ageOn_9 rfl 0 rfl ?_
    refine v_getr cb_16 hk_p0 12 1612 rfl (by decide) rfl (lk_n kw_1469 rfl) hf dX15_ageOn_10 (fun r6 hf => ?_)
    refine v_iload_n (x := p1) dX15_ageOn_13 rfl 1 rfl ?_
    obtain ⟨a7, rfl, hf⟩ := nn_of hf
    obtain ⟨hk_a7, hf⟩ := gt_of hf
    refine v_iald hk_a7 hf dX15_ageOn_14 (fun x8 hf => ?_)
    refine v_goto (tgt := 19) dX15_ageOn_15 (by decide) ?_
    refine v_sub [0, 1] (L2 := [(0, va_rf (some p0)), (1, .int p1)]) rfl ?_
    exact t_X15_ageOn_b19  hf
theorem dX15_bits_0 : decode cX15_bits 0 = .ok (.iconst 0, 1) := by decide +kernel
theorem dX15_bits_1 : decode cX15_bits 1 = .ok (.istore_n 1, 1) := by decide +kernel
theorem dX15_bits_2 : decode cX15_bits 2 = .ok (.iload_n 0, 1) := by decide +kernel
theorem dX15_bits_3 : decode cX15_bits 3 = .ok (.istore_n 2, 1) := by decide +kernel
theorem dX15_bits_4 : decode cX15_bits 4 = .ok (.iload_n 2, 1) := by decide +kernel
theorem dX15_bits_5 : decode cX15_bits 5 = .ok (.ifCond .eq 15, 3) := by decide +kernel
theorem dX15_bits_8 : decode cX15_bits 8 = .ok (.iinc 1 1, 3) := by decide +kernel
theorem dX15_bits_11 : decode cX15_bits 11 = .ok (.iload_n 2, 1) := by decide +kernel
theorem dX15_bits_12 : decode cX15_bits 12 = .ok (.iload_n 2, 1) := by decide +kernel
theorem dX15_bits_13 : decode cX15_bits 13 = .ok (.iconst 1, 1) := by decide +kernel
theorem dX15_bits_14 : decode cX15_bits 14 = .ok (.isub, 1) := by decide +kernel
theorem dX15_bits_15 : decode cX15_bits 15 = .ok (.iand, 1) := by decide +kernel
theorem dX15_bits_16 : decode cX15_bits 16 = .ok (.istore_n 2, 1) := by decide +kernel
theorem dX15_bits_17 : decode cX15_bits 17 = .ok (.goto (-13), 3) := by decide +kernel
theorem dX15_bits_20 : decode cX15_bits 20 = .ok (.iload_n 1, 1) := by decide +kernel
theorem dX15_bits_21 : decode cX15_bits 21 = .ok (.ireturn, 1) := by decide +kernel
def f_X15_bits_b4 : Nat → TH → Int32 → Int32 → Option (Int32 × TH)
  | 0, _, _, _ => none
  | n + 1, σ, l1, l2 => if l2 = 0 then (some (l1, σ)) else (lt_ (l1 + 1) fun x1 => lt_ (l2 &&& (l2 - (1 : Int32))) fun x2 => (f_X15_bits_b4 n) σ x1 x2)
set_option maxHeartbeats 4000000 in
set_option maxRecDepth 100000 in
theorem t_X15_bits_b4 {l : Launch} {D : va_G} {cy : Nat → ClassId} {ka : Nat → Nat} {σ0 z : TH} {r : Int32}  : ∀ (n : Nat) (σ : TH) (l1 : Int32) (l2 : Int32), f_X15_bits_b4 n σ l1 l2 = some (r, z) → v_ l D cy ka cX15_bits RX15 3 (some FieldType.int) "bits" 0 0 (qf_ D cy σ0 z (some (.int r))) σ0 z σ 4 [(1, .int l1), (2, .int l2)] [] := by
  intro n
  induction n with
  | zero => intro σ l1 l2 hf; unfold f_X15_bits_b4 at hf; cases hf
  | succ n ih =>
    intro σ l1 l2 hf
    unfold f_X15_bits_b4 at hf
    have hrec_4 := ih
    refine v_iload_n (x := l2) dX15_bits_4 rfl 1 rfl ?_
    refine v_if_eq (tgt := 20) hf dX15_bits_5 (by decide) (fun hq hf => ?_) (fun hq hf => ?_)
    · refine v_iload_n (x := l1) dX15_bits_20 rfl 0 rfl ?_
      exact v_iret hf dX15_bits_21
    · obtain ⟨x1, ex1⟩ : ∃ y : Int32, y = l1 + 1 := ⟨_, rfl⟩
      rw [lt_e, ← ex1] at hf
      refine v_iinc (v := x1) [(1, .int x1), (2, .int l2)] dX15_bits_8 0 rfl (by rw [ex1]; rfl) (by decide) rfl ?_
      refine v_iload_n (x := l2) dX15_bits_11 rfl 1 rfl ?_
      refine v_iload_n (x := l2) dX15_bits_12 rfl 1 rfl ?_
      refine v_iconst (v := 1) dX15_bits_13 (by decide) ?_
      refine v_isub dX15_bits_14 ?_
      refine v_iand dX15_bits_15 ?_
      obtain ⟨x2, ex2⟩ : ∃ y : Int32, y = l2 &&& (l2 - (1 : Int32)) := ⟨_, rfl⟩
      rw [lt_e, ← ex2] at hf
      rw [← ex2]
      refine v_istore_n [(2, .int x2), (1, .int x1)] dX15_bits_16 rfl (by decide) rfl ?_
      refine v_goto (tgt := 4) dX15_bits_17 (by decide) ?_
      refine v_sub [1, 0] (L2 := [(1, .int x1), (2, .int x2)]) rfl ?_
      exact hrec_4 _ _ _ hf
/-- LivesAheadModel.bits(I)I -/
def f_X15_bits (σ : TH) (p0 : Int32) : Option (Int32 × TH) :=
  f_X15_bits_b4 fu_ σ (0 : Int32) p0
set_option maxHeartbeats 4000000 in
set_option maxRecDepth 100000 in
theorem c_X15_bits {l : Launch} {D : va_G} {cy : Nat → ClassId} {ka : Nat → Nat} {σ z : TH} {p0 : Int32} {r : Int32} (hf : f_X15_bits σ p0 = some (r, z)) : ct_ l D cy ka yX15_bits 0 0 [.int p0] σ (some (.int r)) z := by
  unfold f_X15_bits at hf
  refine v_start (cc := cX15_bits) (own := RX15) (maxL := 3) (ret := (some FieldType.int)) (nm := "bits") (by decide +kernel) kw_1796 rfl rfl (by simp [lg_sl, va_rf_cat, cat_i, cat_l]) ?_
  refine v_eqL (L2 := [(0, .int p0)]) (by simp [lv_args, va_rf_cat, cat_i, cat_l]) ?_
  refine v_iconst (v := 0) dX15_bits_0 (by decide) ?_
  refine v_istore_n [(1, .int (0 : Int32)), (0, .int p0)] dX15_bits_1 rfl (by decide) rfl ?_
  refine v_iload_n (x := p0) dX15_bits_2 rfl 1 rfl ?_
  refine v_istore_n [(2, .int p0), (1, .int (0 : Int32)), (0, .int p0)] dX15_bits_3 rfl (by decide) rfl ?_
  refine v_sub [1, 0] (L2 := [(1, .int (0 : Int32)), (2, .int p0)]) rfl ?_
  exact t_X15_bits_b4  _ _ _ _ hf
theorem dX15_isPerson_0 : decode cX15_isPerson 0 = .ok (.iload_n 1, 1) := by decide +kernel
theorem dX15_isPerson_1 : decode cX15_isPerson 1 = .ok (.ifCond .lt 15, 3) := by decide +kernel
theorem dX15_isPerson_4 : decode cX15_isPerson 4 = .ok (.iload_n 1, 1) := by decide +kernel
theorem dX15_isPerson_5 : decode cX15_isPerson 5 = .ok (.aload_n 0, 1) := by decide +kernel
theorem dX15_isPerson_6 : decode cX15_isPerson 6 = .ok (.getfield 191, 3) := by decide +kernel
theorem dX15_isPerson_9 : decode cX15_isPerson 9 = .ok (.if_icmp .ge 7, 3) := by decide +kernel
theorem dX15_isPerson_12 : decode cX15_isPerson 12 = .ok (.iconst 1, 1) := by decide +kernel
theorem dX15_isPerson_13 : decode cX15_isPerson 13 = .ok (.goto 4, 3) := by decide +kernel
theorem dX15_isPerson_16 : decode cX15_isPerson 16 = .ok (.iconst 0, 1) := by decide +kernel
theorem dX15_isPerson_17 : decode cX15_isPerson 17 = .ok (.ireturn, 1) := by decide +kernel
def f_X15_isPerson_b17 (σ : TH) (t0 : Int32) : Option (Int32 × TH) :=
  gt_ (t0 = 0 ∨ t0 = 1) <| some (t0, σ)
set_option maxHeartbeats 4000000 in
set_option maxRecDepth 100000 in
theorem t_X15_isPerson_b17 {l : Launch} {D : va_G} {cy : Nat → ClassId} {ka : Nat → Nat} {σ0 z : TH} {r : Int32}  {σ : TH} {t0 : Int32} (hf : f_X15_isPerson_b17 σ t0 = some (r, z)) : v_ l D cy ka cX15_isPerson RX15 2 (some FieldType.boolean) "isPerson" 0 0 (qf_ D cy σ0 z (some (.int r))) σ0 z σ 17 [] [.int t0] := by
  unfold f_X15_isPerson_b17 at hf
  obtain ⟨hb9, hf⟩ := gt_of hf
  exact v_zret hf (nz_ hb9) dX15_isPerson_17
def f_X15_isPerson_b16 (σ : TH) : Option (Int32 × TH) :=
  f_X15_isPerson_b17 σ (0 : Int32)
set_option maxHeartbeats 4000000 in
set_option maxRecDepth 100000 in
theorem t_X15_isPerson_b16 {l : Launch} {D : va_G} {cy : Nat → ClassId} {ka : Nat → Nat} {σ0 z : TH} {r : Int32}  {σ : TH}  (hf : f_X15_isPerson_b16 σ  = some (r, z)) : v_ l D cy ka cX15_isPerson RX15 2 (some FieldType.boolean) "isPerson" 0 0 (qf_ D cy σ0 z (some (.int r))) σ0 z σ 16 [] [] := by
  unfold f_X15_isPerson_b16 at hf
  refine v_iconst (v := 0) dX15_isPerson_16 (by decide) ?_
  refine v_sub [] (L2 := []) rfl ?_
  exact t_X15_isPerson_b17  hf
/-- LivesAheadModel.isPerson(I)Z -/
def f_X15_isPerson (σ : TH) (p0 : Nat) (p1 : Int32) : Option (Int32 × TH) :=
  if p1 < 0 then (f_X15_isPerson_b16 σ ) else (gt_ (kd_ σ p0 = 17) <| lt_ (fi_ σ 1605 p0) fun x1 => if x1 ≤ p1 then (f_X15_isPerson_b16 σ ) else (f_X15_isPerson_b17 σ (1 : Int32)))
set_option maxHeartbeats 4000000 in
set_option maxRecDepth 100000 in
theorem c_X15_isPerson {l : Launch} {D : va_G} {cy : Nat → ClassId} {ka : Nat → Nat} {σ z : TH} {p0 : Nat} {p1 : Int32} {r : Int32} (hf : f_X15_isPerson σ p0 p1 = some (r, z)) : ct_ l D cy ka yX15_isPerson 0 0 [va_rf (some p0), .int p1] σ (some (.int r)) z := by
  unfold f_X15_isPerson at hf
  refine v_start (cc := cX15_isPerson) (own := RX15) (maxL := 2) (ret := (some FieldType.boolean)) (nm := "isPerson") (by decide +kernel) kw_1773 rfl rfl (by simp [lg_sl, va_rf_cat, cat_i, cat_l]) ?_
  refine v_eqL (L2 := [(0, va_rf (some p0)), (1, .int p1)]) (by simp [lv_args, va_rf_cat, cat_i, cat_l]) ?_
  refine v_iload_n (x := p1) dX15_isPerson_0 rfl 1 rfl ?_
  refine v_if_lt (tgt := 16) hf dX15_isPerson_1 (by decide) (fun hq hf => ?_) (fun hq hf => ?_)
  · refine v_sub [] (L2 := []) rfl ?_
    exact t_X15_isPerson_b16  hf
  · refine v_iload_n (x := p1) dX15_isPerson_4 rfl 1 rfl ?_
    refine v_aload_n (x := (some p0)) dX15_isPerson_5 rfl 0 rfl ?_
    obtain ⟨hk_p0, hf⟩ := gt_of hf
    refine v_geti cb_16 hk_p0 5 1605 rfl (by decide) rfl (lk_n kw_1462 rfl) hf dX15_isPerson_6 (fun x1 hf => ?_)
    refine v_icmp_ge (tgt := 16) hf dX15_isPerson_9 (by decide) (fun hq hf => ?_) (fun hq hf => ?_)
    · refine v_sub [] (L2 := []) rfl ?_
      exact t_X15_isPerson_b16  hf
    · refine v_iconst (v := 1) dX15_isPerson_12 (by decide) ?_
      refine v_goto (tgt := 17) dX15_isPerson_13 (by decide) ?_
      refine v_sub [] (L2 := []) rfl ?_
      exact t_X15_isPerson_b17  hf
theorem dX15_kindsOf_0 : decode cX15_kindsOf 0 = .ok (.iconst 0, 1) := by decide +kernel
theorem dX15_kindsOf_1 : decode cX15_kindsOf 1 = .ok (.istore_n 2, 1) := by decide +kernel
theorem dX15_kindsOf_2 : decode cX15_kindsOf 2 = .ok (.iconst 0, 1) := by decide +kernel
theorem dX15_kindsOf_3 : decode cX15_kindsOf 3 = .ok (.istore_n 3, 1) := by decide +kernel
theorem dX15_kindsOf_4 : decode cX15_kindsOf 4 = .ok (.iload_n 3, 1) := by decide +kernel
theorem dX15_kindsOf_5 : decode cX15_kindsOf 5 = .ok (.bipush 10, 2) := by decide +kernel
theorem dX15_kindsOf_7 : decode cX15_kindsOf 7 = .ok (.if_icmp .ge 34, 3) := by decide +kernel
theorem dX15_kindsOf_10 : decode cX15_kindsOf 10 = .ok (.iload_n 2, 1) := by decide +kernel
theorem dX15_kindsOf_11 : decode cX15_kindsOf 11 = .ok (.aload_n 0, 1) := by decide +kernel
theorem dX15_kindsOf_12 : decode cX15_kindsOf 12 = .ok (.getfield 54, 3) := by decide +kernel
theorem dX15_kindsOf_15 : decode cX15_kindsOf 15 = .ok (.bipush 10, 2) := by decide +kernel
theorem dX15_kindsOf_17 : decode cX15_kindsOf 17 = .ok (.iload_n 1, 1) := by decide +kernel
theorem dX15_kindsOf_18 : decode cX15_kindsOf 18 = .ok (.imul, 1) := by decide +kernel
theorem dX15_kindsOf_19 : decode cX15_kindsOf 19 = .ok (.iload_n 3, 1) := by decide +kernel
theorem dX15_kindsOf_20 : decode cX15_kindsOf 20 = .ok (.iadd, 1) := by decide +kernel
theorem dX15_kindsOf_21 : decode cX15_kindsOf 21 = .ok (.iaload, 1) := by decide +kernel
theorem dX15_kindsOf_22 : decode cX15_kindsOf 22 = .ok (.iconst (-1), 1) := by decide +kernel
theorem dX15_kindsOf_23 : decode cX15_kindsOf 23 = .ok (.if_icmp .eq 9, 3) := by decide +kernel
theorem dX15_kindsOf_26 : decode cX15_kindsOf 26 = .ok (.iconst 1, 1) := by decide +kernel
theorem dX15_kindsOf_27 : decode cX15_kindsOf 27 = .ok (.iload_n 3, 1) := by decide +kernel
theorem dX15_kindsOf_28 : decode cX15_kindsOf 28 = .ok (.ishl, 1) := by decide +kernel
theorem dX15_kindsOf_29 : decode cX15_kindsOf 29 = .ok (.goto 4, 3) := by decide +kernel
theorem dX15_kindsOf_32 : decode cX15_kindsOf 32 = .ok (.iconst 0, 1) := by decide +kernel
theorem dX15_kindsOf_33 : decode cX15_kindsOf 33 = .ok (.ior, 1) := by decide +kernel
theorem dX15_kindsOf_34 : decode cX15_kindsOf 34 = .ok (.istore_n 2, 1) := by decide +kernel
theorem dX15_kindsOf_35 : decode cX15_kindsOf 35 = .ok (.iinc 3 1, 3) := by decide +kernel
theorem dX15_kindsOf_38 : decode cX15_kindsOf 38 = .ok (.goto (-34), 3) := by decide +kernel
theorem dX15_kindsOf_41 : decode cX15_kindsOf 41 = .ok (.iload_n 2, 1) := by decide +kernel
theorem dX15_kindsOf_42 : decode cX15_kindsOf 42 = .ok (.ireturn, 1) := by decide +kernel
def f_X15_kindsOf_b33 (rec_4 : TH → Nat → Int32 → Int32 → Int32 → Option (Int32 × TH)) (σ : TH) (l0 : Nat) (l1 : Int32) (l3 : Int32) (t0 : Int32) (t1 : Int32) : Option (Int32 × TH) :=
  lt_ (t1 ||| t0) fun x4 => lt_ (l3 + 1) fun x5 => rec_4 σ l0 l1 x4 x5
set_option maxHeartbeats 4000000 in
set_option maxRecDepth 100000 in
theorem t_X15_kindsOf_b33 {l : Launch} {D : va_G} {cy : Nat → ClassId} {ka : Nat → Nat} {σ0 z : TH} {r : Int32} {rec_4 : TH → Nat → Int32 → Int32 → Int32 → Option (Int32 × TH)} (hrec_4 : ∀ (σ : TH) (l0 : Nat) (l1 : Int32) (l2 : Int32) (l3 : Int32), rec_4 σ l0 l1 l2 l3 = some (r, z) → v_ l D cy ka cX15_kindsOf RX15 4 (some FieldType.int) "kindsOf" 0 0 (qf_ D cy σ0 z (some (.int r))) σ0 z σ 4 [(0, va_rf (some l0)), (1, .int l1), (2, .int l2), (3, .int l3)] []) {σ : TH} {l0 : Nat} {l1 : Int32} {l3 : Int32} {t0 : Int32} {t1 : Int32} (hf : f_X15_kindsOf_b33 rec_4 σ l0 l1 l3 t0 t1 = some (r, z)) : v_ l D cy ka cX15_kindsOf RX15 4 (some FieldType.int) "kindsOf" 0 0 (qf_ D cy σ0 z (some (.int r))) σ0 z σ 33 [(0, va_rf (some l0)), (1, .int l1), (3, .int l3)] [.int t0, .int t1] := by
  unfold f_X15_kindsOf_b33 at hf
  refine v_ior dX15_kindsOf_33 ?_
  obtain ⟨x4, ex4⟩ : ∃ y : Int32, y = t1 ||| t0 := ⟨_, rfl⟩
  rw [lt_e, ← ex4] at hf
  rw [← ex4]
  refine v_istore_n [(2, .int x4), (0, va_rf (some l0)), (1, .int l1), (3, .int l3)] dX15_kindsOf_34 rfl (by decide) rfl ?_
  obtain ⟨x5, ex5⟩ : ∃ y : Int32, y = l3 + 1 := ⟨_, rfl⟩
  rw [lt_e, ← ex5] at hf
  refine v_iinc (v := x5) [(3, .int x5), (2, .int x4), (0, va_rf (some l0)), (1, .int l1)] dX15_kindsOf_35 3 rfl (by rw [ex5]; rfl) (by decide) rfl ?_
  refine v_goto (tgt := 4) dX15_kindsOf_38 (by decide) ?_
  refine v_sub [2, 3, 1, 0] (L2 := [(0, va_rf (some l0)), (1, .int l1), (2, .int x4), (3, .int x5)]) rfl ?_
  exact hrec_4 _ _ _ _ _ hf
def f_X15_kindsOf_b4 : Nat → TH → Nat → Int32 → Int32 → Int32 → Option (Int32 × TH)
  | 0, _, _, _, _, _ => none
  | n + 1, σ, l0, l1, l2, l3 => if (10 : Int32) ≤ l3 then (some (l2, σ)) else (gt_ (kd_ σ l0 = 17) <| lt_ (fr_ σ 1619 l0) fun r1 => nn_ r1 fun a2 => gt_ (kd_ σ a2 = 20) <| gt_ (¬ ((((10 : Int32) * l1) + l3) < 0 ∨ ln_ σ a2 ≤ (((10 : Int32) * l1) + l3 : Int32).toNatClampNeg)) <| lt_ (ai_ σ a2 ((((10 : Int32) * l1) + l3 : Int32).toNatClampNeg)) fun x3 => if x3 = (-1 : Int32) then (f_X15_kindsOf_b33 (f_X15_kindsOf_b4 n) σ l0 l1 l3 (0 : Int32) l2) else (f_X15_kindsOf_b33 (f_X15_kindsOf_b4 n) σ l0 l1 l3 ((1 : Int32) <<< (l3 &&& 31)) l2))
set_option maxHeartbeats 4000000 in
set_option maxRecDepth 100000 in
theorem t_X15_kindsOf_b4 {l : Launch} {D : va_G} {cy : Nat → ClassId} {ka : Nat → Nat} {σ0 z : TH} {r : Int32}  : ∀ (n : Nat) (σ : TH) (l0 : Nat) (l1 : Int32) (l2 : Int32) (l3 : Int32), f_X15_kindsOf_b4 n σ l0 l1 l2 l3 = some (r, z) → v_ l D cy ka cX15_kindsOf RX15 4 (some FieldType.int) "kindsOf" 0 0 (qf_ D cy σ0 z (some (.int r))) σ0 z σ 4 [(0, va_rf (some l0)), (1, .int l1), (2, .int l2), (3, .int l3)] [] := by
  intro n
  induction n with
  | zero => intro σ l0 l1 l2 l3 hf; unfold f_X15_kindsOf_b4 at hf; cases hf
  | succ n ih =>
    intro σ l0 l1 l2 l3 hf
    unfold f_X15_kindsOf_b4 at hf
    have hrec_4 := ih
    refine v_iload_n (x := l3) dX15_kindsOf_4 rfl 3 rfl ?_
    refine v_bipush (v := 10) dX15_kindsOf_5 (by decide) ?_
    refine v_icmp_ge (tgt := 41) hf dX15_kindsOf_7 (by decide) (fun hq hf => ?_) (fun hq hf => ?_)
    · refine v_iload_n (x := l2) dX15_kindsOf_41 rfl 2 rfl ?_
      exact v_iret hf dX15_kindsOf_42
    · refine v_iload_n (x := l2) dX15_kindsOf_10 rfl 2 rfl ?_
      refine v_aload_n (x := (some l0)) dX15_kindsOf_11 rfl 0 rfl ?_
      obtain ⟨hk_l0, hf⟩ := gt_of hf
      refine v_getr cb_16 hk_l0 19 1619 rfl (by decide) rfl (lk_n kw_1476 rfl) hf dX15_kindsOf_12 (fun r1 hf => ?_)
      refine v_bipush (v := 10) dX15_kindsOf_15 (by decide) ?_
      refine v_iload_n (x := l1) dX15_kindsOf_17 rfl 1 rfl ?_
      refine v_imul dX15_kindsOf_18 ?_
      refine v_iload_n (x := l3) dX15_kindsOf_19 rfl 3 rfl ?_
      refine v_iadd dX15_kindsOf_20 ?_
      obtain ⟨a2, rfl, hf⟩ := nn_of hf
      obtain ⟨hk_a2, hf⟩ := gt_of hf
      refine v_iald hk_a2 hf dX15_kindsOf_21 (fun x3 hf => ?_)
      refine v_iconst (v := (-1)) dX15_kindsOf_22 (by decide) ?_
      refine v_icmp_eq (tgt := 32) hf dX15_kindsOf_23 (by decide) (fun hq hf => ?_) (fun hq hf => ?_)
      · refine v_iconst (v := 0) dX15_kindsOf_32 (by decide) ?_
        refine v_sub [0, 1, 3] (L2 := [(0, va_rf (some l0)), (1, .int l1), (3, .int l3)]) rfl ?_
        exact t_X15_kindsOf_b33 hrec_4 hf
      · refine v_iconst (v := 1) dX15_kindsOf_26 (by decide) ?_
        refine v_iload_n (x := l3) dX15_kindsOf_27 rfl 3 rfl ?_
        refine v_ishl dX15_kindsOf_28 ?_
        refine v_goto (tgt := 33) dX15_kindsOf_29 (by decide) ?_
        refine v_sub [0, 1, 3] (L2 := [(0, va_rf (some l0)), (1, .int l1), (3, .int l3)]) rfl ?_
        exact t_X15_kindsOf_b33 hrec_4 hf
/-- LivesAheadModel.kindsOf(I)I -/
def f_X15_kindsOf (σ : TH) (p0 : Nat) (p1 : Int32) : Option (Int32 × TH) :=
  f_X15_kindsOf_b4 fu_ σ p0 p1 (0 : Int32) (0 : Int32)
set_option maxHeartbeats 4000000 in
set_option maxRecDepth 100000 in
theorem c_X15_kindsOf {l : Launch} {D : va_G} {cy : Nat → ClassId} {ka : Nat → Nat} {σ z : TH} {p0 : Nat} {p1 : Int32} {r : Int32} (hf : f_X15_kindsOf σ p0 p1 = some (r, z)) : ct_ l D cy ka yX15_kindsOf 0 0 [va_rf (some p0), .int p1] σ (some (.int r)) z := by
  unfold f_X15_kindsOf at hf
  refine v_start (cc := cX15_kindsOf) (own := RX15) (maxL := 4) (ret := (some FieldType.int)) (nm := "kindsOf") (by decide +kernel) kw_1793 rfl rfl (by simp [lg_sl, va_rf_cat, cat_i, cat_l]) ?_
  refine v_eqL (L2 := [(0, va_rf (some p0)), (1, .int p1)]) (by simp [lv_args, va_rf_cat, cat_i, cat_l]) ?_
  refine v_iconst (v := 0) dX15_kindsOf_0 (by decide) ?_
  refine v_istore_n [(2, .int (0 : Int32)), (0, va_rf (some p0)), (1, .int p1)] dX15_kindsOf_1 rfl (by decide) rfl ?_
  refine v_iconst (v := 0) dX15_kindsOf_2 (by decide) ?_
  refine v_istore_n [(3, .int (0 : Int32)), (2, .int (0 : Int32)), (0, va_rf (some p0)), (1, .int p1)] dX15_kindsOf_3 rfl (by decide) rfl ?_
  refine v_sub [2, 3, 1, 0] (L2 := [(0, va_rf (some p0)), (1, .int p1), (2, .int (0 : Int32)), (3, .int (0 : Int32))]) rfl ?_
  exact t_X15_kindsOf_b4  _ _ _ _ _ _ hf
theorem dX15_isStale_0 : decode cX15_isStale 0 = .ok (.aload_n 0, 1) := by decide +kernel
theorem dX15_isStale_1 : decode cX15_isStale 1 = .ok (.getfield 54, 3) := by decide +kernel
theorem dX15_isStale_4 : decode cX15_isStale 4 = .ok (.bipush 10, 2) := by decide +kernel
theorem dX15_isStale_6 : decode cX15_isStale 6 = .ok (.iload_n 1, 1) := by decide +kernel
theorem dX15_isStale_7 : decode cX15_isStale 7 = .ok (.imul, 1) := by decide +kernel
theorem dX15_isStale_8 : decode cX15_isStale 8 = .ok (.iload_n 2, 1) := by decide +kernel
theorem dX15_isStale_9 : decode cX15_isStale 9 = .ok (.iadd, 1) := by decide +kernel
theorem dX15_isStale_10 : decode cX15_isStale 10 = .ok (.iaload, 1) := by decide +kernel
theorem dX15_isStale_11 : decode cX15_isStale 11 = .ok (.iconst (-1), 1) := by decide +kernel
theorem dX15_isStale_12 : decode cX15_isStale 12 = .ok (.if_icmp .eq 29, 3) := by decide +kernel
theorem dX15_isStale_15 : decode cX15_isStale 15 = .ok (.iload_n 3, 1) := by decide +kernel
theorem dX15_isStale_16 : decode cX15_isStale 16 = .ok (.aload_n 0, 1) := by decide +kernel
theorem dX15_isStale_17 : decode cX15_isStale 17 = .ok (.getfield 54, 3) := by decide +kernel
theorem dX15_isStale_20 : decode cX15_isStale 20 = .ok (.bipush 10, 2) := by decide +kernel
theorem dX15_isStale_22 : decode cX15_isStale 22 = .ok (.iload_n 1, 1) := by decide +kernel
theorem dX15_isStale_23 : decode cX15_isStale 23 = .ok (.imul, 1) := by decide +kernel
theorem dX15_isStale_24 : decode cX15_isStale 24 = .ok (.iload_n 2, 1) := by decide +kernel
theorem dX15_isStale_25 : decode cX15_isStale 25 = .ok (.iadd, 1) := by decide +kernel
theorem dX15_isStale_26 : decode cX15_isStale 26 = .ok (.iaload, 1) := by decide +kernel
theorem dX15_isStale_27 : decode cX15_isStale 27 = .ok (.isub, 1) := by decide +kernel
theorem dX15_isStale_28 : decode cX15_isStale 28 = .ok (.aload_n 0, 1) := by decide +kernel
theorem dX15_isStale_29 : decode cX15_isStale 29 = .ok (.getfield 51, 3) := by decide +kernel
theorem dX15_isStale_32 : decode cX15_isStale 32 = .ok (.iload_n 2, 1) := by decide +kernel
theorem dX15_isStale_33 : decode cX15_isStale 33 = .ok (.iaload, 1) := by decide +kernel
theorem dX15_isStale_34 : decode cX15_isStale 34 = .ok (.if_icmp .le 7, 3) := by decide +kernel
theorem dX15_isStale_37 : decode cX15_isStale 37 = .ok (.iconst 1, 1) := by decide +kernel
theorem dX15_isStale_38 : decode cX15_isStale 38 = .ok (.goto 4, 3) := by decide +kernel
theorem dX15_isStale_41 : decode cX15_isStale 41 = .ok (.iconst 0, 1) := by decide +kernel
theorem dX15_isStale_42 : decode cX15_isStale 42 = .ok (.ireturn, 1) := by decide +kernel
def f_X15_isStale_b42 (σ : TH) (t0 : Int32) : Option (Int32 × TH) :=
  gt_ (t0 = 0 ∨ t0 = 1) <| some (t0, σ)
set_option maxHeartbeats 4000000 in
set_option maxRecDepth 100000 in
theorem t_X15_isStale_b42 {l : Launch} {D : va_G} {cy : Nat → ClassId} {ka : Nat → Nat} {σ0 z : TH} {r : Int32}  {σ : TH} {t0 : Int32} (hf : f_X15_isStale_b42 σ t0 = some (r, z)) : v_ l D cy ka cX15_isStale RX15 4 (some FieldType.boolean) "isStale" 0 0 (qf_ D cy σ0 z (some (.int r))) σ0 z σ 42 [] [.int t0] := by
  unfold f_X15_isStale_b42 at hf
  obtain ⟨hb9, hf⟩ := gt_of hf
  exact v_zret hf (nz_ hb9) dX15_isStale_42
def f_X15_isStale_b41 (σ : TH) : Option (Int32 × TH) :=
  f_X15_isStale_b42 σ (0 : Int32)
set_option maxHeartbeats 4000000 in
set_option maxRecDepth 100000 in
theorem t_X15_isStale_b41 {l : Launch} {D : va_G} {cy : Nat → ClassId} {ka : Nat → Nat} {σ0 z : TH} {r : Int32}  {σ : TH}  (hf : f_X15_isStale_b41 σ  = some (r, z)) : v_ l D cy ka cX15_isStale RX15 4 (some FieldType.boolean) "isStale" 0 0 (qf_ D cy σ0 z (some (.int r))) σ0 z σ 41 [] [] := by
  unfold f_X15_isStale_b41 at hf
  refine v_iconst (v := 0) dX15_isStale_41 (by decide) ?_
  refine v_sub [] (L2 := []) rfl ?_
  exact t_X15_isStale_b42  hf
/-- LivesAheadModel.isStale(III)Z -/
def f_X15_isStale (σ : TH) (p0 : Nat) (p1 : Int32) (p2 : Int32) (p3 : Int32) : Option (Int32 × TH) :=
  gt_ (kd_ σ p0 = 17) <| lt_ (fr_ σ 1619 p0) fun r1 => nn_ r1 fun a2 => gt_ (kd_ σ a2 = 20) <| gt_ (¬ ((((10 : Int32) * p1) + p2) < 0 ∨ ln_ σ a2 ≤ (((10 : Int32) * p1) + p2 : Int32).toNatClampNeg)) <| lt_ (ai_ σ a2 ((((10 : Int32) * p1) + p2 : Int32).toNatClampNeg)) fun x3 => if x3 = (-1 : Int32) then (f_X15_isStale_b41 σ ) else (lt_ (fr_ σ 1619 p0) fun r4 => nn_ r4 fun a5 => gt_ (kd_ σ a5 = 20) <| gt_ (¬ ((((10 : Int32) * p1) + p2) < 0 ∨ ln_ σ a5 ≤ (((10 : Int32) * p1) + p2 : Int32).toNatClampNeg)) <| lt_ (ai_ σ a5 ((((10 : Int32) * p1) + p2 : Int32).toNatClampNeg)) fun x6 => lt_ (fr_ σ 1618 p0) fun r7 => nn_ r7 fun a8 => gt_ (kd_ σ a8 = 20) <| gt_ (¬ (p2 < 0 ∨ ln_ σ a8 ≤ p2.toNatClampNeg)) <| lt_ (ai_ σ a8 p2.toNatClampNeg) fun x9 => if (p3 - x6) ≤ x9 then (f_X15_isStale_b41 σ ) else (f_X15_isStale_b42 σ (1 : Int32)))
set_option maxHeartbeats 4000000 in
set_option maxRecDepth 100000 in
theorem c_X15_isStale {l : Launch} {D : va_G} {cy : Nat → ClassId} {ka : Nat → Nat} {σ z : TH} {p0 : Nat} {p1 : Int32} {p2 : Int32} {p3 : Int32} {r : Int32} (hf : f_X15_isStale σ p0 p1 p2 p3 = some (r, z)) : ct_ l D cy ka yX15_isStale 0 0 [va_rf (some p0), .int p1, .int p2, .int p3] σ (some (.int r)) z := by
  unfold f_X15_isStale at hf
  refine v_start (cc := cX15_isStale) (own := RX15) (maxL := 4) (ret := (some FieldType.boolean)) (nm := "isStale") (by decide +kernel) kw_1804 rfl rfl (by simp [lg_sl, va_rf_cat, cat_i, cat_l]) ?_
  refine v_eqL (L2 := [(0, va_rf (some p0)), (1, .int p1), (2, .int p2), (3, .int p3)]) (by simp [lv_args, va_rf_cat, cat_i, cat_l]) ?_
  refine v_aload_n (x := (some p0)) dX15_isStale_0 rfl 0 rfl ?_
  obtain ⟨hk_p0, hf⟩ := gt_of hf
  refine v_getr cb_16 hk_p0 19 1619 rfl (by decide) rfl (lk_n kw_1476 rfl) hf dX15_isStale_1 (fun r1 hf => ?_)
  refine v_bipush (v := 10) dX15_isStale_4 (by decide) ?_
  refine v_iload_n (x := p1) dX15_isStale_6 rfl 1 rfl ?_
  refine v_imul dX15_isStale_7 ?_
  refine v_iload_n (x := p2) dX15_isStale_8 rfl 2 rfl ?_
  refine v_iadd dX15_isStale_9 ?_
  obtain ⟨a2, rfl, hf⟩ := nn_of hf
  obtain ⟨hk_a2, hf⟩ := gt_of hf
  refine v_iald hk_a2 hf dX15_isStale_10 (fun x3 hf => ?_)
  refine v_iconst (v := (-1)) dX15_isStale_11 (by decide) ?_
  refine v_icmp_eq (tgt := 41) hf dX15_isStale_12 (by decide) (fun hq hf => ?_) (fun hq hf => ?_)
  · refine v_sub [] (L2 := []) rfl ?_
    exact t_X15_isStale_b41  hf
  · refine v_iload_n (x := p3) dX15_isStale_15 rfl 3 rfl ?_
    refine v_aload_n (x := (some p0)) dX15_isStale_16 rfl 0 rfl ?_
    refine v_getr cb_16 hk_p0 19 1619 rfl (by decide) rfl (lk_n kw_1476 rfl) hf dX15_isStale_17 (fun r4 hf => ?_)
    refine v_bipush (v := 10) dX15_isStale_20 (by decide) ?_
    refine v_iload_n (x := p1) dX15_isStale_22 rfl 1 rfl ?_
    refine v_imul dX15_isStale_23 ?_
    refine v_iload_n (x := p2) dX15_isStale_24 rfl 2 rfl ?_
    refine v_iadd dX15_isStale_25 ?_
    obtain ⟨a5, rfl, hf⟩ := nn_of hf
    obtain ⟨hk_a5, hf⟩ := gt_of hf
    refine v_iald hk_a5 hf dX15_isStale_26 (fun x6 hf => ?_)
    refine v_isub dX15_isStale_27 ?_
    refine v_aload_n (x := (some p0)) dX15_isStale_28 rfl 0 rfl ?_
    refine v_getr cb_16 hk_p0 18 1618 rfl (by decide) rfl (lk_n kw_1475 rfl) hf dX15_isStale_29 (fun r7 hf => ?_)
    refine v_iload_n (x := p2) dX15_isStale_32 rfl 2 rfl ?_
    obtain ⟨a8, rfl, hf⟩ := nn_of hf
    obtain ⟨hk_a8, hf⟩ := gt_of hf
    refine v_iald hk_a8 hf dX15_isStale_33 (fun x9 hf => ?_)
    refine v_icmp_le (tgt := 41) hf dX15_isStale_34 (by decide) (fun hq hf => ?_) (fun hq hf => ?_)
    · refine v_sub [] (L2 := []) rfl ?_
      exact t_X15_isStale_b41  hf
    · refine v_iconst (v := 1) dX15_isStale_37 (by decide) ?_
      refine v_goto (tgt := 42) dX15_isStale_38 (by decide) ?_
      refine v_sub [] (L2 := []) rfl ?_
      exact t_X15_isStale_b42  hf
theorem dX15_staleOf_0 : decode cX15_staleOf 0 = .ok (.iconst 0, 1) := by decide +kernel
theorem dX15_staleOf_1 : decode cX15_staleOf 1 = .ok (.istore_n 3, 1) := by decide +kernel
theorem dX15_staleOf_2 : decode cX15_staleOf 2 = .ok (.iconst 0, 1) := by decide +kernel
theorem dX15_staleOf_3 : decode cX15_staleOf 3 = .ok (.istore 4, 2) := by decide +kernel
theorem dX15_staleOf_5 : decode cX15_staleOf 5 = .ok (.iload 4, 2) := by decide +kernel
theorem dX15_staleOf_7 : decode cX15_staleOf 7 = .ok (.bipush 10, 2) := by decide +kernel
theorem dX15_staleOf_9 : decode cX15_staleOf 9 = .ok (.if_icmp .ge 31, 3) := by decide +kernel
theorem dX15_staleOf_12 : decode cX15_staleOf 12 = .ok (.iload_n 3, 1) := by decide +kernel
theorem dX15_staleOf_13 : decode cX15_staleOf 13 = .ok (.aload_n 0, 1) := by decide +kernel
theorem dX15_staleOf_14 : decode cX15_staleOf 14 = .ok (.iload_n 1, 1) := by decide +kernel
theorem dX15_staleOf_15 : decode cX15_staleOf 15 = .ok (.iload 4, 2) := by decide +kernel
theorem dX15_staleOf_17 : decode cX15_staleOf 17 = .ok (.iload_n 2, 1) := by decide +kernel
theorem dX15_staleOf_18 : decode cX15_staleOf 18 = .ok (.invokevirtual 259, 3) := by decide +kernel
theorem dX15_staleOf_21 : decode cX15_staleOf 21 = .ok (.ifCond .eq 10, 3) := by decide +kernel
theorem dX15_staleOf_24 : decode cX15_staleOf 24 = .ok (.iconst 1, 1) := by decide +kernel
theorem dX15_staleOf_25 : decode cX15_staleOf 25 = .ok (.iload 4, 2) := by decide +kernel
theorem dX15_staleOf_27 : decode cX15_staleOf 27 = .ok (.ishl, 1) := by decide +kernel
theorem dX15_staleOf_28 : decode cX15_staleOf 28 = .ok (.goto 4, 3) := by decide +kernel
theorem dX15_staleOf_31 : decode cX15_staleOf 31 = .ok (.iconst 0, 1) := by decide +kernel
theorem dX15_staleOf_32 : decode cX15_staleOf 32 = .ok (.ior, 1) := by decide +kernel
theorem dX15_staleOf_33 : decode cX15_staleOf 33 = .ok (.istore_n 3, 1) := by decide +kernel
theorem dX15_staleOf_34 : decode cX15_staleOf 34 = .ok (.iinc 4 1, 3) := by decide +kernel
theorem dX15_staleOf_37 : decode cX15_staleOf 37 = .ok (.goto (-32), 3) := by decide +kernel
theorem dX15_staleOf_40 : decode cX15_staleOf 40 = .ok (.iload_n 3, 1) := by decide +kernel
theorem dX15_staleOf_41 : decode cX15_staleOf 41 = .ok (.ireturn, 1) := by decide +kernel
def f_X15_staleOf_b32 (rec_5 : TH → Nat → Int32 → Int32 → Int32 → Int32 → Option (Int32 × TH)) (σ : TH) (l0 : Nat) (l1 : Int32) (l2 : Int32) (l4 : Int32) (t0 : Int32) (t1 : Int32) : Option (Int32 × TH) :=
  lt_ (t1 ||| t0) fun x3 => lt_ (l4 + 1) fun x4 => rec_5 σ l0 l1 l2 x3 x4
set_option maxHeartbeats 4000000 in
set_option maxRecDepth 100000 in
theorem t_X15_staleOf_b32 {l : Launch} {D : va_G} {cy : Nat → ClassId} {ka : Nat → Nat} {σ0 z : TH} {r : Int32} {rec_5 : TH → Nat → Int32 → Int32 → Int32 → Int32 → Option (Int32 × TH)} (hrec_5 : ∀ (σ : TH) (l0 : Nat) (l1 : Int32) (l2 : Int32) (l3 : Int32) (l4 : Int32), rec_5 σ l0 l1 l2 l3 l4 = some (r, z) → v_ l D cy ka cX15_staleOf RX15 5 (some FieldType.int) "staleOf" 1 23 (qf_ D cy σ0 z (some (.int r))) σ0 z σ 5 [(0, va_rf (some l0)), (1, .int l1), (2, .int l2), (3, .int l3), (4, .int l4)] []) {σ : TH} {l0 : Nat} {l1 : Int32} {l2 : Int32} {l4 : Int32} {t0 : Int32} {t1 : Int32} (hf : f_X15_staleOf_b32 rec_5 σ l0 l1 l2 l4 t0 t1 = some (r, z)) : v_ l D cy ka cX15_staleOf RX15 5 (some FieldType.int) "staleOf" 1 23 (qf_ D cy σ0 z (some (.int r))) σ0 z σ 32 [(0, va_rf (some l0)), (1, .int l1), (2, .int l2), (4, .int l4)] [.int t0, .int t1] := by
  unfold f_X15_staleOf_b32 at hf
  refine v_ior dX15_staleOf_32 ?_
  obtain ⟨x3, ex3⟩ : ∃ y : Int32, y = t1 ||| t0 := ⟨_, rfl⟩
  rw [lt_e, ← ex3] at hf
  rw [← ex3]
  refine v_istore_n [(3, .int x3), (0, va_rf (some l0)), (1, .int l1), (2, .int l2), (4, .int l4)] dX15_staleOf_33 rfl (by decide) rfl ?_
  obtain ⟨x4, ex4⟩ : ∃ y : Int32, y = l4 + 1 := ⟨_, rfl⟩
  rw [lt_e, ← ex4] at hf
  refine v_iinc (v := x4) [(4, .int x4), (3, .int x3), (0, va_rf (some l0)), (1, .int l1), (2, .int l2)] dX15_staleOf_34 4 rfl (by rw [ex4]; rfl) (by decide) rfl ?_
  refine v_goto (tgt := 5) dX15_staleOf_37 (by decide) ?_
  refine v_sub [2, 3, 4, 1, 0] (L2 := [(0, va_rf (some l0)), (1, .int l1), (2, .int l2), (3, .int x3), (4, .int x4)]) rfl ?_
  exact hrec_5 _ _ _ _ _ _ hf
def f_X15_staleOf_b5 : Nat → TH → Nat → Int32 → Int32 → Int32 → Int32 → Option (Int32 × TH)
  | 0, _, _, _, _, _, _ => none
  | n + 1, σ, l0, l1, l2, l3, l4 => if (10 : Int32) ≤ l4 then (some (l3, σ)) else (gt_ (kd_ σ l0 = 17) <| bd_ (f_X15_isStale σ l0 l1 l4 l2) fun x1 s2 => if x1 = 0 then (f_X15_staleOf_b32 (f_X15_staleOf_b5 n) s2 l0 l1 l2 l4 (0 : Int32) l3) else (f_X15_staleOf_b32 (f_X15_staleOf_b5 n) s2 l0 l1 l2 l4 ((1 : Int32) <<< (l4 &&& 31)) l3))
set_option maxHeartbeats 4000000 in
set_option maxRecDepth 100000 in
theorem t_X15_staleOf_b5 {l : Launch} {D : va_G} {cy : Nat → ClassId} {ka : Nat → Nat} {σ0 z : TH} {r : Int32}  : ∀ (n : Nat) (σ : TH) (l0 : Nat) (l1 : Int32) (l2 : Int32) (l3 : Int32) (l4 : Int32), f_X15_staleOf_b5 n σ l0 l1 l2 l3 l4 = some (r, z) → v_ l D cy ka cX15_staleOf RX15 5 (some FieldType.int) "staleOf" 1 23 (qf_ D cy σ0 z (some (.int r))) σ0 z σ 5 [(0, va_rf (some l0)), (1, .int l1), (2, .int l2), (3, .int l3), (4, .int l4)] [] := by
  intro n
  induction n with
  | zero => intro σ l0 l1 l2 l3 l4 hf; unfold f_X15_staleOf_b5 at hf; cases hf
  | succ n ih =>
    intro σ l0 l1 l2 l3 l4 hf
    unfold f_X15_staleOf_b5 at hf
    have hrec_5 := ih
    refine v_iload (x := l4) dX15_staleOf_5 4 rfl ?_
    refine v_bipush (v := 10) dX15_staleOf_7 (by decide) ?_
    refine v_icmp_ge (tgt := 40) hf dX15_staleOf_9 (by decide) (fun hq hf => ?_) (fun hq hf => ?_)
    · refine v_iload_n (x := l3) dX15_staleOf_40 rfl 3 rfl ?_
      exact v_iret hf dX15_staleOf_41
    · refine v_iload_n (x := l3) dX15_staleOf_12 rfl 3 rfl ?_
      refine v_aload_n (x := (some l0)) dX15_staleOf_13 rfl 0 rfl ?_
      refine v_iload_n (x := l1) dX15_staleOf_14 rfl 1 rfl ?_
      refine v_iload (x := l4) dX15_staleOf_15 4 rfl ?_
      refine v_iload_n (x := l2) dX15_staleOf_17 rfl 2 rfl ?_
      obtain ⟨hk_l0, hf⟩ := gt_of hf
      obtain ⟨x1, s2, hcs2, hf⟩ := bd_of hf
      have hts2 := c_X15_isStale (l := l) (D := D) (cy := cy) (ka := ka) hcs2
      refine v_callV cb_16 hk_l0 (As := [.int l1, .int l4, .int l2]) (rest := [.int l3]) hts2 yb_X15_isStale kw_1801 kw_1803 kp_90 rfl ⟨Nat.le_of_ble_eq_true rfl, Nat.le_of_ble_eq_true rfl⟩ rfl (cat_len (Nat.le_of_ble_eq_true rfl)) dX15_staleOf_18 ?_
      have hk_l0 := tk_ hts2.1 hk_l0
      show v_ l D cy ka cX15_staleOf RX15 5 (some FieldType.int) "staleOf" 1 23 (qf_ D cy σ0 z (some (.int r))) σ0 z _ 21 [(0, va_rf (some l0)), (1, .int l1), (2, .int l2), (3, .int l3), (4, .int l4)] [.int x1, .int l3]
      refine v_if_eq (tgt := 31) hf dX15_staleOf_21 (by decide) (fun hq hf => ?_) (fun hq hf => ?_)
      · refine v_iconst (v := 0) dX15_staleOf_31 (by decide) ?_
        refine v_sub [0, 1, 2, 4] (L2 := [(0, va_rf (some l0)), (1, .int l1), (2, .int l2), (4, .int l4)]) rfl ?_
        exact t_X15_staleOf_b32 hrec_5 hf
      · refine v_iconst (v := 1) dX15_staleOf_24 (by decide) ?_
        refine v_iload (x := l4) dX15_staleOf_25 4 rfl ?_
        refine v_ishl dX15_staleOf_27 ?_
        refine v_goto (tgt := 32) dX15_staleOf_28 (by decide) ?_
        refine v_sub [0, 1, 2, 4] (L2 := [(0, va_rf (some l0)), (1, .int l1), (2, .int l2), (4, .int l4)]) rfl ?_
        exact t_X15_staleOf_b32 hrec_5 hf
/-- LivesAheadModel.staleOf(II)I -/
def f_X15_staleOf (σ : TH) (p0 : Nat) (p1 : Int32) (p2 : Int32) : Option (Int32 × TH) :=
  f_X15_staleOf_b5 fu_ σ p0 p1 p2 (0 : Int32) (0 : Int32)
set_option maxHeartbeats 4000000 in
set_option maxRecDepth 100000 in
theorem c_X15_staleOf {l : Launch} {D : va_G} {cy : Nat → ClassId} {ka : Nat → Nat} {σ z : TH} {p0 : Nat} {p1 : Int32} {p2 : Int32} {r : Int32} (hf : f_X15_staleOf σ p0 p1 p2 = some (r, z)) : ct_ l D cy ka yX15_staleOf 1 23 [va_rf (some p0), .int p1, .int p2] σ (some (.int r)) z := by
  unfold f_X15_staleOf at hf
  refine v_start (cc := cX15_staleOf) (own := RX15) (maxL := 5) (ret := (some FieldType.int)) (nm := "staleOf") (by decide +kernel) kw_1800 rfl rfl (by simp [lg_sl, va_rf_cat, cat_i, cat_l]) ?_
  refine v_eqL (L2 := [(0, va_rf (some p0)), (1, .int p1), (2, .int p2)]) (by simp [lv_args, va_rf_cat, cat_i, cat_l]) ?_
  refine v_iconst (v := 0) dX15_staleOf_0 (by decide) ?_
  refine v_istore_n [(3, .int (0 : Int32)), (0, va_rf (some p0)), (1, .int p1), (2, .int p2)] dX15_staleOf_1 rfl (by decide) rfl ?_
  refine v_iconst (v := 0) dX15_staleOf_2 (by decide) ?_
  refine v_istore [(4, .int (0 : Int32)), (3, .int (0 : Int32)), (0, va_rf (some p0)), (1, .int p1), (2, .int p2)] dX15_staleOf_3 (by decide) rfl ?_
  refine v_sub [2, 3, 4, 1, 0] (L2 := [(0, va_rf (some p0)), (1, .int p1), (2, .int p2), (3, .int (0 : Int32)), (4, .int (0 : Int32))]) rfl ?_
  exact t_X15_staleOf_b5  _ _ _ _ _ _ _ hf
theorem dX15_storySize_0 : decode cX15_storySize 0 = .ok (.iconst 0, 1) := by decide +kernel
theorem dX15_storySize_1 : decode cX15_storySize 1 = .ok (.istore_n 2, 1) := by decide +kernel
theorem dX15_storySize_2 : decode cX15_storySize 2 = .ok (.iconst 0, 1) := by decide +kernel
theorem dX15_storySize_3 : decode cX15_storySize 3 = .ok (.istore_n 3, 1) := by decide +kernel
theorem dX15_storySize_4 : decode cX15_storySize 4 = .ok (.iload_n 3, 1) := by decide +kernel
theorem dX15_storySize_5 : decode cX15_storySize 5 = .ok (.aload_n 0, 1) := by decide +kernel
theorem dX15_storySize_6 : decode cX15_storySize 6 = .ok (.getfield 469, 3) := by decide +kernel
theorem dX15_storySize_9 : decode cX15_storySize 9 = .ok (.if_icmp .ge 30, 3) := by decide +kernel
theorem dX15_storySize_12 : decode cX15_storySize 12 = .ok (.iload_n 2, 1) := by decide +kernel
theorem dX15_storySize_13 : decode cX15_storySize 13 = .ok (.aload_n 0, 1) := by decide +kernel
theorem dX15_storySize_14 : decode cX15_storySize 14 = .ok (.getfield 94, 3) := by decide +kernel
theorem dX15_storySize_17 : decode cX15_storySize 17 = .ok (.iload_n 3, 1) := by decide +kernel
theorem dX15_storySize_18 : decode cX15_storySize 18 = .ok (.aaload, 1) := by decide +kernel
theorem dX15_storySize_19 : decode cX15_storySize 19 = .ok (.getfield 472, 3) := by decide +kernel
theorem dX15_storySize_22 : decode cX15_storySize 22 = .ok (.iload_n 1, 1) := by decide +kernel
theorem dX15_storySize_23 : decode cX15_storySize 23 = .ok (.if_icmp .ne 7, 3) := by decide +kernel
theorem dX15_storySize_26 : decode cX15_storySize 26 = .ok (.iconst 1, 1) := by decide +kernel
theorem dX15_storySize_27 : decode cX15_storySize 27 = .ok (.goto 4, 3) := by decide +kernel
theorem dX15_storySize_30 : decode cX15_storySize 30 = .ok (.iconst 0, 1) := by decide +kernel
theorem dX15_storySize_31 : decode cX15_storySize 31 = .ok (.iadd, 1) := by decide +kernel
theorem dX15_storySize_32 : decode cX15_storySize 32 = .ok (.istore_n 2, 1) := by decide +kernel
theorem dX15_storySize_33 : decode cX15_storySize 33 = .ok (.iinc 3 1, 3) := by decide +kernel
theorem dX15_storySize_36 : decode cX15_storySize 36 = .ok (.goto (-32), 3) := by decide +kernel
theorem dX15_storySize_39 : decode cX15_storySize 39 = .ok (.iload_n 2, 1) := by decide +kernel
theorem dX15_storySize_40 : decode cX15_storySize 40 = .ok (.ireturn, 1) := by decide +kernel
def f_X15_storySize_b31 (rec_4 : TH → Nat → Int32 → Int32 → Int32 → Option (Int32 × TH)) (σ : TH) (l0 : Nat) (l1 : Int32) (l3 : Int32) (t0 : Int32) (t1 : Int32) : Option (Int32 × TH) :=
  lt_ (t1 + t0) fun x7 => lt_ (l3 + 1) fun x8 => rec_4 σ l0 l1 x7 x8
set_option maxHeartbeats 4000000 in
set_option maxRecDepth 100000 in
theorem t_X15_storySize_b31 {l : Launch} {D : va_G} {cy : Nat → ClassId} {ka : Nat → Nat} {σ0 z : TH} {r : Int32} {rec_4 : TH → Nat → Int32 → Int32 → Int32 → Option (Int32 × TH)} (hrec_4 : ∀ (σ : TH) (l0 : Nat) (l1 : Int32) (l2 : Int32) (l3 : Int32), rec_4 σ l0 l1 l2 l3 = some (r, z) → v_ l D cy ka cX15_storySize RX15 4 (some FieldType.int) "storySize" 0 0 (qf_ D cy σ0 z (some (.int r))) σ0 z σ 4 [(0, va_rf (some l0)), (1, .int l1), (2, .int l2), (3, .int l3)] []) {σ : TH} {l0 : Nat} {l1 : Int32} {l3 : Int32} {t0 : Int32} {t1 : Int32} (hf : f_X15_storySize_b31 rec_4 σ l0 l1 l3 t0 t1 = some (r, z)) : v_ l D cy ka cX15_storySize RX15 4 (some FieldType.int) "storySize" 0 0 (qf_ D cy σ0 z (some (.int r))) σ0 z σ 31 [(0, va_rf (some l0)), (1, .int l1), (3, .int l3)] [.int t0, .int t1] := by
  unfold f_X15_storySize_b31 at hf
  refine v_iadd dX15_storySize_31 ?_
  obtain ⟨x7, ex7⟩ : ∃ y : Int32, y = t1 + t0 := ⟨_, rfl⟩
  rw [lt_e, ← ex7] at hf
  rw [← ex7]
  refine v_istore_n [(2, .int x7), (0, va_rf (some l0)), (1, .int l1), (3, .int l3)] dX15_storySize_32 rfl (by decide) rfl ?_
  obtain ⟨x8, ex8⟩ : ∃ y : Int32, y = l3 + 1 := ⟨_, rfl⟩
  rw [lt_e, ← ex8] at hf
  refine v_iinc (v := x8) [(3, .int x8), (2, .int x7), (0, va_rf (some l0)), (1, .int l1)] dX15_storySize_33 3 rfl (by rw [ex8]; rfl) (by decide) rfl ?_
  refine v_goto (tgt := 4) dX15_storySize_36 (by decide) ?_
  refine v_sub [2, 3, 1, 0] (L2 := [(0, va_rf (some l0)), (1, .int l1), (2, .int x7), (3, .int x8)]) rfl ?_
  exact hrec_4 _ _ _ _ _ hf
def f_X15_storySize_b4 : Nat → TH → Nat → Int32 → Int32 → Int32 → Option (Int32 × TH)
  | 0, _, _, _, _, _ => none
  | n + 1, σ, l0, l1, l2, l3 => gt_ (kd_ σ l0 = 17) <| lt_ (fi_ σ 1647 l0) fun x1 => if x1 ≤ l3 then (some (l2, σ)) else (lt_ (fr_ σ 1648 l0) fun r2 => nn_ r2 fun a3 => gt_ (kd_ σ a3 = 27) <| gt_ (¬ (l3 < 0 ∨ ln_ σ a3 ≤ l3.toNatClampNeg)) <| lt_ (ar_ σ a3 l3.toNatClampNeg) fun r4 => nn_ r4 fun a5 => gt_ (kd_ σ a5 = 15) <| lt_ (fi_ σ 1400 a5) fun x6 => if x6 = l1 then (f_X15_storySize_b31 (f_X15_storySize_b4 n) σ l0 l1 l3 (1 : Int32) l2) else (f_X15_storySize_b31 (f_X15_storySize_b4 n) σ l0 l1 l3 (0 : Int32) l2))
set_option maxHeartbeats 4000000 in
set_option maxRecDepth 100000 in
theorem t_X15_storySize_b4 {l : Launch} {D : va_G} {cy : Nat → ClassId} {ka : Nat → Nat} {σ0 z : TH} {r : Int32}  : ∀ (n : Nat) (σ : TH) (l0 : Nat) (l1 : Int32) (l2 : Int32) (l3 : Int32), f_X15_storySize_b4 n σ l0 l1 l2 l3 = some (r, z) → v_ l D cy ka cX15_storySize RX15 4 (some FieldType.int) "storySize" 0 0 (qf_ D cy σ0 z (some (.int r))) σ0 z σ 4 [(0, va_rf (some l0)), (1, .int l1), (2, .int l2), (3, .int l3)] [] := by
  intro n
  induction n with
  | zero => intro σ l0 l1 l2 l3 hf; unfold f_X15_storySize_b4 at hf; cases hf
  | succ n ih =>
    intro σ l0 l1 l2 l3 hf
    unfold f_X15_storySize_b4 at hf
    have hrec_4 := ih
    refine v_iload_n (x := l3) dX15_storySize_4 rfl 3 rfl ?_
    refine v_aload_n (x := (some l0)) dX15_storySize_5 rfl 0 rfl ?_
    obtain ⟨hk_l0, hf⟩ := gt_of hf
    refine v_geti cb_16 hk_l0 47 1647 rfl (by decide) rfl (lk_n kw_1504 rfl) hf dX15_storySize_6 (fun x1 hf => ?_)
    refine v_icmp_ge (tgt := 39) hf dX15_storySize_9 (by decide) (fun hq hf => ?_) (fun hq hf => ?_)
    · refine v_iload_n (x := l2) dX15_storySize_39 rfl 2 rfl ?_
      exact v_iret hf dX15_storySize_40
    · refine v_iload_n (x := l2) dX15_storySize_12 rfl 2 rfl ?_
      refine v_aload_n (x := (some l0)) dX15_storySize_13 rfl 0 rfl ?_
      refine v_getr cb_16 hk_l0 48 1648 rfl (by decide) rfl (lk_n kw_1505 rfl) hf dX15_storySize_14 (fun r2 hf => ?_)
      refine v_iload_n (x := l3) dX15_storySize_17 rfl 3 rfl ?_
      obtain ⟨a3, rfl, hf⟩ := nn_of hf
      obtain ⟨hk_a3, hf⟩ := gt_of hf
      refine v_aald 26 7 RX13 hk_a3 (by decide) rfl hf dX15_storySize_18 (fun r4 hf => ?_)
      obtain ⟨a5, rfl, hf⟩ := nn_of hf
      obtain ⟨hk_a5, hf⟩ := gt_of hf
      refine v_geti cb_14 hk_a5 0 1400 rfl (by decide) rfl (lk_N kw_2028 rfl) hf dX15_storySize_19 (fun x6 hf => ?_)
      refine v_iload_n (x := l1) dX15_storySize_22 rfl 1 rfl ?_
      refine v_icmp_ne (tgt := 30) hf dX15_storySize_23 (by decide) (fun hq hf => ?_) (fun hq hf => ?_)
      · refine v_iconst (v := 1) dX15_storySize_26 (by decide) ?_
        refine v_goto (tgt := 31) dX15_storySize_27 (by decide) ?_
        refine v_sub [0, 1, 3] (L2 := [(0, va_rf (some l0)), (1, .int l1), (3, .int l3)]) rfl ?_
        exact t_X15_storySize_b31 hrec_4 hf
      · refine v_iconst (v := 0) dX15_storySize_30 (by decide) ?_
        refine v_sub [0, 1, 3] (L2 := [(0, va_rf (some l0)), (1, .int l1), (3, .int l3)]) rfl ?_
        exact t_X15_storySize_b31 hrec_4 hf
/-- LivesAheadModel.storySize(I)I -/
def f_X15_storySize (σ : TH) (p0 : Nat) (p1 : Int32) : Option (Int32 × TH) :=
  f_X15_storySize_b4 fu_ σ p0 p1 (0 : Int32) (0 : Int32)
set_option maxHeartbeats 4000000 in
set_option maxRecDepth 100000 in
theorem c_X15_storySize {l : Launch} {D : va_G} {cy : Nat → ClassId} {ka : Nat → Nat} {σ z : TH} {p0 : Nat} {p1 : Int32} {r : Int32} (hf : f_X15_storySize σ p0 p1 = some (r, z)) : ct_ l D cy ka yX15_storySize 0 0 [va_rf (some p0), .int p1] σ (some (.int r)) z := by
  unfold f_X15_storySize at hf
  refine v_start (cc := cX15_storySize) (own := RX15) (maxL := 4) (ret := (some FieldType.int)) (nm := "storySize") (by decide +kernel) kw_1789 rfl rfl (by simp [lg_sl, va_rf_cat, cat_i, cat_l]) ?_
  refine v_eqL (L2 := [(0, va_rf (some p0)), (1, .int p1)]) (by simp [lv_args, va_rf_cat, cat_i, cat_l]) ?_
  refine v_iconst (v := 0) dX15_storySize_0 (by decide) ?_
  refine v_istore_n [(2, .int (0 : Int32)), (0, va_rf (some p0)), (1, .int p1)] dX15_storySize_1 rfl (by decide) rfl ?_
  refine v_iconst (v := 0) dX15_storySize_2 (by decide) ?_
  refine v_istore_n [(3, .int (0 : Int32)), (2, .int (0 : Int32)), (0, va_rf (some p0)), (1, .int p1)] dX15_storySize_3 rfl (by decide) rfl ?_
  refine v_sub [2, 3, 1, 0] (L2 := [(0, va_rf (some p0)), (1, .int p1), (2, .int (0 : Int32)), (3, .int (0 : Int32))]) rfl ?_
  exact t_X15_storySize_b4  _ _ _ _ _ _ hf
theorem dX15_today_0 : decode cX15_today 0 = .ok (.aload_n 0, 1) := by decide +kernel
theorem dX15_today_1 : decode cX15_today 1 = .ok (.getfield 188, 3) := by decide +kernel
theorem dX15_today_4 : decode cX15_today 4 = .ok (.sipush 1440, 3) := by decide +kernel
theorem dX15_today_7 : decode cX15_today 7 = .ok (.idiv, 1) := by decide +kernel
theorem dX15_today_8 : decode cX15_today 8 = .ok (.ireturn, 1) := by decide +kernel
/-- LivesAheadModel.today()I -/
def f_X15_today (σ : TH) (p0 : Nat) : Option (Int32 × TH) :=
  gt_ (kd_ σ p0 = 17) <| lt_ (fi_ σ 1606 p0) fun x1 => gt_ (¬ (1440 : Int32) = 0) <| some (x1 / (1440 : Int32), σ)
set_option maxHeartbeats 4000000 in
set_option maxRecDepth 100000 in
theorem c_X15_today {l : Launch} {D : va_G} {cy : Nat → ClassId} {ka : Nat → Nat} {σ z : TH} {p0 : Nat} {r : Int32} (hf : f_X15_today σ p0 = some (r, z)) : ct_ l D cy ka yX15_today 0 0 [va_rf (some p0)] σ (some (.int r)) z := by
  unfold f_X15_today at hf
  refine v_start (cc := cX15_today) (own := RX15) (maxL := 1) (ret := (some FieldType.int)) (nm := "today") (by decide +kernel) kw_1777 rfl rfl (by simp [lg_sl, va_rf_cat, cat_i, cat_l]) ?_
  refine v_eqL (L2 := [(0, va_rf (some p0))]) (by simp [lv_args, va_rf_cat, cat_i, cat_l]) ?_
  refine v_aload_n (x := (some p0)) dX15_today_0 rfl 0 rfl ?_
  obtain ⟨hk_p0, hf⟩ := gt_of hf
  refine v_geti cb_16 hk_p0 6 1606 rfl (by decide) rfl (lk_n kw_1463 rfl) hf dX15_today_1 (fun x1 hf => ?_)
  refine v_sipush (v := 1440) dX15_today_4 (by decide) ?_
  refine v_idiv hf dX15_today_7 (fun hf => ?_)
  exact v_iret hf dX15_today_8
theorem dX15_about_0 : decode cX15_about 0 = .ok (.aload_n 0, 1) := by decide +kernel
theorem dX15_about_1 : decode cX15_about 1 = .ok (.iconst 0, 1) := by decide +kernel
theorem dX15_about_2 : decode cX15_about 2 = .ok (.putfield 1, 3) := by decide +kernel
theorem dX15_about_5 : decode cX15_about 5 = .ok (.aload_n 0, 1) := by decide +kernel
theorem dX15_about_6 : decode cX15_about 6 = .ok (.iload_n 1, 1) := by decide +kernel
theorem dX15_about_7 : decode cX15_about 7 = .ok (.invokevirtual 227, 3) := by decide +kernel
theorem dX15_about_10 : decode cX15_about 10 = .ok (.ifCond .ne 5, 3) := by decide +kernel
theorem dX15_about_13 : decode cX15_about 13 = .ok (.iconst (-1), 1) := by decide +kernel
theorem dX15_about_14 : decode cX15_about 14 = .ok (.ireturn, 1) := by decide +kernel
theorem dX15_about_15 : decode cX15_about 15 = .ok (.iload_n 2, 1) := by decide +kernel
theorem dX15_about_16 : decode cX15_about 16 = .ok (.tableswitch 152 0 9 #[56, 63, 73, 80, 87, 102, 109, 124, 130, 139], 56) := by decide +kernel
theorem dX15_about_72 : decode cX15_about 72 = .ok (.aload_n 0, 1) := by decide +kernel
theorem dX15_about_73 : decode cX15_about 73 = .ok (.getfield 23, 3) := by decide +kernel
theorem dX15_about_76 : decode cX15_about 76 = .ok (.iload_n 1, 1) := by decide +kernel
theorem dX15_about_77 : decode cX15_about 77 = .ok (.iaload, 1) := by decide +kernel
theorem dX15_about_78 : decode cX15_about 78 = .ok (.ireturn, 1) := by decide +kernel
theorem dX15_about_79 : decode cX15_about 79 = .ok (.aload_n 0, 1) := by decide +kernel
theorem dX15_about_80 : decode cX15_about 80 = .ok (.iload_n 1, 1) := by decide +kernel
theorem dX15_about_81 : decode cX15_about 81 = .ok (.aload_n 0, 1) := by decide +kernel
theorem dX15_about_82 : decode cX15_about 82 = .ok (.invokevirtual 230, 3) := by decide +kernel
theorem dX15_about_85 : decode cX15_about 85 = .ok (.invokevirtual 234, 3) := by decide +kernel
theorem dX15_about_88 : decode cX15_about 88 = .ok (.ireturn, 1) := by decide +kernel
theorem dX15_about_89 : decode cX15_about 89 = .ok (.aload_n 0, 1) := by decide +kernel
theorem dX15_about_90 : decode cX15_about 90 = .ok (.getfield 29, 3) := by decide +kernel
theorem dX15_about_93 : decode cX15_about 93 = .ok (.iload_n 1, 1) := by decide +kernel
theorem dX15_about_94 : decode cX15_about 94 = .ok (.iaload, 1) := by decide +kernel
theorem dX15_about_95 : decode cX15_about 95 = .ok (.ireturn, 1) := by decide +kernel
theorem dX15_about_96 : decode cX15_about 96 = .ok (.aload_n 0, 1) := by decide +kernel
theorem dX15_about_97 : decode cX15_about 97 = .ok (.getfield 32, 3) := by decide +kernel
theorem dX15_about_100 : decode cX15_about 100 = .ok (.iload_n 1, 1) := by decide +kernel
theorem dX15_about_101 : decode cX15_about 101 = .ok (.iaload, 1) := by decide +kernel
theorem dX15_about_102 : decode cX15_about 102 = .ok (.ireturn, 1) := by decide +kernel
theorem dX15_about_103 : decode cX15_about 103 = .ok (.aload_n 0, 1) := by decide +kernel
theorem dX15_about_104 : decode cX15_about 104 = .ok (.getfield 45, 3) := by decide +kernel
theorem dX15_about_107 : decode cX15_about 107 = .ok (.iload_n 1, 1) := by decide +kernel
theorem dX15_about_108 : decode cX15_about 108 = .ok (.baload, 1) := by decide +kernel
theorem dX15_about_109 : decode cX15_about 109 = .ok (.ifCond .eq 7, 3) := by decide +kernel
theorem dX15_about_112 : decode cX15_about 112 = .ok (.iconst 1, 1) := by decide +kernel
theorem dX15_about_113 : decode cX15_about 113 = .ok (.goto 4, 3) := by decide +kernel
theorem dX15_about_116 : decode cX15_about 116 = .ok (.iconst 0, 1) := by decide +kernel
theorem dX15_about_117 : decode cX15_about 117 = .ok (.ireturn, 1) := by decide +kernel
theorem dX15_about_118 : decode cX15_about 118 = .ok (.aload_n 0, 1) := by decide +kernel
theorem dX15_about_119 : decode cX15_about 119 = .ok (.getfield 35, 3) := by decide +kernel
theorem dX15_about_122 : decode cX15_about 122 = .ok (.iload_n 1, 1) := by decide +kernel
theorem dX15_about_123 : decode cX15_about 123 = .ok (.iaload, 1) := by decide +kernel
theorem dX15_about_124 : decode cX15_about 124 = .ok (.ireturn, 1) := by decide +kernel
theorem dX15_about_125 : decode cX15_about 125 = .ok (.aload_n 0, 1) := by decide +kernel
theorem dX15_about_126 : decode cX15_about 126 = .ok (.getfield 48, 3) := by decide +kernel
theorem dX15_about_129 : decode cX15_about 129 = .ok (.iload_n 1, 1) := by decide +kernel
theorem dX15_about_130 : decode cX15_about 130 = .ok (.baload, 1) := by decide +kernel
theorem dX15_about_131 : decode cX15_about 131 = .ok (.ifCond .eq 7, 3) := by decide +kernel
theorem dX15_about_134 : decode cX15_about 134 = .ok (.iconst 1, 1) := by decide +kernel
theorem dX15_about_135 : decode cX15_about 135 = .ok (.goto 4, 3) := by decide +kernel
theorem dX15_about_138 : decode cX15_about 138 = .ok (.iconst 0, 1) := by decide +kernel
theorem dX15_about_139 : decode cX15_about 139 = .ok (.ireturn, 1) := by decide +kernel
theorem dX15_about_140 : decode cX15_about 140 = .ok (.aload_n 0, 1) := by decide +kernel
theorem dX15_about_141 : decode cX15_about 141 = .ok (.iload_n 1, 1) := by decide +kernel
theorem dX15_about_142 : decode cX15_about 142 = .ok (.invokevirtual 238, 3) := by decide +kernel
theorem dX15_about_145 : decode cX15_about 145 = .ok (.ireturn, 1) := by decide +kernel
theorem dX15_about_146 : decode cX15_about 146 = .ok (.aload_n 0, 1) := by decide +kernel
theorem dX15_about_147 : decode cX15_about 147 = .ok (.iload_n 1, 1) := by decide +kernel
theorem dX15_about_148 : decode cX15_about 148 = .ok (.invokevirtual 241, 3) := by decide +kernel
theorem dX15_about_151 : decode cX15_about 151 = .ok (.invokestatic 244, 3) := by decide +kernel
theorem dX15_about_154 : decode cX15_about 154 = .ok (.ireturn, 1) := by decide +kernel
theorem dX15_about_155 : decode cX15_about 155 = .ok (.aload_n 0, 1) := by decide +kernel
theorem dX15_about_156 : decode cX15_about 156 = .ok (.iload_n 1, 1) := by decide +kernel
theorem dX15_about_157 : decode cX15_about 157 = .ok (.aload_n 0, 1) := by decide +kernel
theorem dX15_about_158 : decode cX15_about 158 = .ok (.invokevirtual 230, 3) := by decide +kernel
theorem dX15_about_161 : decode cX15_about 161 = .ok (.invokevirtual 247, 3) := by decide +kernel
theorem dX15_about_164 : decode cX15_about 164 = .ok (.invokestatic 244, 3) := by decide +kernel
theorem dX15_about_167 : decode cX15_about 167 = .ok (.ireturn, 1) := by decide +kernel
theorem dX15_about_168 : decode cX15_about 168 = .ok (.iconst (-1), 1) := by decide +kernel
theorem dX15_about_169 : decode cX15_about 169 = .ok (.ireturn, 1) := by decide +kernel
def f_X15_about_b117 (σ : TH) (t0 : Int32) : Option (Int32 × TH) :=
  some (t0, σ)
set_option maxHeartbeats 4000000 in
set_option maxRecDepth 100000 in
theorem t_X15_about_b117 {l : Launch} {D : va_G} {cy : Nat → ClassId} {ka : Nat → Nat} {σ0 z : TH} {r : Int32}  {σ : TH} {t0 : Int32} (hf : f_X15_about_b117 σ t0 = some (r, z)) : v_ l D cy ka cX15_about RX15 3 (some FieldType.int) "about" 2 47 (qf_ D cy σ0 z (some (.int r))) σ0 z σ 117 [] [.int t0] := by
  unfold f_X15_about_b117 at hf
  exact v_iret hf dX15_about_117
def f_X15_about_b139 (σ : TH) (t0 : Int32) : Option (Int32 × TH) :=
  some (t0, σ)
set_option maxHeartbeats 4000000 in
set_option maxRecDepth 100000 in
theorem t_X15_about_b139 {l : Launch} {D : va_G} {cy : Nat → ClassId} {ka : Nat → Nat} {σ0 z : TH} {r : Int32}  {σ : TH} {t0 : Int32} (hf : f_X15_about_b139 σ t0 = some (r, z)) : v_ l D cy ka cX15_about RX15 3 (some FieldType.int) "about" 2 47 (qf_ D cy σ0 z (some (.int r))) σ0 z σ 139 [] [.int t0] := by
  unfold f_X15_about_b139 at hf
  exact v_iret hf dX15_about_139
/-- LivesAheadModel.about(II)I -/
def f_X15_about (σ : TH) (p0 : Nat) (p1 : Int32) (p2 : Int32) : Option (Int32 × TH) :=
  gt_ (kd_ σ p0 = 17) <| lt_ (si_ σ 1600 p0 (0 : Int32)) fun s1 => bd_ (f_X15_isPerson s1 p0 p1) fun x2 s3 => if x2 = 0 then (some ((-1 : Int32), s3)) else (if p2 = 0 then (lt_ (fr_ s3 1608 p0) fun r4 => nn_ r4 fun a5 => gt_ (kd_ s3 a5 = 20) <| gt_ (¬ (p1 < 0 ∨ ln_ s3 a5 ≤ p1.toNatClampNeg)) <| lt_ (ai_ s3 a5 p1.toNatClampNeg) fun x6 => some (x6, s3)) else if p2 = 1 then (bd_ (f_X15_today s3 p0) fun x7 s8 => bd_ (f_X15_ageOn s8 p0 p1 x7) fun x9 s10 => some (x9, s10)) else if p2 = 2 then (lt_ (fr_ s3 1610 p0) fun r11 => nn_ r11 fun a12 => gt_ (kd_ s3 a12 = 20) <| gt_ (¬ (p1 < 0 ∨ ln_ s3 a12 ≤ p1.toNatClampNeg)) <| lt_ (ai_ s3 a12 p1.toNatClampNeg) fun x13 => some (x13, s3)) else if p2 = 3 then (lt_ (fr_ s3 1611 p0) fun r14 => nn_ r14 fun a15 => gt_ (kd_ s3 a15 = 20) <| gt_ (¬ (p1 < 0 ∨ ln_ s3 a15 ≤ p1.toNatClampNeg)) <| lt_ (ai_ s3 a15 p1.toNatClampNeg) fun x16 => some (x16, s3)) else if p2 = 4 then (lt_ (fr_ s3 1615 p0) fun r17 => nn_ r17 fun a18 => gt_ (kd_ s3 a18 = 22) <| gt_ (¬ (p1 < 0 ∨ ln_ s3 a18 ≤ p1.toNatClampNeg)) <| lt_ (ai_ s3 a18 p1.toNatClampNeg) fun x19 => if x19 = 0 then (f_X15_about_b117 s3 (0 : Int32)) else (f_X15_about_b117 s3 (1 : Int32))) else if p2 = 5 then (lt_ (fr_ s3 1612 p0) fun r20 => nn_ r20 fun a21 => gt_ (kd_ s3 a21 = 20) <| gt_ (¬ (p1 < 0 ∨ ln_ s3 a21 ≤ p1.toNatClampNeg)) <| lt_ (ai_ s3 a21 p1.toNatClampNeg) fun x22 => some (x22, s3)) else if p2 = 6 then (lt_ (fr_ s3 1616 p0) fun r23 => nn_ r23 fun a24 => gt_ (kd_ s3 a24 = 22) <| gt_ (¬ (p1 < 0 ∨ ln_ s3 a24 ≤ p1.toNatClampNeg)) <| lt_ (ai_ s3 a24 p1.toNatClampNeg) fun x25 => if x25 = 0 then (f_X15_about_b139 s3 (0 : Int32)) else (f_X15_about_b139 s3 (1 : Int32))) else if p2 = 7 then (bd_ (f_X15_storySize s3 p0 p1) fun x26 s27 => some (x26, s27)) else if p2 = 8 then (bd_ (f_X15_kindsOf s3 p0 p1) fun x28 s29 => bd_ (f_X15_bits s29 x28) fun x30 s31 => some (x30, s31)) else if p2 = 9 then (bd_ (f_X15_today s3 p0) fun x32 s33 => bd_ (f_X15_staleOf s33 p0 p1 x32) fun x34 s35 => bd_ (f_X15_bits s35 x34) fun x36 s37 => some (x36, s37)) else (some ((-1 : Int32), s3)))
set_option maxHeartbeats 4000000 in
set_option maxRecDepth 100000 in
theorem c_X15_about {l : Launch} {D : va_G} {cy : Nat → ClassId} {ka : Nat → Nat} {σ z : TH} {p0 : Nat} {p1 : Int32} {p2 : Int32} {r : Int32} (hf : f_X15_about σ p0 p1 p2 = some (r, z)) : ct_ l D cy ka yX15_about 2 47 [va_rf (some p0), .int p1, .int p2] σ (some (.int r)) z := by
  unfold f_X15_about at hf
  refine v_start (cc := cX15_about) (own := RX15) (maxL := 3) (ret := (some FieldType.int)) (nm := "about") (by decide +kernel) kw_1769 rfl rfl (by simp [lg_sl, va_rf_cat, cat_i, cat_l]) ?_
  refine v_eqL (L2 := [(0, va_rf (some p0)), (1, .int p1), (2, .int p2)]) (by simp [lv_args, va_rf_cat, cat_i, cat_l]) ?_
  refine v_aload_n (x := (some p0)) dX15_about_0 rfl 0 rfl ?_
  refine v_iconst (v := 0) dX15_about_1 (by decide) ?_
  obtain ⟨hk_p0, hf⟩ := gt_of hf
  refine v_puti2 cb_16 hk_p0 0 1600 rfl (by decide) rfl (lk_n kw_1457 rfl) (Or.inl rfl) rfl rfl hf dX15_about_2 (fun s1 hts1 hf => ?_)
  have hk_p0 := tk_ hts1 hk_p0
  refine v_aload_n (x := (some p0)) dX15_about_5 rfl 0 rfl ?_
  refine v_iload_n (x := p1) dX15_about_6 rfl 1 rfl ?_
  obtain ⟨x2, s3, hcs3, hf⟩ := bd_of hf
  have hts3 := c_X15_isPerson (l := l) (D := D) (cy := cy) (ka := ka) hcs3
  refine v_callV cb_16 hk_p0 (As := [.int p1]) (rest := []) hts3 yb_X15_isPerson kw_1770 kw_1772 kp_83 rfl ⟨Nat.le_of_ble_eq_true rfl, Nat.le_of_ble_eq_true rfl⟩ rfl (cat_len (Nat.le_of_ble_eq_true rfl)) dX15_about_7 ?_
  have hk_p0 := tk_ hts3.1 hk_p0
  show v_ l D cy ka cX15_about RX15 3 (some FieldType.int) "about" 2 47 (qf_ D cy σ z (some (.int r))) σ z _ 10 [(0, va_rf (some p0)), (1, .int p1), (2, .int p2)] [.int x2]
  refine v_if_ne (tgt := 15) hf dX15_about_10 (by decide) (fun hq hf => ?_) (fun hq hf => ?_)
  · refine v_iconst (v := (-1)) dX15_about_13 (by decide) ?_
    exact v_iret hf dX15_about_14
  · refine v_iload_n (x := p2) dX15_about_15 rfl 2 rfl ?_
    by_cases hq0 : p2 = 0
    · rw [if_pos hq0] at hf
      refine v_tswIn (tgt := 72) (c9 := 0) hq0 dX15_about_16 (by decide) (by decide) rfl (by decide) ?_
      refine v_aload_n (x := (some p0)) dX15_about_72 rfl 0 rfl ?_
      refine v_getr cb_16 hk_p0 8 1608 rfl (by decide) rfl (lk_n kw_1465 rfl) hf dX15_about_73 (fun r4 hf => ?_)
      refine v_iload_n (x := p1) dX15_about_76 rfl 1 rfl ?_
      obtain ⟨a5, rfl, hf⟩ := nn_of hf
      obtain ⟨hk_a5, hf⟩ := gt_of hf
      refine v_iald hk_a5 hf dX15_about_77 (fun x6 hf => ?_)
      exact v_iret hf dX15_about_78
    rw [if_neg hq0] at hf
    by_cases hq1 : p2 = 1
    · rw [if_pos hq1] at hf
      refine v_tswIn (tgt := 79) (c9 := 1) hq1 dX15_about_16 (by decide) (by decide) rfl (by decide) ?_
      refine v_aload_n (x := (some p0)) dX15_about_79 rfl 0 rfl ?_
      refine v_iload_n (x := p1) dX15_about_80 rfl 1 rfl ?_
      refine v_aload_n (x := (some p0)) dX15_about_81 rfl 0 rfl ?_
      obtain ⟨x7, s8, hcs8, hf⟩ := bd_of hf
      have hts8 := c_X15_today (l := l) (D := D) (cy := cy) (ka := ka) hcs8
      refine v_callV cb_16 hk_p0 (As := []) (rest := [.int p1, va_rf (some p0)]) hts8 yb_X15_today kw_1774 kw_1776 kp_84 rfl ⟨Nat.le_of_ble_eq_true rfl, Nat.le_of_ble_eq_true rfl⟩ rfl (cat_len (Nat.le_of_ble_eq_true rfl)) dX15_about_82 ?_
      have hk_p0 := tk_ hts8.1 hk_p0
      show v_ l D cy ka cX15_about RX15 3 (some FieldType.int) "about" 2 47 (qf_ D cy σ z (some (.int r))) σ z _ 85 [(0, va_rf (some p0)), (1, .int p1), (2, .int p2)] [.int x7, .int p1, va_rf (some p0)]
      obtain ⟨x9, s10, hcs10, hf⟩ := bd_of hf
      have hts10 := c_X15_ageOn (l := l) (D := D) (cy := cy) (ka := ka) hcs10
      refine v_callV cb_16 hk_p0 (As := [.int p1, .int x7]) (rest := []) hts10 yb_X15_ageOn kw_1778 kw_1780 kp_85 rfl ⟨Nat.le_of_ble_eq_true rfl, Nat.le_of_ble_eq_true rfl⟩ rfl (cat_len (Nat.le_of_ble_eq_true rfl)) dX15_about_85 ?_
      have hk_p0 := tk_ hts10.1 hk_p0
      show v_ l D cy ka cX15_about RX15 3 (some FieldType.int) "about" 2 47 (qf_ D cy σ z (some (.int r))) σ z _ 88 [(0, va_rf (some p0)), (1, .int p1), (2, .int p2)] [.int x9]
      exact v_iret hf dX15_about_88
    rw [if_neg hq1] at hf
    by_cases hq2 : p2 = 2
    · rw [if_pos hq2] at hf
      refine v_tswIn (tgt := 89) (c9 := 2) hq2 dX15_about_16 (by decide) (by decide) rfl (by decide) ?_
      refine v_aload_n (x := (some p0)) dX15_about_89 rfl 0 rfl ?_
      refine v_getr cb_16 hk_p0 10 1610 rfl (by decide) rfl (lk_n kw_1467 rfl) hf dX15_about_90 (fun r11 hf => ?_)
      refine v_iload_n (x := p1) dX15_about_93 rfl 1 rfl ?_
      obtain ⟨a12, rfl, hf⟩ := nn_of hf
      obtain ⟨hk_a12, hf⟩ := gt_of hf
      refine v_iald hk_a12 hf dX15_about_94 (fun x13 hf => ?_)
      exact v_iret hf dX15_about_95
    rw [if_neg hq2] at hf
    by_cases hq3 : p2 = 3
    · rw [if_pos hq3] at hf
      refine v_tswIn (tgt := 96) (c9 := 3) hq3 dX15_about_16 (by decide) (by decide) rfl (by decide) ?_
      refine v_aload_n (x := (some p0)) dX15_about_96 rfl 0 rfl ?_
      refine v_getr cb_16 hk_p0 11 1611 rfl (by decide) rfl (lk_n kw_1468 rfl) hf dX15_about_97 (fun r14 hf => ?_)
      refine v_iload_n (x := p1) dX15_about_100 rfl 1 rfl ?_
      obtain ⟨a15, rfl, hf⟩ := nn_of hf
      obtain ⟨hk_a15, hf⟩ := gt_of hf
      refine v_iald hk_a15 hf dX15_about_101 (fun x16 hf => ?_)
      exact v_iret hf dX15_about_102
    rw [if_neg hq3] at hf
    by_cases hq4 : p2 = 4
    · rw [if_pos hq4] at hf
      refine v_tswIn (tgt := 103) (c9 := 4) hq4 dX15_about_16 (by decide) (by decide) rfl (by decide) ?_
      refine v_aload_n (x := (some p0)) dX15_about_103 rfl 0 rfl ?_
      refine v_getr cb_16 hk_p0 15 1615 rfl (by decide) rfl (lk_n kw_1472 rfl) hf dX15_about_104 (fun r17 hf => ?_)
      refine v_iload_n (x := p1) dX15_about_107 rfl 1 rfl ?_
      obtain ⟨a18, rfl, hf⟩ := nn_of hf
      obtain ⟨hk_a18, hf⟩ := gt_of hf
      refine v_zald hk_a18 hf dX15_about_108 (fun x19 hf => ?_)
      refine v_if_eq (tgt := 116) hf dX15_about_109 (by decide) (fun hq hf => ?_) (fun hq hf => ?_)
      · refine v_iconst (v := 0) dX15_about_116 (by decide) ?_
        refine v_sub [] (L2 := []) rfl ?_
        exact t_X15_about_b117  hf
      · refine v_iconst (v := 1) dX15_about_112 (by decide) ?_
        refine v_goto (tgt := 117) dX15_about_113 (by decide) ?_
        refine v_sub [] (L2 := []) rfl ?_
        exact t_X15_about_b117  hf
    rw [if_neg hq4] at hf
    by_cases hq5 : p2 = 5
    · rw [if_pos hq5] at hf
      refine v_tswIn (tgt := 118) (c9 := 5) hq5 dX15_about_16 (by decide) (by decide) rfl (by decide) ?_
      refine v_aload_n (x := (some p0)) dX15_about_118 rfl 0 rfl ?_
      refine v_getr cb_16 hk_p0 12 1612 rfl (by decide) rfl (lk_n kw_1469 rfl) hf dX15_about_119 (fun r20 hf => ?_)
      refine v_iload_n (x := p1) dX15_about_122 rfl 1 rfl ?_
      obtain ⟨a21, rfl, hf⟩ := nn_of hf
      obtain ⟨hk_a21, hf⟩ := gt_of hf
      refine v_iald hk_a21 hf dX15_about_123 (fun x22 hf => ?_)
      exact v_iret hf dX15_about_124
    rw [if_neg hq5] at hf
    by_cases hq6 : p2 = 6
    · rw [if_pos hq6] at hf
      refine v_tswIn (tgt := 125) (c9 := 6) hq6 dX15_about_16 (by decide) (by decide) rfl (by decide) ?_
      refine v_aload_n (x := (some p0)) dX15_about_125 rfl 0 rfl ?_
      refine v_getr cb_16 hk_p0 16 1616 rfl (by decide) rfl (lk_n kw_1473 rfl) hf dX15_about_126 (fun r23 hf => ?_)
      refine v_iload_n (x := p1) dX15_about_129 rfl 1 rfl ?_
      obtain ⟨a24, rfl, hf⟩ := nn_of hf
      obtain ⟨hk_a24, hf⟩ := gt_of hf
      refine v_zald hk_a24 hf dX15_about_130 (fun x25 hf => ?_)
      refine v_if_eq (tgt := 138) hf dX15_about_131 (by decide) (fun hq hf => ?_) (fun hq hf => ?_)
      · refine v_iconst (v := 0) dX15_about_138 (by decide) ?_
        refine v_sub [] (L2 := []) rfl ?_
        exact t_X15_about_b139  hf
      · refine v_iconst (v := 1) dX15_about_134 (by decide) ?_
        refine v_goto (tgt := 139) dX15_about_135 (by decide) ?_
        refine v_sub [] (L2 := []) rfl ?_
        exact t_X15_about_b139  hf
    rw [if_neg hq6] at hf
    by_cases hq7 : p2 = 7
    · rw [if_pos hq7] at hf
      refine v_tswIn (tgt := 140) (c9 := 7) hq7 dX15_about_16 (by decide) (by decide) rfl (by decide) ?_
      refine v_aload_n (x := (some p0)) dX15_about_140 rfl 0 rfl ?_
      refine v_iload_n (x := p1) dX15_about_141 rfl 1 rfl ?_
      obtain ⟨x26, s27, hcs27, hf⟩ := bd_of hf
      have hts27 := c_X15_storySize (l := l) (D := D) (cy := cy) (ka := ka) hcs27
      refine v_callV cb_16 hk_p0 (As := [.int p1]) (rest := []) hts27 yb_X15_storySize kw_1786 kw_1788 kp_87 rfl ⟨Nat.le_of_ble_eq_true rfl, Nat.le_of_ble_eq_true rfl⟩ rfl (cat_len (Nat.le_of_ble_eq_true rfl)) dX15_about_142 ?_
      have hk_p0 := tk_ hts27.1 hk_p0
      show v_ l D cy ka cX15_about RX15 3 (some FieldType.int) "about" 2 47 (qf_ D cy σ z (some (.int r))) σ z _ 145 [(0, va_rf (some p0)), (1, .int p1), (2, .int p2)] [.int x26]
      exact v_iret hf dX15_about_145
    rw [if_neg hq7] at hf
    by_cases hq8 : p2 = 8
    · rw [if_pos hq8] at hf
      refine v_tswIn (tgt := 146) (c9 := 8) hq8 dX15_about_16 (by decide) (by decide) rfl (by decide) ?_
      refine v_aload_n (x := (some p0)) dX15_about_146 rfl 0 rfl ?_
      refine v_iload_n (x := p1) dX15_about_147 rfl 1 rfl ?_
      obtain ⟨x28, s29, hcs29, hf⟩ := bd_of hf
      have hts29 := c_X15_kindsOf (l := l) (D := D) (cy := cy) (ka := ka) hcs29
      refine v_callV cb_16 hk_p0 (As := [.int p1]) (rest := []) hts29 yb_X15_kindsOf kw_1790 kw_1792 kp_88 rfl ⟨Nat.le_of_ble_eq_true rfl, Nat.le_of_ble_eq_true rfl⟩ rfl (cat_len (Nat.le_of_ble_eq_true rfl)) dX15_about_148 ?_
      have hk_p0 := tk_ hts29.1 hk_p0
      show v_ l D cy ka cX15_about RX15 3 (some FieldType.int) "about" 2 47 (qf_ D cy σ z (some (.int r))) σ z _ 151 [(0, va_rf (some p0)), (1, .int p1), (2, .int p2)] [.int x28]
      obtain ⟨x30, s31, hcs31, hf⟩ := bd_of hf
      have hts31 := c_X15_bits (l := l) (D := D) (cy := cy) (ka := ka) hcs31
      refine v_callS (As := [.int x28]) (rest := []) hts31 yb_X15_bits kw_1794 kw_1795 rfl ⟨Nat.le_of_ble_eq_true rfl, Nat.le_of_ble_eq_true rfl⟩ rfl (cat_len (Nat.le_of_ble_eq_true rfl)) dX15_about_151 ?_
      have hk_p0 := tk_ hts31.1 hk_p0
      show v_ l D cy ka cX15_about RX15 3 (some FieldType.int) "about" 2 47 (qf_ D cy σ z (some (.int r))) σ z _ 154 [(0, va_rf (some p0)), (1, .int p1), (2, .int p2)] [.int x30]
      exact v_iret hf dX15_about_154
    rw [if_neg hq8] at hf
    by_cases hq9 : p2 = 9
    · rw [if_pos hq9] at hf
      refine v_tswIn (tgt := 155) (c9 := 9) hq9 dX15_about_16 (by decide) (by decide) rfl (by decide) ?_
      refine v_aload_n (x := (some p0)) dX15_about_155 rfl 0 rfl ?_
      refine v_iload_n (x := p1) dX15_about_156 rfl 1 rfl ?_
      refine v_aload_n (x := (some p0)) dX15_about_157 rfl 0 rfl ?_
      obtain ⟨x32, s33, hcs33, hf⟩ := bd_of hf
      have hts33 := c_X15_today (l := l) (D := D) (cy := cy) (ka := ka) hcs33
      refine v_callV cb_16 hk_p0 (As := []) (rest := [.int p1, va_rf (some p0)]) hts33 yb_X15_today kw_1774 kw_1776 kp_84 rfl ⟨Nat.le_of_ble_eq_true rfl, Nat.le_of_ble_eq_true rfl⟩ rfl (cat_len (Nat.le_of_ble_eq_true rfl)) dX15_about_158 ?_
      have hk_p0 := tk_ hts33.1 hk_p0
      show v_ l D cy ka cX15_about RX15 3 (some FieldType.int) "about" 2 47 (qf_ D cy σ z (some (.int r))) σ z _ 161 [(0, va_rf (some p0)), (1, .int p1), (2, .int p2)] [.int x32, .int p1, va_rf (some p0)]
      obtain ⟨x34, s35, hcs35, hf⟩ := bd_of hf
      have hts35 := c_X15_staleOf (l := l) (D := D) (cy := cy) (ka := ka) hcs35
      refine v_callV cb_16 hk_p0 (As := [.int p1, .int x32]) (rest := []) hts35 yb_X15_staleOf kw_1797 kw_1799 kp_89 rfl ⟨Nat.le_of_ble_eq_true rfl, Nat.le_of_ble_eq_true rfl⟩ rfl (cat_len (Nat.le_of_ble_eq_true rfl)) dX15_about_161 ?_
      have hk_p0 := tk_ hts35.1 hk_p0
      show v_ l D cy ka cX15_about RX15 3 (some FieldType.int) "about" 2 47 (qf_ D cy σ z (some (.int r))) σ z _ 164 [(0, va_rf (some p0)), (1, .int p1), (2, .int p2)] [.int x34]
      obtain ⟨x36, s37, hcs37, hf⟩ := bd_of hf
      have hts37 := c_X15_bits (l := l) (D := D) (cy := cy) (ka := ka) hcs37
      refine v_callS (As := [.int x34]) (rest := []) hts37 yb_X15_bits kw_1794 kw_1795 rfl ⟨Nat.le_of_ble_eq_true rfl, Nat.le_of_ble_eq_true rfl⟩ rfl (cat_len (Nat.le_of_ble_eq_true rfl)) dX15_about_164 ?_
      have hk_p0 := tk_ hts37.1 hk_p0
      show v_ l D cy ka cX15_about RX15 3 (some FieldType.int) "about" 2 47 (qf_ D cy σ z (some (.int r))) σ z _ 167 [(0, va_rf (some p0)), (1, .int p1), (2, .int p2)] [.int x36]
      exact v_iret hf dX15_about_167
    rw [if_neg hq9] at hf
    refine v_tswOut (tgt := 168) 10 0 (by decide) (by decide) (fun j hj => ?_) (by decide) (by decide) dX15_about_16 (by decide) ?_
    · match j, hj with
      | 0, _ => exact hq0
      | 1, _ => exact hq1
      | 2, _ => exact hq2
      | 3, _ => exact hq3
      | 4, _ => exact hq4
      | 5, _ => exact hq5
      | 6, _ => exact hq6
      | 7, _ => exact hq7
      | 8, _ => exact hq8
      | 9, _ => exact hq9
      | j + 10, hj => exact absurd hj (by omega)
    · refine v_iconst (v := (-1)) dX15_about_168 (by decide) ?_
      exact v_iret hf dX15_about_169
theorem dX15_done_0 : decode cX15_done 0 = .ok (.aload_n 0, 1) := by decide +kernel
theorem dX15_done_1 : decode cX15_done 1 = .ok (.iconst 0, 1) := by decide +kernel
theorem dX15_done_2 : decode cX15_done 2 = .ok (.putfield 7, 3) := by decide +kernel
theorem dX15_done_5 : decode cX15_done 5 = .ok (.aload_n 0, 1) := by decide +kernel
theorem dX15_done_6 : decode cX15_done 6 = .ok (.iconst (-1), 1) := by decide +kernel
theorem dX15_done_7 : decode cX15_done 7 = .ok (.putfield 10, 3) := by decide +kernel
theorem dX15_done_10 : decode cX15_done 10 = .ok (.iload_n 1, 1) := by decide +kernel
theorem dX15_done_11 : decode cX15_done 11 = .ok (.ireturn, 1) := by decide +kernel
/-- LivesAheadModel.done(I)I -/
def f_X15_done (σ : TH) (p0 : Nat) (p1 : Int32) : Option (Int32 × TH) :=
  gt_ (kd_ σ p0 = 17) <| lt_ (si_ σ 1601 p0 (0 : Int32)) fun s1 => lt_ (si_ s1 1602 p0 (-1 : Int32)) fun s2 => some (p1, s2)
set_option maxHeartbeats 4000000 in
set_option maxRecDepth 100000 in
theorem c_X15_done {l : Launch} {D : va_G} {cy : Nat → ClassId} {ka : Nat → Nat} {σ z : TH} {p0 : Nat} {p1 : Int32} {r : Int32} (hf : f_X15_done σ p0 p1 = some (r, z)) : ct_ l D cy ka yX15_done 0 0 [va_rf (some p0), .int p1] σ (some (.int r)) z := by
  unfold f_X15_done at hf
  refine v_start (cc := cX15_done) (own := RX15) (maxL := 2) (ret := (some FieldType.int)) (nm := "done") (by decide +kernel) kw_1736 rfl rfl (by simp [lg_sl, va_rf_cat, cat_i, cat_l]) ?_
  refine v_eqL (L2 := [(0, va_rf (some p0)), (1, .int p1)]) (by simp [lv_args, va_rf_cat, cat_i, cat_l]) ?_
  refine v_aload_n (x := (some p0)) dX15_done_0 rfl 0 rfl ?_
  refine v_iconst (v := 0) dX15_done_1 (by decide) ?_
  obtain ⟨hk_p0, hf⟩ := gt_of hf
  refine v_puti2 cb_16 hk_p0 1 1601 rfl (by decide) rfl (lk_n kw_1458 rfl) (Or.inl rfl) rfl rfl hf dX15_done_2 (fun s1 hts1 hf => ?_)
  have hk_p0 := tk_ hts1 hk_p0
  refine v_aload_n (x := (some p0)) dX15_done_5 rfl 0 rfl ?_
  refine v_iconst (v := (-1)) dX15_done_6 (by decide) ?_
  refine v_puti2 cb_16 hk_p0 2 1602 rfl (by decide) rfl (lk_n kw_1459 rfl) (Or.inl rfl) rfl rfl hf dX15_done_7 (fun s2 hts2 hf => ?_)
  have hk_p0 := tk_ hts2 hk_p0
  refine v_iload_n (x := p1) dX15_done_10 rfl 1 rfl ?_
  exact v_iret hf dX15_done_11
theorem dX15_in_0 : decode cX15_in 0 = .ok (.iload_n 0, 1) := by decide +kernel
theorem dX15_in_1 : decode cX15_in 1 = .ok (.iload_n 1, 1) := by decide +kernel
theorem dX15_in_2 : decode cX15_in 2 = .ok (.if_icmp .lt 12, 3) := by decide +kernel
theorem dX15_in_5 : decode cX15_in 5 = .ok (.iload_n 0, 1) := by decide +kernel
theorem dX15_in_6 : decode cX15_in 6 = .ok (.iload_n 2, 1) := by decide +kernel
theorem dX15_in_7 : decode cX15_in 7 = .ok (.if_icmp .gt 7, 3) := by decide +kernel
theorem dX15_in_10 : decode cX15_in 10 = .ok (.iconst 1, 1) := by decide +kernel
theorem dX15_in_11 : decode cX15_in 11 = .ok (.goto 4, 3) := by decide +kernel
theorem dX15_in_14 : decode cX15_in 14 = .ok (.iconst 0, 1) := by decide +kernel
theorem dX15_in_15 : decode cX15_in 15 = .ok (.ireturn, 1) := by decide +kernel
def f_X15_in_b15 (σ : TH) (t0 : Int32) : Option (Int32 × TH) :=
  gt_ (t0 = 0 ∨ t0 = 1) <| some (t0, σ)
set_option maxHeartbeats 4000000 in
set_option maxRecDepth 100000 in
theorem t_X15_in_b15 {l : Launch} {D : va_G} {cy : Nat → ClassId} {ka : Nat → Nat} {σ0 z : TH} {r : Int32}  {σ : TH} {t0 : Int32} (hf : f_X15_in_b15 σ t0 = some (r, z)) : v_ l D cy ka cX15_in RX15 3 (some FieldType.boolean) "in" 0 0 (qf_ D cy σ0 z (some (.int r))) σ0 z σ 15 [] [.int t0] := by
  unfold f_X15_in_b15 at hf
  obtain ⟨hb9, hf⟩ := gt_of hf
  exact v_zret hf (nz_ hb9) dX15_in_15
def f_X15_in_b14 (σ : TH) : Option (Int32 × TH) :=
  f_X15_in_b15 σ (0 : Int32)
set_option maxHeartbeats 4000000 in
set_option maxRecDepth 100000 in
theorem t_X15_in_b14 {l : Launch} {D : va_G} {cy : Nat → ClassId} {ka : Nat → Nat} {σ0 z : TH} {r : Int32}  {σ : TH}  (hf : f_X15_in_b14 σ  = some (r, z)) : v_ l D cy ka cX15_in RX15 3 (some FieldType.boolean) "in" 0 0 (qf_ D cy σ0 z (some (.int r))) σ0 z σ 14 [] [] := by
  unfold f_X15_in_b14 at hf
  refine v_iconst (v := 0) dX15_in_14 (by decide) ?_
  refine v_sub [] (L2 := []) rfl ?_
  exact t_X15_in_b15  hf
/-- LivesAheadModel.in(III)Z -/
def f_X15_in (σ : TH) (p0 : Int32) (p1 : Int32) (p2 : Int32) : Option (Int32 × TH) :=
  if p0 < p1 then (f_X15_in_b14 σ ) else (if p2 < p0 then (f_X15_in_b14 σ ) else (f_X15_in_b15 σ (1 : Int32)))
set_option maxHeartbeats 4000000 in
set_option maxRecDepth 100000 in
theorem c_X15_in {l : Launch} {D : va_G} {cy : Nat → ClassId} {ka : Nat → Nat} {σ z : TH} {p0 : Int32} {p1 : Int32} {p2 : Int32} {r : Int32} (hf : f_X15_in σ p0 p1 p2 = some (r, z)) : ct_ l D cy ka yX15_in 0 0 [.int p0, .int p1, .int p2] σ (some (.int r)) z := by
  unfold f_X15_in at hf
  refine v_start (cc := cX15_in) (own := RX15) (maxL := 3) (ret := (some FieldType.boolean)) (nm := "in") (by decide +kernel) kw_1728 rfl rfl (by simp [lg_sl, va_rf_cat, cat_i, cat_l]) ?_
  refine v_eqL (L2 := [(0, .int p0), (1, .int p1), (2, .int p2)]) (by simp [lv_args, va_rf_cat, cat_i, cat_l]) ?_
  refine v_iload_n (x := p0) dX15_in_0 rfl 0 rfl ?_
  refine v_iload_n (x := p1) dX15_in_1 rfl 1 rfl ?_
  refine v_icmp_lt (tgt := 14) hf dX15_in_2 (by decide) (fun hq hf => ?_) (fun hq hf => ?_)
  · refine v_sub [] (L2 := []) rfl ?_
    exact t_X15_in_b14  hf
  · refine v_iload_n (x := p0) dX15_in_5 rfl 0 rfl ?_
    refine v_iload_n (x := p2) dX15_in_6 rfl 2 rfl ?_
    refine v_icmp_gt (tgt := 14) hf dX15_in_7 (by decide) (fun hq hf => ?_) (fun hq hf => ?_)
    · refine v_sub [] (L2 := []) rfl ?_
      exact t_X15_in_b14  hf
    · refine v_iconst (v := 1) dX15_in_10 (by decide) ?_
      refine v_goto (tgt := 15) dX15_in_11 (by decide) ?_
      refine v_sub [] (L2 := []) rfl ?_
      exact t_X15_in_b15  hf
theorem dX15_refused_0 : decode cX15_refused 0 = .ok (.aload_n 0, 1) := by decide +kernel
theorem dX15_refused_1 : decode cX15_refused 1 = .ok (.iload_n 1, 1) := by decide +kernel
theorem dX15_refused_2 : decode cX15_refused 2 = .ok (.putfield 7, 3) := by decide +kernel
theorem dX15_refused_5 : decode cX15_refused 5 = .ok (.aload_n 0, 1) := by decide +kernel
theorem dX15_refused_6 : decode cX15_refused 6 = .ok (.iconst (-1), 1) := by decide +kernel
theorem dX15_refused_7 : decode cX15_refused 7 = .ok (.putfield 10, 3) := by decide +kernel
theorem dX15_refused_10 : decode cX15_refused 10 = .ok (.iconst (-1), 1) := by decide +kernel
theorem dX15_refused_11 : decode cX15_refused 11 = .ok (.ireturn, 1) := by decide +kernel
/-- LivesAheadModel.refused(I)I -/
def f_X15_refused (σ : TH) (p0 : Nat) (p1 : Int32) : Option (Int32 × TH) :=
  gt_ (kd_ σ p0 = 17) <| lt_ (si_ σ 1601 p0 p1) fun s1 => lt_ (si_ s1 1602 p0 (-1 : Int32)) fun s2 => some ((-1 : Int32), s2)
set_option maxHeartbeats 4000000 in
set_option maxRecDepth 100000 in
theorem c_X15_refused {l : Launch} {D : va_G} {cy : Nat → ClassId} {ka : Nat → Nat} {σ z : TH} {p0 : Nat} {p1 : Int32} {r : Int32} (hf : f_X15_refused σ p0 p1 = some (r, z)) : ct_ l D cy ka yX15_refused 0 0 [va_rf (some p0), .int p1] σ (some (.int r)) z := by
  unfold f_X15_refused at hf
  refine v_start (cc := cX15_refused) (own := RX15) (maxL := 2) (ret := (some FieldType.int)) (nm := "refused") (by decide +kernel) kw_1732 rfl rfl (by simp [lg_sl, va_rf_cat, cat_i, cat_l]) ?_
  refine v_eqL (L2 := [(0, va_rf (some p0)), (1, .int p1)]) (by simp [lv_args, va_rf_cat, cat_i, cat_l]) ?_
  refine v_aload_n (x := (some p0)) dX15_refused_0 rfl 0 rfl ?_
  refine v_iload_n (x := p1) dX15_refused_1 rfl 1 rfl ?_
  obtain ⟨hk_p0, hf⟩ := gt_of hf
  refine v_puti2 cb_16 hk_p0 1 1601 rfl (by decide) rfl (lk_n kw_1458 rfl) (Or.inl rfl) rfl rfl hf dX15_refused_2 (fun s1 hts1 hf => ?_)
  have hk_p0 := tk_ hts1 hk_p0
  refine v_aload_n (x := (some p0)) dX15_refused_5 rfl 0 rfl ?_
  refine v_iconst (v := (-1)) dX15_refused_6 (by decide) ?_
  refine v_puti2 cb_16 hk_p0 2 1602 rfl (by decide) rfl (lk_n kw_1459 rfl) (Or.inl rfl) rfl rfl hf dX15_refused_7 (fun s2 hts2 hf => ?_)
  have hk_p0 := tk_ hts2 hk_p0
  refine v_iconst (v := (-1)) dX15_refused_10 (by decide) ?_
  exact v_iret hf dX15_refused_11
theorem dX15_ages_0 : decode cX15_ages 0 = .ok (.aload_n 0, 1) := by decide +kernel
theorem dX15_ages_1 : decode cX15_ages 1 = .ok (.iconst 0, 1) := by decide +kernel
theorem dX15_ages_2 : decode cX15_ages 2 = .ok (.putfield 1, 3) := by decide +kernel
theorem dX15_ages_5 : decode cX15_ages 5 = .ok (.aload_n 0, 1) := by decide +kernel
theorem dX15_ages_6 : decode cX15_ages 6 = .ok (.iload_n 1, 1) := by decide +kernel
theorem dX15_ages_7 : decode cX15_ages 7 = .ok (.invokevirtual 227, 3) := by decide +kernel
theorem dX15_ages_10 : decode cX15_ages 10 = .ok (.ifCond .ne 9, 3) := by decide +kernel
theorem dX15_ages_13 : decode cX15_ages 13 = .ok (.aload_n 0, 1) := by decide +kernel
theorem dX15_ages_14 : decode cX15_ages 14 = .ok (.iconst 1, 1) := by decide +kernel
theorem dX15_ages_15 : decode cX15_ages 15 = .ok (.invokevirtual 201, 3) := by decide +kernel
theorem dX15_ages_18 : decode cX15_ages 18 = .ok (.ireturn, 1) := by decide +kernel
theorem dX15_ages_19 : decode cX15_ages 19 = .ok (.iload_n 2, 1) := by decide +kernel
theorem dX15_ages_20 : decode cX15_ages 20 = .ok (.aload_n 0, 1) := by decide +kernel
theorem dX15_ages_21 : decode cX15_ages 21 = .ok (.invokevirtual 230, 3) := by decide +kernel
theorem dX15_ages_24 : decode cX15_ages 24 = .ok (.sipush 3650, 3) := by decide +kernel
theorem dX15_ages_27 : decode cX15_ages 27 = .ok (.invokestatic 197, 3) := by decide +kernel
theorem dX15_ages_30 : decode cX15_ages 30 = .ok (.ifCond .eq 16, 3) := by decide +kernel
theorem dX15_ages_33 : decode cX15_ages 33 = .ok (.aload_n 0, 1) := by decide +kernel
theorem dX15_ages_34 : decode cX15_ages 34 = .ok (.aload_n 0, 1) := by decide +kernel
theorem dX15_ages_35 : decode cX15_ages 35 = .ok (.iload_n 1, 1) := by decide +kernel
theorem dX15_ages_36 : decode cX15_ages 36 = .ok (.iload_n 2, 1) := by decide +kernel
theorem dX15_ages_37 : decode cX15_ages 37 = .ok (.invokevirtual 247, 3) := by decide +kernel
theorem dX15_ages_40 : decode cX15_ages 40 = .ok (.invokevirtual 205, 3) := by decide +kernel
theorem dX15_ages_43 : decode cX15_ages 43 = .ok (.goto 8, 3) := by decide +kernel
theorem dX15_ages_46 : decode cX15_ages 46 = .ok (.aload_n 0, 1) := by decide +kernel
theorem dX15_ages_47 : decode cX15_ages 47 = .ok (.iconst 2, 1) := by decide +kernel
theorem dX15_ages_48 : decode cX15_ages 48 = .ok (.invokevirtual 201, 3) := by decide +kernel
theorem dX15_ages_51 : decode cX15_ages 51 = .ok (.ireturn, 1) := by decide +kernel
def f_X15_ages_b51 (σ : TH) (t0 : Int32) : Option (Int32 × TH) :=
  some (t0, σ)
set_option maxHeartbeats 4000000 in
set_option maxRecDepth 100000 in
theorem t_X15_ages_b51 {l : Launch} {D : va_G} {cy : Nat → ClassId} {ka : Nat → Nat} {σ0 z : TH} {r : Int32}  {σ : TH} {t0 : Int32} (hf : f_X15_ages_b51 σ t0 = some (r, z)) : v_ l D cy ka cX15_ages RX15 3 (some FieldType.int) "ages" 2 47 (qf_ D cy σ0 z (some (.int r))) σ0 z σ 51 [] [.int t0] := by
  unfold f_X15_ages_b51 at hf
  exact v_iret hf dX15_ages_51
/-- LivesAheadModel.ages(II)I -/
def f_X15_ages (σ : TH) (p0 : Nat) (p1 : Int32) (p2 : Int32) : Option (Int32 × TH) :=
  gt_ (kd_ σ p0 = 17) <| lt_ (si_ σ 1600 p0 (0 : Int32)) fun s1 => bd_ (f_X15_isPerson s1 p0 p1) fun x2 s3 => if x2 = 0 then (bd_ (f_X15_refused s3 p0 (1 : Int32)) fun x4 s5 => some (x4, s5)) else (bd_ (f_X15_today s3 p0) fun x6 s7 => bd_ (f_X15_in s7 p2 x6 (3650 : Int32)) fun x8 s9 => if x8 = 0 then (bd_ (f_X15_refused s9 p0 (2 : Int32)) fun x10 s11 => f_X15_ages_b51 s11 x10) else (bd_ (f_X15_staleOf s9 p0 p1 p2) fun x12 s13 => bd_ (f_X15_done s13 p0 x12) fun x14 s15 => f_X15_ages_b51 s15 x14))
set_option maxHeartbeats 4000000 in
set_option maxRecDepth 100000 in
theorem c_X15_ages {l : Launch} {D : va_G} {cy : Nat → ClassId} {ka : Nat → Nat} {σ z : TH} {p0 : Nat} {p1 : Int32} {p2 : Int32} {r : Int32} (hf : f_X15_ages σ p0 p1 p2 = some (r, z)) : ct_ l D cy ka yX15_ages 2 47 [va_rf (some p0), .int p1, .int p2] σ (some (.int r)) z := by
  unfold f_X15_ages at hf
  refine v_start (cc := cX15_ages) (own := RX15) (maxL := 3) (ret := (some FieldType.int)) (nm := "ages") (by decide +kernel) kw_1844 rfl rfl (by simp [lg_sl, va_rf_cat, cat_i, cat_l]) ?_
  refine v_eqL (L2 := [(0, va_rf (some p0)), (1, .int p1), (2, .int p2)]) (by simp [lv_args, va_rf_cat, cat_i, cat_l]) ?_
  refine v_aload_n (x := (some p0)) dX15_ages_0 rfl 0 rfl ?_
  refine v_iconst (v := 0) dX15_ages_1 (by decide) ?_
  obtain ⟨hk_p0, hf⟩ := gt_of hf
  refine v_puti2 cb_16 hk_p0 0 1600 rfl (by decide) rfl (lk_n kw_1457 rfl) (Or.inl rfl) rfl rfl hf dX15_ages_2 (fun s1 hts1 hf => ?_)
  have hk_p0 := tk_ hts1 hk_p0
  refine v_aload_n (x := (some p0)) dX15_ages_5 rfl 0 rfl ?_
  refine v_iload_n (x := p1) dX15_ages_6 rfl 1 rfl ?_
  obtain ⟨x2, s3, hcs3, hf⟩ := bd_of hf
  have hts3 := c_X15_isPerson (l := l) (D := D) (cy := cy) (ka := ka) hcs3
  refine v_callV cb_16 hk_p0 (As := [.int p1]) (rest := []) hts3 yb_X15_isPerson kw_1770 kw_1772 kp_83 rfl ⟨Nat.le_of_ble_eq_true rfl, Nat.le_of_ble_eq_true rfl⟩ rfl (cat_len (Nat.le_of_ble_eq_true rfl)) dX15_ages_7 ?_
  have hk_p0 := tk_ hts3.1 hk_p0
  show v_ l D cy ka cX15_ages RX15 3 (some FieldType.int) "ages" 2 47 (qf_ D cy σ z (some (.int r))) σ z _ 10 [(0, va_rf (some p0)), (1, .int p1), (2, .int p2)] [.int x2]
  refine v_if_ne (tgt := 19) hf dX15_ages_10 (by decide) (fun hq hf => ?_) (fun hq hf => ?_)
  · refine v_aload_n (x := (some p0)) dX15_ages_13 rfl 0 rfl ?_
    refine v_iconst (v := 1) dX15_ages_14 (by decide) ?_
    obtain ⟨x4, s5, hcs5, hf⟩ := bd_of hf
    have hts5 := c_X15_refused (l := l) (D := D) (cy := cy) (ka := ka) hcs5
    refine v_callV cb_16 hk_p0 (As := [.int (1 : Int32)]) (rest := []) hts5 yb_X15_refused kw_1729 kw_1731 kp_77 rfl ⟨Nat.le_of_ble_eq_true rfl, Nat.le_of_ble_eq_true rfl⟩ rfl (cat_len (Nat.le_of_ble_eq_true rfl)) dX15_ages_15 ?_
    have hk_p0 := tk_ hts5.1 hk_p0
    show v_ l D cy ka cX15_ages RX15 3 (some FieldType.int) "ages" 2 47 (qf_ D cy σ z (some (.int r))) σ z _ 18 [(0, va_rf (some p0)), (1, .int p1), (2, .int p2)] [.int x4]
    exact v_iret hf dX15_ages_18
  · refine v_iload_n (x := p2) dX15_ages_19 rfl 2 rfl ?_
    refine v_aload_n (x := (some p0)) dX15_ages_20 rfl 0 rfl ?_
    obtain ⟨x6, s7, hcs7, hf⟩ := bd_of hf
    have hts7 := c_X15_today (l := l) (D := D) (cy := cy) (ka := ka) hcs7
    refine v_callV cb_16 hk_p0 (As := []) (rest := [.int p2]) hts7 yb_X15_today kw_1774 kw_1776 kp_84 rfl ⟨Nat.le_of_ble_eq_true rfl, Nat.le_of_ble_eq_true rfl⟩ rfl (cat_len (Nat.le_of_ble_eq_true rfl)) dX15_ages_21 ?_
    have hk_p0 := tk_ hts7.1 hk_p0
    show v_ l D cy ka cX15_ages RX15 3 (some FieldType.int) "ages" 2 47 (qf_ D cy σ z (some (.int r))) σ z _ 24 [(0, va_rf (some p0)), (1, .int p1), (2, .int p2)] [.int x6, .int p2]
    refine v_sipush (v := 3650) dX15_ages_24 (by decide) ?_
    obtain ⟨x8, s9, hcs9, hf⟩ := bd_of hf
    have hts9 := c_X15_in (l := l) (D := D) (cy := cy) (ka := ka) hcs9
    refine v_callS (As := [.int p2, .int x6, .int (3650 : Int32)]) (rest := []) hts9 yb_X15_in kw_1726 kw_1727 rfl ⟨Nat.le_of_ble_eq_true rfl, Nat.le_of_ble_eq_true rfl⟩ rfl (cat_len (Nat.le_of_ble_eq_true rfl)) dX15_ages_27 ?_
    have hk_p0 := tk_ hts9.1 hk_p0
    show v_ l D cy ka cX15_ages RX15 3 (some FieldType.int) "ages" 2 47 (qf_ D cy σ z (some (.int r))) σ z _ 30 [(0, va_rf (some p0)), (1, .int p1), (2, .int p2)] [.int x8]
    refine v_if_eq (tgt := 46) hf dX15_ages_30 (by decide) (fun hq hf => ?_) (fun hq hf => ?_)
    · refine v_aload_n (x := (some p0)) dX15_ages_46 rfl 0 rfl ?_
      refine v_iconst (v := 2) dX15_ages_47 (by decide) ?_
      obtain ⟨x10, s11, hcs11, hf⟩ := bd_of hf
      have hts11 := c_X15_refused (l := l) (D := D) (cy := cy) (ka := ka) hcs11
      refine v_callV cb_16 hk_p0 (As := [.int (2 : Int32)]) (rest := []) hts11 yb_X15_refused kw_1729 kw_1731 kp_77 rfl ⟨Nat.le_of_ble_eq_true rfl, Nat.le_of_ble_eq_true rfl⟩ rfl (cat_len (Nat.le_of_ble_eq_true rfl)) dX15_ages_48 ?_
      have hk_p0 := tk_ hts11.1 hk_p0
      show v_ l D cy ka cX15_ages RX15 3 (some FieldType.int) "ages" 2 47 (qf_ D cy σ z (some (.int r))) σ z _ 51 [(0, va_rf (some p0)), (1, .int p1), (2, .int p2)] [.int x10]
      refine v_sub [] (L2 := []) rfl ?_
      exact t_X15_ages_b51  hf
    · refine v_aload_n (x := (some p0)) dX15_ages_33 rfl 0 rfl ?_
      refine v_aload_n (x := (some p0)) dX15_ages_34 rfl 0 rfl ?_
      refine v_iload_n (x := p1) dX15_ages_35 rfl 1 rfl ?_
      refine v_iload_n (x := p2) dX15_ages_36 rfl 2 rfl ?_
      obtain ⟨x12, s13, hcs13, hf⟩ := bd_of hf
      have hts13 := c_X15_staleOf (l := l) (D := D) (cy := cy) (ka := ka) hcs13
      refine v_callV cb_16 hk_p0 (As := [.int p1, .int p2]) (rest := [va_rf (some p0)]) hts13 yb_X15_staleOf kw_1797 kw_1799 kp_89 rfl ⟨Nat.le_of_ble_eq_true rfl, Nat.le_of_ble_eq_true rfl⟩ rfl (cat_len (Nat.le_of_ble_eq_true rfl)) dX15_ages_37 ?_
      have hk_p0 := tk_ hts13.1 hk_p0
      show v_ l D cy ka cX15_ages RX15 3 (some FieldType.int) "ages" 2 47 (qf_ D cy σ z (some (.int r))) σ z _ 40 [(0, va_rf (some p0)), (1, .int p1), (2, .int p2)] [.int x12, va_rf (some p0)]
      obtain ⟨x14, s15, hcs15, hf⟩ := bd_of hf
      have hts15 := c_X15_done (l := l) (D := D) (cy := cy) (ka := ka) hcs15
      refine v_callV cb_16 hk_p0 (As := [.int x12]) (rest := []) hts15 yb_X15_done kw_1733 kw_1735 kp_78 rfl ⟨Nat.le_of_ble_eq_true rfl, Nat.le_of_ble_eq_true rfl⟩ rfl (cat_len (Nat.le_of_ble_eq_true rfl)) dX15_ages_40 ?_
      have hk_p0 := tk_ hts15.1 hk_p0
      show v_ l D cy ka cX15_ages RX15 3 (some FieldType.int) "ages" 2 47 (qf_ D cy σ z (some (.int r))) σ z _ 43 [(0, va_rf (some p0)), (1, .int p1), (2, .int p2)] [.int x14]
      refine v_goto (tgt := 51) dX15_ages_43 (by decide) ?_
      refine v_sub [] (L2 := []) rfl ?_
      exact t_X15_ages_b51  hf
theorem dX15_alike_0 : decode cX15_alike 0 = .ok (.aload_n 0, 1) := by decide +kernel
theorem dX15_alike_1 : decode cX15_alike 1 = .ok (.iconst 0, 1) := by decide +kernel
theorem dX15_alike_2 : decode cX15_alike 2 = .ok (.putfield 1, 3) := by decide +kernel
theorem dX15_alike_5 : decode cX15_alike 5 = .ok (.aload_n 0, 1) := by decide +kernel
theorem dX15_alike_6 : decode cX15_alike 6 = .ok (.iload_n 1, 1) := by decide +kernel
theorem dX15_alike_7 : decode cX15_alike 7 = .ok (.invokevirtual 227, 3) := by decide +kernel
theorem dX15_alike_10 : decode cX15_alike 10 = .ok (.ifCond .ne 5, 3) := by decide +kernel
theorem dX15_alike_13 : decode cX15_alike 13 = .ok (.iconst (-1), 1) := by decide +kernel
theorem dX15_alike_14 : decode cX15_alike 14 = .ok (.ireturn, 1) := by decide +kernel
theorem dX15_alike_15 : decode cX15_alike 15 = .ok (.iconst 0, 1) := by decide +kernel
theorem dX15_alike_16 : decode cX15_alike 16 = .ok (.istore_n 2, 1) := by decide +kernel
theorem dX15_alike_17 : decode cX15_alike 17 = .ok (.iconst 0, 1) := by decide +kernel
theorem dX15_alike_18 : decode cX15_alike 18 = .ok (.istore_n 3, 1) := by decide +kernel
theorem dX15_alike_19 : decode cX15_alike 19 = .ok (.iload_n 3, 1) := by decide +kernel
theorem dX15_alike_20 : decode cX15_alike 20 = .ok (.aload_n 0, 1) := by decide +kernel
theorem dX15_alike_21 : decode cX15_alike 21 = .ok (.getfield 191, 3) := by decide +kernel
theorem dX15_alike_24 : decode cX15_alike 24 = .ok (.if_icmp .ge 37, 3) := by decide +kernel
theorem dX15_alike_27 : decode cX15_alike 27 = .ok (.iload_n 2, 1) := by decide +kernel
theorem dX15_alike_28 : decode cX15_alike 28 = .ok (.iload_n 3, 1) := by decide +kernel
theorem dX15_alike_29 : decode cX15_alike 29 = .ok (.iload_n 1, 1) := by decide +kernel
theorem dX15_alike_30 : decode cX15_alike 30 = .ok (.if_icmp .eq 22, 3) := by decide +kernel
theorem dX15_alike_33 : decode cX15_alike 33 = .ok (.aload_n 0, 1) := by decide +kernel
theorem dX15_alike_34 : decode cX15_alike 34 = .ok (.getfield 23, 3) := by decide +kernel
theorem dX15_alike_37 : decode cX15_alike 37 = .ok (.iload_n 3, 1) := by decide +kernel
theorem dX15_alike_38 : decode cX15_alike 38 = .ok (.iaload, 1) := by decide +kernel
theorem dX15_alike_39 : decode cX15_alike 39 = .ok (.aload_n 0, 1) := by decide +kernel
theorem dX15_alike_40 : decode cX15_alike 40 = .ok (.getfield 23, 3) := by decide +kernel
theorem dX15_alike_43 : decode cX15_alike 43 = .ok (.iload_n 1, 1) := by decide +kernel
theorem dX15_alike_44 : decode cX15_alike 44 = .ok (.iaload, 1) := by decide +kernel
theorem dX15_alike_45 : decode cX15_alike 45 = .ok (.if_icmp .ne 7, 3) := by decide +kernel
theorem dX15_alike_48 : decode cX15_alike 48 = .ok (.iconst 1, 1) := by decide +kernel
theorem dX15_alike_49 : decode cX15_alike 49 = .ok (.goto 4, 3) := by decide +kernel
theorem dX15_alike_52 : decode cX15_alike 52 = .ok (.iconst 0, 1) := by decide +kernel
theorem dX15_alike_53 : decode cX15_alike 53 = .ok (.iadd, 1) := by decide +kernel
theorem dX15_alike_54 : decode cX15_alike 54 = .ok (.istore_n 2, 1) := by decide +kernel
theorem dX15_alike_55 : decode cX15_alike 55 = .ok (.iinc 3 1, 3) := by decide +kernel
theorem dX15_alike_58 : decode cX15_alike 58 = .ok (.goto (-39), 3) := by decide +kernel
theorem dX15_alike_61 : decode cX15_alike 61 = .ok (.iload_n 2, 1) := by decide +kernel
theorem dX15_alike_62 : decode cX15_alike 62 = .ok (.ireturn, 1) := by decide +kernel
def f_X15_alike_b53 (rec_19 : TH → Nat → Int32 → Int32 → Int32 → Option (Int32 × TH)) (σ : TH) (l0 : Nat) (l1 : Int32) (l3 : Int32) (t0 : Int32) (t1 : Int32) : Option (Int32 × TH) :=
  lt_ (t1 + t0) fun x5 => lt_ (l3 + 1) fun x6 => rec_19 σ l0 l1 x5 x6
set_option maxHeartbeats 4000000 in
set_option maxRecDepth 100000 in
theorem t_X15_alike_b53 {l : Launch} {D : va_G} {cy : Nat → ClassId} {ka : Nat → Nat} {σ0 z : TH} {r : Int32} {rec_19 : TH → Nat → Int32 → Int32 → Int32 → Option (Int32 × TH)} (hrec_19 : ∀ (σ : TH) (l0 : Nat) (l1 : Int32) (l2 : Int32) (l3 : Int32), rec_19 σ l0 l1 l2 l3 = some (r, z) → v_ l D cy ka cX15_alike RX15 4 (some FieldType.int) "alike" 1 21 (qf_ D cy σ0 z (some (.int r))) σ0 z σ 19 [(0, va_rf (some l0)), (1, .int l1), (2, .int l2), (3, .int l3)] []) {σ : TH} {l0 : Nat} {l1 : Int32} {l3 : Int32} {t0 : Int32} {t1 : Int32} (hf : f_X15_alike_b53 rec_19 σ l0 l1 l3 t0 t1 = some (r, z)) : v_ l D cy ka cX15_alike RX15 4 (some FieldType.int) "alike" 1 21 (qf_ D cy σ0 z (some (.int r))) σ0 z σ 53 [(0, va_rf (some l0)), (1, .int l1), (3, .int l3)] [.int t0, .int t1] := by
  unfold f_X15_alike_b53 at hf
  refine v_iadd dX15_alike_53 ?_
  obtain ⟨x5, ex5⟩ : ∃ y : Int32, y = t1 + t0 := ⟨_, rfl⟩
  rw [lt_e, ← ex5] at hf
  rw [← ex5]
  refine v_istore_n [(2, .int x5), (0, va_rf (some l0)), (1, .int l1), (3, .int l3)] dX15_alike_54 rfl (by decide) rfl ?_
  obtain ⟨x6, ex6⟩ : ∃ y : Int32, y = l3 + 1 := ⟨_, rfl⟩
  rw [lt_e, ← ex6] at hf
  refine v_iinc (v := x6) [(3, .int x6), (2, .int x5), (0, va_rf (some l0)), (1, .int l1)] dX15_alike_55 3 rfl (by rw [ex6]; rfl) (by decide) rfl ?_
  refine v_goto (tgt := 19) dX15_alike_58 (by decide) ?_
  refine v_sub [2, 3, 1, 0] (L2 := [(0, va_rf (some l0)), (1, .int l1), (2, .int x5), (3, .int x6)]) rfl ?_
  exact hrec_19 _ _ _ _ _ hf
def f_X15_alike_b52 (rec_19 : TH → Nat → Int32 → Int32 → Int32 → Option (Int32 × TH)) (σ : TH) (l0 : Nat) (l1 : Int32) (l3 : Int32) (t0 : Int32) : Option (Int32 × TH) :=
  f_X15_alike_b53 rec_19 σ l0 l1 l3 (0 : Int32) t0
set_option maxHeartbeats 4000000 in
set_option maxRecDepth 100000 in
theorem t_X15_alike_b52 {l : Launch} {D : va_G} {cy : Nat → ClassId} {ka : Nat → Nat} {σ0 z : TH} {r : Int32} {rec_19 : TH → Nat → Int32 → Int32 → Int32 → Option (Int32 × TH)} (hrec_19 : ∀ (σ : TH) (l0 : Nat) (l1 : Int32) (l2 : Int32) (l3 : Int32), rec_19 σ l0 l1 l2 l3 = some (r, z) → v_ l D cy ka cX15_alike RX15 4 (some FieldType.int) "alike" 1 21 (qf_ D cy σ0 z (some (.int r))) σ0 z σ 19 [(0, va_rf (some l0)), (1, .int l1), (2, .int l2), (3, .int l3)] []) {σ : TH} {l0 : Nat} {l1 : Int32} {l3 : Int32} {t0 : Int32} (hf : f_X15_alike_b52 rec_19 σ l0 l1 l3 t0 = some (r, z)) : v_ l D cy ka cX15_alike RX15 4 (some FieldType.int) "alike" 1 21 (qf_ D cy σ0 z (some (.int r))) σ0 z σ 52 [(0, va_rf (some l0)), (1, .int l1), (3, .int l3)] [.int t0] := by
  unfold f_X15_alike_b52 at hf
  refine v_iconst (v := 0) dX15_alike_52 (by decide) ?_
  refine v_sub [0, 1, 2] (L2 := [(0, va_rf (some l0)), (1, .int l1), (3, .int l3)]) rfl ?_
  exact t_X15_alike_b53 hrec_19 hf
def f_X15_alike_b19 : Nat → TH → Nat → Int32 → Int32 → Int32 → Option (Int32 × TH)
  | 0, _, _, _, _, _ => none
  | n + 1, σ, l0, l1, l2, l3 => gt_ (kd_ σ l0 = 17) <| lt_ (fi_ σ 1605 l0) fun x4 => if x4 ≤ l3 then (some (l2, σ)) else (if l3 = l1 then (f_X15_alike_b52 (f_X15_alike_b19 n) σ l0 l1 l3 l2) else (lt_ (fr_ σ 1608 l0) fun r7 => nn_ r7 fun a8 => gt_ (kd_ σ a8 = 20) <| gt_ (¬ (l3 < 0 ∨ ln_ σ a8 ≤ l3.toNatClampNeg)) <| lt_ (ai_ σ a8 l3.toNatClampNeg) fun x9 => lt_ (fr_ σ 1608 l0) fun r10 => nn_ r10 fun a11 => gt_ (kd_ σ a11 = 20) <| gt_ (¬ (l1 < 0 ∨ ln_ σ a11 ≤ l1.toNatClampNeg)) <| lt_ (ai_ σ a11 l1.toNatClampNeg) fun x12 => if x9 = x12 then (f_X15_alike_b53 (f_X15_alike_b19 n) σ l0 l1 l3 (1 : Int32) l2) else (f_X15_alike_b52 (f_X15_alike_b19 n) σ l0 l1 l3 l2)))
set_option maxHeartbeats 4000000 in
set_option maxRecDepth 100000 in
theorem t_X15_alike_b19 {l : Launch} {D : va_G} {cy : Nat → ClassId} {ka : Nat → Nat} {σ0 z : TH} {r : Int32}  : ∀ (n : Nat) (σ : TH) (l0 : Nat) (l1 : Int32) (l2 : Int32) (l3 : Int32), f_X15_alike_b19 n σ l0 l1 l2 l3 = some (r, z) → v_ l D cy ka cX15_alike RX15 4 (some FieldType.int) "alike" 1 21 (qf_ D cy σ0 z (some (.int r))) σ0 z σ 19 [(0, va_rf (some l0)), (1, .int l1), (2, .int l2), (3, .int l3)] [] := by
  intro n
  induction n with
  | zero => intro σ l0 l1 l2 l3 hf; unfold f_X15_alike_b19 at hf; cases hf
  | succ n ih =>
    intro σ l0 l1 l2 l3 hf
    unfold f_X15_alike_b19 at hf
    have hrec_19 := ih
    refine v_iload_n (x := l3) dX15_alike_19 rfl 3 rfl ?_
    refine v_aload_n (x := (some l0)) dX15_alike_20 rfl 0 rfl ?_
    obtain ⟨hk_l0, hf⟩ := gt_of hf
    refine v_geti cb_16 hk_l0 5 1605 rfl (by decide) rfl (lk_n kw_1462 rfl) hf dX15_alike_21 (fun x4 hf => ?_)
    refine v_icmp_ge (tgt := 61) hf dX15_alike_24 (by decide) (fun hq hf => ?_) (fun hq hf => ?_)
    · refine v_iload_n (x := l2) dX15_alike_61 rfl 2 rfl ?_
      exact v_iret hf dX15_alike_62
    · refine v_iload_n (x := l2) dX15_alike_27 rfl 2 rfl ?_
      refine v_iload_n (x := l3) dX15_alike_28 rfl 3 rfl ?_
      refine v_iload_n (x := l1) dX15_alike_29 rfl 1 rfl ?_
      refine v_icmp_eq (tgt := 52) hf dX15_alike_30 (by decide) (fun hq hf => ?_) (fun hq hf => ?_)
      · refine v_sub [0, 1, 3] (L2 := [(0, va_rf (some l0)), (1, .int l1), (3, .int l3)]) rfl ?_
        exact t_X15_alike_b52 hrec_19 hf
      · refine v_aload_n (x := (some l0)) dX15_alike_33 rfl 0 rfl ?_
        refine v_getr cb_16 hk_l0 8 1608 rfl (by decide) rfl (lk_n kw_1465 rfl) hf dX15_alike_34 (fun r7 hf => ?_)
        refine v_iload_n (x := l3) dX15_alike_37 rfl 3 rfl ?_
        obtain ⟨a8, rfl, hf⟩ := nn_of hf
        obtain ⟨hk_a8, hf⟩ := gt_of hf
        refine v_iald hk_a8 hf dX15_alike_38 (fun x9 hf => ?_)
        refine v_aload_n (x := (some l0)) dX15_alike_39 rfl 0 rfl ?_
        refine v_getr cb_16 hk_l0 8 1608 rfl (by decide) rfl (lk_n kw_1465 rfl) hf dX15_alike_40 (fun r10 hf => ?_)
        refine v_iload_n (x := l1) dX15_alike_43 rfl 1 rfl ?_
        obtain ⟨a11, rfl, hf⟩ := nn_of hf
        obtain ⟨hk_a11, hf⟩ := gt_of hf
        refine v_iald hk_a11 hf dX15_alike_44 (fun x12 hf => ?_)
        refine v_icmp_ne (tgt := 52) hf dX15_alike_45 (by decide) (fun hq hf => ?_) (fun hq hf => ?_)
        · refine v_iconst (v := 1) dX15_alike_48 (by decide) ?_
          refine v_goto (tgt := 53) dX15_alike_49 (by decide) ?_
          refine v_sub [0, 1, 3] (L2 := [(0, va_rf (some l0)), (1, .int l1), (3, .int l3)]) rfl ?_
          exact t_X15_alike_b53 hrec_19 hf
        · refine v_sub [0, 1, 3] (L2 := [(0, va_rf (some l0)), (1, .int l1), (3, .int l3)]) rfl ?_
          exact t_X15_alike_b52 hrec_19 hf
/-- LivesAheadModel.alike(I)I -/
def f_X15_alike (σ : TH) (p0 : Nat) (p1 : Int32) : Option (Int32 × TH) :=
  gt_ (kd_ σ p0 = 17) <| lt_ (si_ σ 1600 p0 (0 : Int32)) fun s1 => bd_ (f_X15_isPerson s1 p0 p1) fun x2 s3 => if x2 = 0 then (some ((-1 : Int32), s3)) else (f_X15_alike_b19 fu_ s3 p0 p1 (0 : Int32) (0 : Int32))
set_option maxHeartbeats 4000000 in
set_option maxRecDepth 100000 in
theorem c_X15_alike {l : Launch} {D : va_G} {cy : Nat → ClassId} {ka : Nat → Nat} {σ z : TH} {p0 : Nat} {p1 : Int32} {r : Int32} (hf : f_X15_alike σ p0 p1 = some (r, z)) : ct_ l D cy ka yX15_alike 1 21 [va_rf (some p0), .int p1] σ (some (.int r)) z := by
  unfold f_X15_alike at hf
  refine v_start (cc := cX15_alike) (own := RX15) (maxL := 4) (ret := (some FieldType.int)) (nm := "alike") (by decide +kernel) kw_1848 rfl rfl (by simp [lg_sl, va_rf_cat, cat_i, cat_l]) ?_
  refine v_eqL (L2 := [(0, va_rf (some p0)), (1, .int p1)]) (by simp [lv_args, va_rf_cat, cat_i, cat_l]) ?_
  refine v_aload_n (x := (some p0)) dX15_alike_0 rfl 0 rfl ?_
  refine v_iconst (v := 0) dX15_alike_1 (by decide) ?_
  obtain ⟨hk_p0, hf⟩ := gt_of hf
  refine v_puti2 cb_16 hk_p0 0 1600 rfl (by decide) rfl (lk_n kw_1457 rfl) (Or.inl rfl) rfl rfl hf dX15_alike_2 (fun s1 hts1 hf => ?_)
  have hk_p0 := tk_ hts1 hk_p0
  refine v_aload_n (x := (some p0)) dX15_alike_5 rfl 0 rfl ?_
  refine v_iload_n (x := p1) dX15_alike_6 rfl 1 rfl ?_
  obtain ⟨x2, s3, hcs3, hf⟩ := bd_of hf
  have hts3 := c_X15_isPerson (l := l) (D := D) (cy := cy) (ka := ka) hcs3
  refine v_callV cb_16 hk_p0 (As := [.int p1]) (rest := []) hts3 yb_X15_isPerson kw_1770 kw_1772 kp_83 rfl ⟨Nat.le_of_ble_eq_true rfl, Nat.le_of_ble_eq_true rfl⟩ rfl (cat_len (Nat.le_of_ble_eq_true rfl)) dX15_alike_7 ?_
  have hk_p0 := tk_ hts3.1 hk_p0
  show v_ l D cy ka cX15_alike RX15 4 (some FieldType.int) "alike" 1 21 (qf_ D cy σ z (some (.int r))) σ z _ 10 [(0, va_rf (some p0)), (1, .int p1)] [.int x2]
  refine v_if_ne (tgt := 15) hf dX15_alike_10 (by decide) (fun hq hf => ?_) (fun hq hf => ?_)
  · refine v_iconst (v := (-1)) dX15_alike_13 (by decide) ?_
    exact v_iret hf dX15_alike_14
  · refine v_iconst (v := 0) dX15_alike_15 (by decide) ?_
    refine v_istore_n [(2, .int (0 : Int32)), (0, va_rf (some p0)), (1, .int p1)] dX15_alike_16 rfl (by decide) rfl ?_
    refine v_iconst (v := 0) dX15_alike_17 (by decide) ?_
    refine v_istore_n [(3, .int (0 : Int32)), (2, .int (0 : Int32)), (0, va_rf (some p0)), (1, .int p1)] dX15_alike_18 rfl (by decide) rfl ?_
    refine v_sub [2, 3, 1, 0] (L2 := [(0, va_rf (some p0)), (1, .int p1), (2, .int (0 : Int32)), (3, .int (0 : Int32))]) rfl ?_
    exact t_X15_alike_b19  _ _ _ _ _ _ hf
theorem dX15_answer_0 : decode cX15_answer 0 = .ok (.aload_n 0, 1) := by decide +kernel
theorem dX15_answer_1 : decode cX15_answer 1 = .ok (.iconst 0, 1) := by decide +kernel
theorem dX15_answer_2 : decode cX15_answer 2 = .ok (.putfield 1, 3) := by decide +kernel
theorem dX15_answer_5 : decode cX15_answer 5 = .ok (.iload_n 1, 1) := by decide +kernel
theorem dX15_answer_6 : decode cX15_answer 6 = .ok (.ifCond .lt 11, 3) := by decide +kernel
theorem dX15_answer_9 : decode cX15_answer 9 = .ok (.iload_n 1, 1) := by decide +kernel
theorem dX15_answer_10 : decode cX15_answer 10 = .ok (.aload_n 0, 1) := by decide +kernel
theorem dX15_answer_11 : decode cX15_answer 11 = .ok (.getfield 562, 3) := by decide +kernel
theorem dX15_answer_14 : decode cX15_answer 14 = .ok (.if_icmp .lt 9, 3) := by decide +kernel
theorem dX15_answer_17 : decode cX15_answer 17 = .ok (.aload_n 0, 1) := by decide +kernel
theorem dX15_answer_18 : decode cX15_answer 18 = .ok (.iconst 1, 1) := by decide +kernel
theorem dX15_answer_19 : decode cX15_answer 19 = .ok (.invokevirtual 201, 3) := by decide +kernel
theorem dX15_answer_22 : decode cX15_answer 22 = .ok (.ireturn, 1) := by decide +kernel
theorem dX15_answer_23 : decode cX15_answer 23 = .ok (.iload_n 2, 1) := by decide +kernel
theorem dX15_answer_24 : decode cX15_answer 24 = .ok (.iconst 1, 1) := by decide +kernel
theorem dX15_answer_25 : decode cX15_answer 25 = .ok (.sipush 400, 3) := by decide +kernel
theorem dX15_answer_28 : decode cX15_answer 28 = .ok (.invokestatic 197, 3) := by decide +kernel
theorem dX15_answer_31 : decode cX15_answer 31 = .ok (.ifCond .ne 9, 3) := by decide +kernel
theorem dX15_answer_34 : decode cX15_answer 34 = .ok (.aload_n 0, 1) := by decide +kernel
theorem dX15_answer_35 : decode cX15_answer 35 = .ok (.iconst 2, 1) := by decide +kernel
theorem dX15_answer_36 : decode cX15_answer 36 = .ok (.invokevirtual 201, 3) := by decide +kernel
theorem dX15_answer_39 : decode cX15_answer 39 = .ok (.ireturn, 1) := by decide +kernel
theorem dX15_answer_40 : decode cX15_answer 40 = .ok (.aload_n 0, 1) := by decide +kernel
theorem dX15_answer_41 : decode cX15_answer 41 = .ok (.getfield 167, 3) := by decide +kernel
theorem dX15_answer_44 : decode cX15_answer 44 = .ok (.iload_n 1, 1) := by decide +kernel
theorem dX15_answer_45 : decode cX15_answer 45 = .ok (.iaload, 1) := by decide +kernel
theorem dX15_answer_46 : decode cX15_answer 46 = .ok (.iconst (-1), 1) := by decide +kernel
theorem dX15_answer_47 : decode cX15_answer 47 = .ok (.if_icmp .eq 9, 3) := by decide +kernel
theorem dX15_answer_50 : decode cX15_answer 50 = .ok (.aload_n 0, 1) := by decide +kernel
theorem dX15_answer_51 : decode cX15_answer 51 = .ok (.iconst 5, 1) := by decide +kernel
theorem dX15_answer_52 : decode cX15_answer 52 = .ok (.invokevirtual 201, 3) := by decide +kernel
theorem dX15_answer_55 : decode cX15_answer 55 = .ok (.ireturn, 1) := by decide +kernel
theorem dX15_answer_56 : decode cX15_answer 56 = .ok (.aload_n 0, 1) := by decide +kernel
theorem dX15_answer_57 : decode cX15_answer 57 = .ok (.getfield 167, 3) := by decide +kernel
theorem dX15_answer_60 : decode cX15_answer 60 = .ok (.iload_n 1, 1) := by decide +kernel
theorem dX15_answer_61 : decode cX15_answer 61 = .ok (.iload_n 2, 1) := by decide +kernel
theorem dX15_answer_62 : decode cX15_answer 62 = .ok (.iastore, 1) := by decide +kernel
theorem dX15_answer_63 : decode cX15_answer 63 = .ok (.aload_n 0, 1) := by decide +kernel
theorem dX15_answer_64 : decode cX15_answer 64 = .ok (.getfield 170, 3) := by decide +kernel
theorem dX15_answer_67 : decode cX15_answer 67 = .ok (.iload_n 1, 1) := by decide +kernel
theorem dX15_answer_68 : decode cX15_answer 68 = .ok (.aload_n 0, 1) := by decide +kernel
theorem dX15_answer_69 : decode cX15_answer 69 = .ok (.getfield 188, 3) := by decide +kernel
theorem dX15_answer_72 : decode cX15_answer 72 = .ok (.aload_n 0, 1) := by decide +kernel
theorem dX15_answer_73 : decode cX15_answer 73 = .ok (.getfield 164, 3) := by decide +kernel
theorem dX15_answer_76 : decode cX15_answer 76 = .ok (.iload_n 1, 1) := by decide +kernel
theorem dX15_answer_77 : decode cX15_answer 77 = .ok (.iaload, 1) := by decide +kernel
theorem dX15_answer_78 : decode cX15_answer 78 = .ok (.if_icmp .gt 7, 3) := by decide +kernel
theorem dX15_answer_81 : decode cX15_answer 81 = .ok (.iconst 1, 1) := by decide +kernel
theorem dX15_answer_82 : decode cX15_answer 82 = .ok (.goto 4, 3) := by decide +kernel
theorem dX15_answer_85 : decode cX15_answer 85 = .ok (.iconst 0, 1) := by decide +kernel
theorem dX15_answer_86 : decode cX15_answer 86 = .ok (.bastore, 1) := by decide +kernel
theorem dX15_answer_87 : decode cX15_answer 87 = .ok (.aload_n 0, 1) := by decide +kernel
theorem dX15_answer_88 : decode cX15_answer 88 = .ok (.aload_n 0, 1) := by decide +kernel
theorem dX15_answer_89 : decode cX15_answer 89 = .ok (.getfield 170, 3) := by decide +kernel
theorem dX15_answer_92 : decode cX15_answer 92 = .ok (.iload_n 1, 1) := by decide +kernel
theorem dX15_answer_93 : decode cX15_answer 93 = .ok (.baload, 1) := by decide +kernel
theorem dX15_answer_94 : decode cX15_answer 94 = .ok (.ifCond .eq 7, 3) := by decide +kernel
theorem dX15_answer_97 : decode cX15_answer 97 = .ok (.iconst 1, 1) := by decide +kernel
theorem dX15_answer_98 : decode cX15_answer 98 = .ok (.goto 4, 3) := by decide +kernel
theorem dX15_answer_101 : decode cX15_answer 101 = .ok (.iconst 0, 1) := by decide +kernel
theorem dX15_answer_102 : decode cX15_answer 102 = .ok (.invokevirtual 205, 3) := by decide +kernel
theorem dX15_answer_105 : decode cX15_answer 105 = .ok (.ireturn, 1) := by decide +kernel
def f_X15_answer_b17 (σ : TH) (l0 : Nat) : Option (Int32 × TH) :=
  gt_ (kd_ σ l0 = 17) <| bd_ (f_X15_refused σ l0 (1 : Int32)) fun x2 s3 => some (x2, s3)
set_option maxHeartbeats 4000000 in
set_option maxRecDepth 100000 in
theorem t_X15_answer_b17 {l : Launch} {D : va_G} {cy : Nat → ClassId} {ka : Nat → Nat} {σ0 z : TH} {r : Int32}  {σ : TH} {l0 : Nat} (hf : f_X15_answer_b17 σ l0 = some (r, z)) : v_ l D cy ka cX15_answer RX15 3 (some FieldType.int) "answer" 1 22 (qf_ D cy σ0 z (some (.int r))) σ0 z σ 17 [(0, va_rf (some l0))] [] := by
  unfold f_X15_answer_b17 at hf
  refine v_aload_n (x := (some l0)) dX15_answer_17 rfl 0 rfl ?_
  refine v_iconst (v := 1) dX15_answer_18 (by decide) ?_
  obtain ⟨hk_l0, hf⟩ := gt_of hf
  obtain ⟨x2, s3, hcs3, hf⟩ := bd_of hf
  have hts3 := c_X15_refused (l := l) (D := D) (cy := cy) (ka := ka) hcs3
  refine v_callV cb_16 hk_l0 (As := [.int (1 : Int32)]) (rest := []) hts3 yb_X15_refused kw_1729 kw_1731 kp_77 rfl ⟨Nat.le_of_ble_eq_true rfl, Nat.le_of_ble_eq_true rfl⟩ rfl (cat_len (Nat.le_of_ble_eq_true rfl)) dX15_answer_19 ?_
  have hk_l0 := tk_ hts3.1 hk_l0
  show v_ l D cy ka cX15_answer RX15 3 (some FieldType.int) "answer" 1 22 (qf_ D cy σ0 z (some (.int r))) σ0 z _ 22 [(0, va_rf (some l0))] [.int x2]
  exact v_iret hf dX15_answer_22
def f_X15_answer_b102 (σ : TH) (t0 : Int32) (t1 : Option Nat) : Option (Int32 × TH) :=
  nn_ t1 fun a25 => gt_ (kd_ σ a25 = 17) <| bd_ (f_X15_done σ a25 t0) fun x26 s27 => some (x26, s27)
set_option maxHeartbeats 4000000 in
set_option maxRecDepth 100000 in
theorem t_X15_answer_b102 {l : Launch} {D : va_G} {cy : Nat → ClassId} {ka : Nat → Nat} {σ0 z : TH} {r : Int32}  {σ : TH} {t0 : Int32} {t1 : Option Nat} (hf : f_X15_answer_b102 σ t0 t1 = some (r, z)) : v_ l D cy ka cX15_answer RX15 3 (some FieldType.int) "answer" 1 22 (qf_ D cy σ0 z (some (.int r))) σ0 z σ 102 [] [.int t0, va_rf t1] := by
  unfold f_X15_answer_b102 at hf
  obtain ⟨a25, rfl, hf⟩ := nn_of hf
  obtain ⟨hk_a25, hf⟩ := gt_of hf
  obtain ⟨x26, s27, hcs27, hf⟩ := bd_of hf
  have hts27 := c_X15_done (l := l) (D := D) (cy := cy) (ka := ka) hcs27
  refine v_callV cb_16 hk_a25 (As := [.int t0]) (rest := []) hts27 yb_X15_done kw_1733 kw_1735 kp_78 rfl ⟨Nat.le_of_ble_eq_true rfl, Nat.le_of_ble_eq_true rfl⟩ rfl (cat_len (Nat.le_of_ble_eq_true rfl)) dX15_answer_102 ?_
  show v_ l D cy ka cX15_answer RX15 3 (some FieldType.int) "answer" 1 22 (qf_ D cy σ0 z (some (.int r))) σ0 z _ 105 [] [.int x26]
  exact v_iret hf dX15_answer_105
def f_X15_answer_b86 (σ : TH) (l0 : Nat) (l1 : Int32) (t0 : Int32) (t1 : Int32) (t2 : Option Nat) : Option (Int32 × TH) :=
  nn_ t2 fun a20 => gt_ (kd_ σ a20 = 22) <| gt_ (¬ (t1 < 0 ∨ ln_ σ a20 ≤ t1.toNatClampNeg)) <| lt_ (sa_ σ a20 t1.toNatClampNeg (vp_nar .boolean t0)) fun s21 => gt_ (kd_ s21 l0 = 17) <| lt_ (fr_ s21 1681 l0) fun r22 => nn_ r22 fun a23 => gt_ (kd_ s21 a23 = 22) <| gt_ (¬ (l1 < 0 ∨ ln_ s21 a23 ≤ l1.toNatClampNeg)) <| lt_ (ai_ s21 a23 l1.toNatClampNeg) fun x24 => if x24 = 0 then (f_X15_answer_b102 s21 (0 : Int32) (some l0)) else (f_X15_answer_b102 s21 (1 : Int32) (some l0))
set_option maxHeartbeats 4000000 in
set_option maxRecDepth 100000 in
theorem t_X15_answer_b86 {l : Launch} {D : va_G} {cy : Nat → ClassId} {ka : Nat → Nat} {σ0 z : TH} {r : Int32}  {σ : TH} {l0 : Nat} {l1 : Int32} {t0 : Int32} {t1 : Int32} {t2 : Option Nat} (hf : f_X15_answer_b86 σ l0 l1 t0 t1 t2 = some (r, z)) : v_ l D cy ka cX15_answer RX15 3 (some FieldType.int) "answer" 1 22 (qf_ D cy σ0 z (some (.int r))) σ0 z σ 86 [(0, va_rf (some l0)), (1, .int l1)] [.int t0, .int t1, va_rf t2] := by
  unfold f_X15_answer_b86 at hf
  obtain ⟨a20, rfl, hf⟩ := nn_of hf
  obtain ⟨hk_a20, hf⟩ := gt_of hf
  refine v_zast2 hk_a20 hf dX15_answer_86 (fun s21 hts21 hf => ?_)
  refine v_aload_n (x := (some l0)) dX15_answer_87 rfl 0 rfl ?_
  refine v_aload_n (x := (some l0)) dX15_answer_88 rfl 0 rfl ?_
  obtain ⟨hk_l0, hf⟩ := gt_of hf
  refine v_getr cb_16 hk_l0 81 1681 rfl (by decide) rfl (lk_n kw_1538 rfl) hf dX15_answer_89 (fun r22 hf => ?_)
  refine v_iload_n (x := l1) dX15_answer_92 rfl 1 rfl ?_
  obtain ⟨a23, rfl, hf⟩ := nn_of hf
  obtain ⟨hk_a23, hf⟩ := gt_of hf
  refine v_zald hk_a23 hf dX15_answer_93 (fun x24 hf => ?_)
  refine v_if_eq (tgt := 101) hf dX15_answer_94 (by decide) (fun hq hf => ?_) (fun hq hf => ?_)
  · refine v_iconst (v := 0) dX15_answer_101 (by decide) ?_
    refine v_sub [] (L2 := []) rfl ?_
    exact t_X15_answer_b102  hf
  · refine v_iconst (v := 1) dX15_answer_97 (by decide) ?_
    refine v_goto (tgt := 102) dX15_answer_98 (by decide) ?_
    refine v_sub [] (L2 := []) rfl ?_
    exact t_X15_answer_b102  hf
/-- LivesAheadModel.answer(II)I -/
def f_X15_answer (σ : TH) (p0 : Nat) (p1 : Int32) (p2 : Int32) : Option (Int32 × TH) :=
  gt_ (kd_ σ p0 = 17) <| lt_ (si_ σ 1600 p0 (0 : Int32)) fun s1 => if p1 < 0 then (f_X15_answer_b17 s1 p0) else (lt_ (fi_ s1 1670 p0) fun x4 => if p1 < x4 then (bd_ (f_X15_in s1 p2 (1 : Int32) (400 : Int32)) fun x5 s6 => if x5 = 0 then (bd_ (f_X15_refused s6 p0 (2 : Int32)) fun x7 s8 => some (x7, s8)) else (lt_ (fr_ s6 1680 p0) fun r9 => nn_ r9 fun a10 => gt_ (kd_ s6 a10 = 20) <| gt_ (¬ (p1 < 0 ∨ ln_ s6 a10 ≤ p1.toNatClampNeg)) <| lt_ (ai_ s6 a10 p1.toNatClampNeg) fun x11 => if x11 = (-1 : Int32) then (lt_ (fr_ s6 1680 p0) fun r12 => nn_ r12 fun a13 => gt_ (kd_ s6 a13 = 20) <| gt_ (¬ (p1 < 0 ∨ ln_ s6 a13 ≤ p1.toNatClampNeg)) <| lt_ (sa_ s6 a13 p1.toNatClampNeg p2) fun s14 => lt_ (fr_ s14 1681 p0) fun r15 => lt_ (fi_ s14 1606 p0) fun x16 => lt_ (fr_ s14 1679 p0) fun r17 => nn_ r17 fun a18 => gt_ (kd_ s14 a18 = 20) <| gt_ (¬ (p1 < 0 ∨ ln_ s14 a18 ≤ p1.toNatClampNeg)) <| lt_ (ai_ s14 a18 p1.toNatClampNeg) fun x19 => if x19 < x16 then (f_X15_answer_b86 s14 p0 p1 (0 : Int32) p1 r15) else (f_X15_answer_b86 s14 p0 p1 (1 : Int32) p1 r15)) else (bd_ (f_X15_refused s6 p0 (5 : Int32)) fun x28 s29 => some (x28, s29)))) else (f_X15_answer_b17 s1 p0))
set_option maxHeartbeats 4000000 in
set_option maxRecDepth 100000 in
theorem c_X15_answer {l : Launch} {D : va_G} {cy : Nat → ClassId} {ka : Nat → Nat} {σ z : TH} {p0 : Nat} {p1 : Int32} {p2 : Int32} {r : Int32} (hf : f_X15_answer σ p0 p1 p2 = some (r, z)) : ct_ l D cy ka yX15_answer 1 22 [va_rf (some p0), .int p1, .int p2] σ (some (.int r)) z := by
  unfold f_X15_answer at hf
  refine v_start (cc := cX15_answer) (own := RX15) (maxL := 3) (ret := (some FieldType.int)) (nm := "answer") (by decide +kernel) kw_2161 rfl rfl (by simp [lg_sl, va_rf_cat, cat_i, cat_l]) ?_
  refine v_eqL (L2 := [(0, va_rf (some p0)), (1, .int p1), (2, .int p2)]) (by simp [lv_args, va_rf_cat, cat_i, cat_l]) ?_
  refine v_aload_n (x := (some p0)) dX15_answer_0 rfl 0 rfl ?_
  refine v_iconst (v := 0) dX15_answer_1 (by decide) ?_
  obtain ⟨hk_p0, hf⟩ := gt_of hf
  refine v_puti2 cb_16 hk_p0 0 1600 rfl (by decide) rfl (lk_n kw_1457 rfl) (Or.inl rfl) rfl rfl hf dX15_answer_2 (fun s1 hts1 hf => ?_)
  have hk_p0 := tk_ hts1 hk_p0
  refine v_iload_n (x := p1) dX15_answer_5 rfl 1 rfl ?_
  refine v_if_lt (tgt := 17) hf dX15_answer_6 (by decide) (fun hq hf => ?_) (fun hq hf => ?_)
  · refine v_sub [0] (L2 := [(0, va_rf (some p0))]) rfl ?_
    exact t_X15_answer_b17  hf
  · refine v_iload_n (x := p1) dX15_answer_9 rfl 1 rfl ?_
    refine v_aload_n (x := (some p0)) dX15_answer_10 rfl 0 rfl ?_
    refine v_geti cb_16 hk_p0 70 1670 rfl (by decide) rfl (lk_n kw_1527 rfl) hf dX15_answer_11 (fun x4 hf => ?_)
    refine v_icmp_lt (tgt := 23) hf dX15_answer_14 (by decide) (fun hq hf => ?_) (fun hq hf => ?_)
    · refine v_iload_n (x := p2) dX15_answer_23 rfl 2 rfl ?_
      refine v_iconst (v := 1) dX15_answer_24 (by decide) ?_
      refine v_sipush (v := 400) dX15_answer_25 (by decide) ?_
      obtain ⟨x5, s6, hcs6, hf⟩ := bd_of hf
      have hts6 := c_X15_in (l := l) (D := D) (cy := cy) (ka := ka) hcs6
      refine v_callS (As := [.int p2, .int (1 : Int32), .int (400 : Int32)]) (rest := []) hts6 yb_X15_in kw_1726 kw_1727 rfl ⟨Nat.le_of_ble_eq_true rfl, Nat.le_of_ble_eq_true rfl⟩ rfl (cat_len (Nat.le_of_ble_eq_true rfl)) dX15_answer_28 ?_
      have hk_p0 := tk_ hts6.1 hk_p0
      show v_ l D cy ka cX15_answer RX15 3 (some FieldType.int) "answer" 1 22 (qf_ D cy σ z (some (.int r))) σ z _ 31 [(0, va_rf (some p0)), (1, .int p1), (2, .int p2)] [.int x5]
      refine v_if_ne (tgt := 40) hf dX15_answer_31 (by decide) (fun hq hf => ?_) (fun hq hf => ?_)
      · refine v_aload_n (x := (some p0)) dX15_answer_34 rfl 0 rfl ?_
        refine v_iconst (v := 2) dX15_answer_35 (by decide) ?_
        obtain ⟨x7, s8, hcs8, hf⟩ := bd_of hf
        have hts8 := c_X15_refused (l := l) (D := D) (cy := cy) (ka := ka) hcs8
        refine v_callV cb_16 hk_p0 (As := [.int (2 : Int32)]) (rest := []) hts8 yb_X15_refused kw_1729 kw_1731 kp_77 rfl ⟨Nat.le_of_ble_eq_true rfl, Nat.le_of_ble_eq_true rfl⟩ rfl (cat_len (Nat.le_of_ble_eq_true rfl)) dX15_answer_36 ?_
        have hk_p0 := tk_ hts8.1 hk_p0
        show v_ l D cy ka cX15_answer RX15 3 (some FieldType.int) "answer" 1 22 (qf_ D cy σ z (some (.int r))) σ z _ 39 [(0, va_rf (some p0)), (1, .int p1), (2, .int p2)] [.int x7]
        exact v_iret hf dX15_answer_39
      · refine v_aload_n (x := (some p0)) dX15_answer_40 rfl 0 rfl ?_
        refine v_getr cb_16 hk_p0 80 1680 rfl (by decide) rfl (lk_n kw_1537 rfl) hf dX15_answer_41 (fun r9 hf => ?_)
        refine v_iload_n (x := p1) dX15_answer_44 rfl 1 rfl ?_
        obtain ⟨a10, rfl, hf⟩ := nn_of hf
        obtain ⟨hk_a10, hf⟩ := gt_of hf
        refine v_iald hk_a10 hf dX15_answer_45 (fun x11 hf => ?_)
        refine v_iconst (v := (-1)) dX15_answer_46 (by decide) ?_
        refine v_icmp_eq (tgt := 56) hf dX15_answer_47 (by decide) (fun hq hf => ?_) (fun hq hf => ?_)
        · refine v_aload_n (x := (some p0)) dX15_answer_56 rfl 0 rfl ?_
          refine v_getr cb_16 hk_p0 80 1680 rfl (by decide) rfl (lk_n kw_1537 rfl) hf dX15_answer_57 (fun r12 hf => ?_)
          refine v_iload_n (x := p1) dX15_answer_60 rfl 1 rfl ?_
          refine v_iload_n (x := p2) dX15_answer_61 rfl 2 rfl ?_
          obtain ⟨a13, rfl, hf⟩ := nn_of hf
          obtain ⟨hk_a13, hf⟩ := gt_of hf
          refine v_iast2 hk_a13 hf dX15_answer_62 (fun s14 hts14 hf => ?_)
          have hk_p0 := tk_ hts14 hk_p0
          refine v_aload_n (x := (some p0)) dX15_answer_63 rfl 0 rfl ?_
          refine v_getr cb_16 hk_p0 81 1681 rfl (by decide) rfl (lk_n kw_1538 rfl) hf dX15_answer_64 (fun r15 hf => ?_)
          refine v_iload_n (x := p1) dX15_answer_67 rfl 1 rfl ?_
          refine v_aload_n (x := (some p0)) dX15_answer_68 rfl 0 rfl ?_
          refine v_geti cb_16 hk_p0 6 1606 rfl (by decide) rfl (lk_n kw_1463 rfl) hf dX15_answer_69 (fun x16 hf => ?_)
          refine v_aload_n (x := (some p0)) dX15_answer_72 rfl 0 rfl ?_
          refine v_getr cb_16 hk_p0 79 1679 rfl (by decide) rfl (lk_n kw_1536 rfl) hf dX15_answer_73 (fun r17 hf => ?_)
          refine v_iload_n (x := p1) dX15_answer_76 rfl 1 rfl ?_
          obtain ⟨a18, rfl, hf⟩ := nn_of hf
          obtain ⟨hk_a18, hf⟩ := gt_of hf
          refine v_iald hk_a18 hf dX15_answer_77 (fun x19 hf => ?_)
          refine v_icmp_gt (tgt := 85) hf dX15_answer_78 (by decide) (fun hq hf => ?_) (fun hq hf => ?_)
          · refine v_iconst (v := 0) dX15_answer_85 (by decide) ?_
            refine v_sub [0, 1] (L2 := [(0, va_rf (some p0)), (1, .int p1)]) rfl ?_
            exact t_X15_answer_b86  hf
          · refine v_iconst (v := 1) dX15_answer_81 (by decide) ?_
            refine v_goto (tgt := 86) dX15_answer_82 (by decide) ?_
            refine v_sub [0, 1] (L2 := [(0, va_rf (some p0)), (1, .int p1)]) rfl ?_
            exact t_X15_answer_b86  hf
        · refine v_aload_n (x := (some p0)) dX15_answer_50 rfl 0 rfl ?_
          refine v_iconst (v := 5) dX15_answer_51 (by decide) ?_
          obtain ⟨x28, s29, hcs29, hf⟩ := bd_of hf
          have hts29 := c_X15_refused (l := l) (D := D) (cy := cy) (ka := ka) hcs29
          refine v_callV cb_16 hk_p0 (As := [.int (5 : Int32)]) (rest := []) hts29 yb_X15_refused kw_1729 kw_1731 kp_77 rfl ⟨Nat.le_of_ble_eq_true rfl, Nat.le_of_ble_eq_true rfl⟩ rfl (cat_len (Nat.le_of_ble_eq_true rfl)) dX15_answer_52 ?_
          have hk_p0 := tk_ hts29.1 hk_p0
          show v_ l D cy ka cX15_answer RX15 3 (some FieldType.int) "answer" 1 22 (qf_ D cy σ z (some (.int r))) σ z _ 55 [(0, va_rf (some p0)), (1, .int p1), (2, .int p2)] [.int x28]
          exact v_iret hf dX15_answer_55
    · refine v_sub [0] (L2 := [(0, va_rf (some p0))]) rfl ?_
      exact t_X15_answer_b17  hf
theorem dX15_tellingOn_0 : decode cX15_tellingOn 0 = .ok (.iconst (-1), 1) := by decide +kernel
theorem dX15_tellingOn_1 : decode cX15_tellingOn 1 = .ok (.istore 4, 2) := by decide +kernel
theorem dX15_tellingOn_3 : decode cX15_tellingOn 3 = .ok (.iconst 0, 1) := by decide +kernel
theorem dX15_tellingOn_4 : decode cX15_tellingOn 4 = .ok (.istore 5, 2) := by decide +kernel
theorem dX15_tellingOn_6 : decode cX15_tellingOn 6 = .ok (.iload 5, 2) := by decide +kernel
theorem dX15_tellingOn_8 : decode cX15_tellingOn 8 = .ok (.aload_n 0, 1) := by decide +kernel
theorem dX15_tellingOn_9 : decode cX15_tellingOn 9 = .ok (.getfield 253, 3) := by decide +kernel
theorem dX15_tellingOn_12 : decode cX15_tellingOn 12 = .ok (.if_icmp .ge 46, 3) := by decide +kernel
theorem dX15_tellingOn_15 : decode cX15_tellingOn 15 = .ok (.aload_n 0, 1) := by decide +kernel
theorem dX15_tellingOn_16 : decode cX15_tellingOn 16 = .ok (.getfield 57, 3) := by decide +kernel
theorem dX15_tellingOn_19 : decode cX15_tellingOn 19 = .ok (.iload 5, 2) := by decide +kernel
theorem dX15_tellingOn_21 : decode cX15_tellingOn 21 = .ok (.iaload, 1) := by decide +kernel
theorem dX15_tellingOn_22 : decode cX15_tellingOn 22 = .ok (.iload_n 1, 1) := by decide +kernel
theorem dX15_tellingOn_23 : decode cX15_tellingOn 23 = .ok (.if_icmp .ne 29, 3) := by decide +kernel
theorem dX15_tellingOn_26 : decode cX15_tellingOn 26 = .ok (.aload_n 0, 1) := by decide +kernel
theorem dX15_tellingOn_27 : decode cX15_tellingOn 27 = .ok (.getfield 60, 3) := by decide +kernel
theorem dX15_tellingOn_30 : decode cX15_tellingOn 30 = .ok (.iload 5, 2) := by decide +kernel
theorem dX15_tellingOn_32 : decode cX15_tellingOn 32 = .ok (.iaload, 1) := by decide +kernel
theorem dX15_tellingOn_33 : decode cX15_tellingOn 33 = .ok (.iload_n 2, 1) := by decide +kernel
theorem dX15_tellingOn_34 : decode cX15_tellingOn 34 = .ok (.if_icmp .ne 18, 3) := by decide +kernel
theorem dX15_tellingOn_37 : decode cX15_tellingOn 37 = .ok (.aload_n 0, 1) := by decide +kernel
theorem dX15_tellingOn_38 : decode cX15_tellingOn 38 = .ok (.getfield 66, 3) := by decide +kernel
theorem dX15_tellingOn_41 : decode cX15_tellingOn 41 = .ok (.iload 5, 2) := by decide +kernel
theorem dX15_tellingOn_43 : decode cX15_tellingOn 43 = .ok (.iaload, 1) := by decide +kernel
theorem dX15_tellingOn_44 : decode cX15_tellingOn 44 = .ok (.iload_n 3, 1) := by decide +kernel
theorem dX15_tellingOn_45 : decode cX15_tellingOn 45 = .ok (.if_icmp .gt 7, 3) := by decide +kernel
theorem dX15_tellingOn_48 : decode cX15_tellingOn 48 = .ok (.iload 5, 2) := by decide +kernel
theorem dX15_tellingOn_50 : decode cX15_tellingOn 50 = .ok (.istore 4, 2) := by decide +kernel
theorem dX15_tellingOn_52 : decode cX15_tellingOn 52 = .ok (.iinc 5 1, 3) := by decide +kernel
theorem dX15_tellingOn_55 : decode cX15_tellingOn 55 = .ok (.goto (-49), 3) := by decide +kernel
theorem dX15_tellingOn_58 : decode cX15_tellingOn 58 = .ok (.iload 4, 2) := by decide +kernel
theorem dX15_tellingOn_60 : decode cX15_tellingOn 60 = .ok (.ireturn, 1) := by decide +kernel
def f_X15_tellingOn_b52 (rec_6 : TH → Nat → Int32 → Int32 → Int32 → Int32 → Int32 → Option (Int32 × TH)) (σ : TH) (l0 : Nat) (l1 : Int32) (l2 : Int32) (l3 : Int32) (l4 : Int32) (l5 : Int32) : Option (Int32 × TH) :=
  lt_ (l5 + 1) fun x11 => rec_6 σ l0 l1 l2 l3 l4 x11
set_option maxHeartbeats 4000000 in
set_option maxRecDepth 100000 in
theorem t_X15_tellingOn_b52 {l : Launch} {D : va_G} {cy : Nat → ClassId} {ka : Nat → Nat} {σ0 z : TH} {r : Int32} {rec_6 : TH → Nat → Int32 → Int32 → Int32 → Int32 → Int32 → Option (Int32 × TH)} (hrec_6 : ∀ (σ : TH) (l0 : Nat) (l1 : Int32) (l2 : Int32) (l3 : Int32) (l4 : Int32) (l5 : Int32), rec_6 σ l0 l1 l2 l3 l4 l5 = some (r, z) → v_ l D cy ka cX15_tellingOn RX15 6 (some FieldType.int) "tellingOn" 0 0 (qf_ D cy σ0 z (some (.int r))) σ0 z σ 6 [(0, va_rf (some l0)), (1, .int l1), (2, .int l2), (3, .int l3), (4, .int l4), (5, .int l5)] []) {σ : TH} {l0 : Nat} {l1 : Int32} {l2 : Int32} {l3 : Int32} {l4 : Int32} {l5 : Int32} (hf : f_X15_tellingOn_b52 rec_6 σ l0 l1 l2 l3 l4 l5 = some (r, z)) : v_ l D cy ka cX15_tellingOn RX15 6 (some FieldType.int) "tellingOn" 0 0 (qf_ D cy σ0 z (some (.int r))) σ0 z σ 52 [(0, va_rf (some l0)), (1, .int l1), (2, .int l2), (3, .int l3), (4, .int l4), (5, .int l5)] [] := by
  unfold f_X15_tellingOn_b52 at hf
  obtain ⟨x11, ex11⟩ : ∃ y : Int32, y = l5 + 1 := ⟨_, rfl⟩
  rw [lt_e, ← ex11] at hf
  refine v_iinc (v := x11) [(5, .int x11), (0, va_rf (some l0)), (1, .int l1), (2, .int l2), (3, .int l3), (4, .int l4)] dX15_tellingOn_52 5 rfl (by rw [ex11]; rfl) (by decide) rfl ?_
  refine v_goto (tgt := 6) dX15_tellingOn_55 (by decide) ?_
  refine v_sub [1, 2, 3, 4, 5, 0] (L2 := [(0, va_rf (some l0)), (1, .int l1), (2, .int l2), (3, .int l3), (4, .int l4), (5, .int x11)]) rfl ?_
  exact hrec_6 _ _ _ _ _ _ _ hf
def f_X15_tellingOn_b6 : Nat → TH → Nat → Int32 → Int32 → Int32 → Int32 → Int32 → Option (Int32 × TH)
  | 0, _, _, _, _, _, _, _ => none
  | n + 1, σ, l0, l1, l2, l3, l4, l5 => gt_ (kd_ σ l0 = 17) <| lt_ (fi_ σ 1617 l0) fun x1 => if x1 ≤ l5 then (some (l4, σ)) else (lt_ (fr_ σ 1620 l0) fun r2 => nn_ r2 fun a3 => gt_ (kd_ σ a3 = 20) <| gt_ (¬ (l5 < 0 ∨ ln_ σ a3 ≤ l5.toNatClampNeg)) <| lt_ (ai_ σ a3 l5.toNatClampNeg) fun x4 => if x4 = l1 then (lt_ (fr_ σ 1621 l0) fun r5 => nn_ r5 fun a6 => gt_ (kd_ σ a6 = 20) <| gt_ (¬ (l5 < 0 ∨ ln_ σ a6 ≤ l5.toNatClampNeg)) <| lt_ (ai_ σ a6 l5.toNatClampNeg) fun x7 => if x7 = l2 then (lt_ (fr_ σ 1623 l0) fun r8 => nn_ r8 fun a9 => gt_ (kd_ σ a9 = 20) <| gt_ (¬ (l5 < 0 ∨ ln_ σ a9 ≤ l5.toNatClampNeg)) <| lt_ (ai_ σ a9 l5.toNatClampNeg) fun x10 => if l3 < x10 then (f_X15_tellingOn_b52 (f_X15_tellingOn_b6 n) σ l0 l1 l2 l3 l4 l5) else (f_X15_tellingOn_b52 (f_X15_tellingOn_b6 n) σ l0 l1 l2 l3 l5 l5)) else (f_X15_tellingOn_b52 (f_X15_tellingOn_b6 n) σ l0 l1 l2 l3 l4 l5)) else (f_X15_tellingOn_b52 (f_X15_tellingOn_b6 n) σ l0 l1 l2 l3 l4 l5))
set_option maxHeartbeats 4000000 in
set_option maxRecDepth 100000 in
theorem t_X15_tellingOn_b6 {l : Launch} {D : va_G} {cy : Nat → ClassId} {ka : Nat → Nat} {σ0 z : TH} {r : Int32}  : ∀ (n : Nat) (σ : TH) (l0 : Nat) (l1 : Int32) (l2 : Int32) (l3 : Int32) (l4 : Int32) (l5 : Int32), f_X15_tellingOn_b6 n σ l0 l1 l2 l3 l4 l5 = some (r, z) → v_ l D cy ka cX15_tellingOn RX15 6 (some FieldType.int) "tellingOn" 0 0 (qf_ D cy σ0 z (some (.int r))) σ0 z σ 6 [(0, va_rf (some l0)), (1, .int l1), (2, .int l2), (3, .int l3), (4, .int l4), (5, .int l5)] [] := by
  intro n
  induction n with
  | zero => intro σ l0 l1 l2 l3 l4 l5 hf; unfold f_X15_tellingOn_b6 at hf; cases hf
  | succ n ih =>
    intro σ l0 l1 l2 l3 l4 l5 hf
    unfold f_X15_tellingOn_b6 at hf
    have hrec_6 := ih
    refine v_iload (x := l5) dX15_tellingOn_6 5 rfl ?_
    refine v_aload_n (x := (some l0)) dX15_tellingOn_8 rfl 0 rfl ?_
    obtain ⟨hk_l0, hf⟩ := gt_of hf
    refine v_geti cb_16 hk_l0 17 1617 rfl (by decide) rfl (lk_n kw_1474 rfl) hf dX15_tellingOn_9 (fun x1 hf => ?_)
    refine v_icmp_ge (tgt := 58) hf dX15_tellingOn_12 (by decide) (fun hq hf => ?_) (fun hq hf => ?_)
    · refine v_iload (x := l4) dX15_tellingOn_58 4 rfl ?_
      exact v_iret hf dX15_tellingOn_60
    · refine v_aload_n (x := (some l0)) dX15_tellingOn_15 rfl 0 rfl ?_
      refine v_getr cb_16 hk_l0 20 1620 rfl (by decide) rfl (lk_n kw_1477 rfl) hf dX15_tellingOn_16 (fun r2 hf => ?_)
      refine v_iload (x := l5) dX15_tellingOn_19 5 rfl ?_
      obtain ⟨a3, rfl, hf⟩ := nn_of hf
      obtain ⟨hk_a3, hf⟩ := gt_of hf
      refine v_iald hk_a3 hf dX15_tellingOn_21 (fun x4 hf => ?_)
      refine v_iload_n (x := l1) dX15_tellingOn_22 rfl 1 rfl ?_
      refine v_icmp_ne (tgt := 52) hf dX15_tellingOn_23 (by decide) (fun hq hf => ?_) (fun hq hf => ?_)
      · refine v_aload_n (x := (some l0)) dX15_tellingOn_26 rfl 0 rfl ?_
        refine v_getr cb_16 hk_l0 21 1621 rfl (by decide) rfl (lk_n kw_1478 rfl) hf dX15_tellingOn_27 (fun r5 hf => ?_)
        refine v_iload (x := l5) dX15_tellingOn_30 5 rfl ?_
        obtain ⟨a6, rfl, hf⟩ := nn_of hf
        obtain ⟨hk_a6, hf⟩ := gt_of hf
        refine v_iald hk_a6 hf dX15_tellingOn_32 (fun x7 hf => ?_)
        refine v_iload_n (x := l2) dX15_tellingOn_33 rfl 2 rfl ?_
        refine v_icmp_ne (tgt := 52) hf dX15_tellingOn_34 (by decide) (fun hq hf => ?_) (fun hq hf => ?_)
        · refine v_aload_n (x := (some l0)) dX15_tellingOn_37 rfl 0 rfl ?_
          refine v_getr cb_16 hk_l0 23 1623 rfl (by decide) rfl (lk_n kw_1480 rfl) hf dX15_tellingOn_38 (fun r8 hf => ?_)
          refine v_iload (x := l5) dX15_tellingOn_41 5 rfl ?_
          obtain ⟨a9, rfl, hf⟩ := nn_of hf
          obtain ⟨hk_a9, hf⟩ := gt_of hf
          refine v_iald hk_a9 hf dX15_tellingOn_43 (fun x10 hf => ?_)
          refine v_iload_n (x := l3) dX15_tellingOn_44 rfl 3 rfl ?_
          refine v_icmp_gt (tgt := 52) hf dX15_tellingOn_45 (by decide) (fun hq hf => ?_) (fun hq hf => ?_)
          · refine v_sub [0, 1, 2, 3, 4, 5] (L2 := [(0, va_rf (some l0)), (1, .int l1), (2, .int l2), (3, .int l3), (4, .int l4), (5, .int l5)]) rfl ?_
            exact t_X15_tellingOn_b52 hrec_6 hf
          · refine v_iload (x := l5) dX15_tellingOn_48 5 rfl ?_
            refine v_istore [(4, .int l5), (0, va_rf (some l0)), (1, .int l1), (2, .int l2), (3, .int l3), (5, .int l5)] dX15_tellingOn_50 (by decide) rfl ?_
            refine v_sub [1, 2, 3, 4, 0, 5] (L2 := [(0, va_rf (some l0)), (1, .int l1), (2, .int l2), (3, .int l3), (4, .int l5), (5, .int l5)]) rfl ?_
            exact t_X15_tellingOn_b52 hrec_6 hf
        · refine v_sub [0, 1, 2, 3, 4, 5] (L2 := [(0, va_rf (some l0)), (1, .int l1), (2, .int l2), (3, .int l3), (4, .int l4), (5, .int l5)]) rfl ?_
          exact t_X15_tellingOn_b52 hrec_6 hf
      · refine v_sub [0, 1, 2, 3, 4, 5] (L2 := [(0, va_rf (some l0)), (1, .int l1), (2, .int l2), (3, .int l3), (4, .int l4), (5, .int l5)]) rfl ?_
        exact t_X15_tellingOn_b52 hrec_6 hf
/-- LivesAheadModel.tellingOn(III)I -/
def f_X15_tellingOn (σ : TH) (p0 : Nat) (p1 : Int32) (p2 : Int32) (p3 : Int32) : Option (Int32 × TH) :=
  f_X15_tellingOn_b6 fu_ σ p0 p1 p2 p3 (-1 : Int32) (0 : Int32)
set_option maxHeartbeats 4000000 in
set_option maxRecDepth 100000 in
theorem c_X15_tellingOn {l : Launch} {D : va_G} {cy : Nat → ClassId} {ka : Nat → Nat} {σ z : TH} {p0 : Nat} {p1 : Int32} {p2 : Int32} {p3 : Int32} {r : Int32} (hf : f_X15_tellingOn σ p0 p1 p2 p3 = some (r, z)) : ct_ l D cy ka yX15_tellingOn 0 0 [va_rf (some p0), .int p1, .int p2, .int p3] σ (some (.int r)) z := by
  unfold f_X15_tellingOn at hf
  refine v_start (cc := cX15_tellingOn) (own := RX15) (maxL := 6) (ret := (some FieldType.int)) (nm := "tellingOn") (by decide +kernel) kw_1836 rfl rfl (by simp [lg_sl, va_rf_cat, cat_i, cat_l]) ?_
  refine v_eqL (L2 := [(0, va_rf (some p0)), (1, .int p1), (2, .int p2), (3, .int p3)]) (by simp [lv_args, va_rf_cat, cat_i, cat_l]) ?_
  refine v_iconst (v := (-1)) dX15_tellingOn_0 (by decide) ?_
  refine v_istore [(4, .int (-1 : Int32)), (0, va_rf (some p0)), (1, .int p1), (2, .int p2), (3, .int p3)] dX15_tellingOn_1 (by decide) rfl ?_
  refine v_iconst (v := 0) dX15_tellingOn_3 (by decide) ?_
  refine v_istore [(5, .int (0 : Int32)), (4, .int (-1 : Int32)), (0, va_rf (some p0)), (1, .int p1), (2, .int p2), (3, .int p3)] dX15_tellingOn_4 (by decide) rfl ?_
  refine v_sub [2, 3, 4, 5, 1, 0] (L2 := [(0, va_rf (some p0)), (1, .int p1), (2, .int p2), (3, .int p3), (4, .int (-1 : Int32)), (5, .int (0 : Int32))]) rfl ?_
  exact t_X15_tellingOn_b6  _ _ _ _ _ _ _ _ hf
theorem dX15_apart_0 : decode cX15_apart 0 = .ok (.aload_n 0, 1) := by decide +kernel
theorem dX15_apart_1 : decode cX15_apart 1 = .ok (.iconst 0, 1) := by decide +kernel
theorem dX15_apart_2 : decode cX15_apart 2 = .ok (.putfield 1, 3) := by decide +kernel
theorem dX15_apart_5 : decode cX15_apart 5 = .ok (.aload_n 0, 1) := by decide +kernel
theorem dX15_apart_6 : decode cX15_apart 6 = .ok (.iload_n 1, 1) := by decide +kernel
theorem dX15_apart_7 : decode cX15_apart 7 = .ok (.invokevirtual 227, 3) := by decide +kernel
theorem dX15_apart_10 : decode cX15_apart 10 = .ok (.ifCond .eq 11, 3) := by decide +kernel
theorem dX15_apart_13 : decode cX15_apart 13 = .ok (.aload_n 0, 1) := by decide +kernel
theorem dX15_apart_14 : decode cX15_apart 14 = .ok (.iload_n 2, 1) := by decide +kernel
theorem dX15_apart_15 : decode cX15_apart 15 = .ok (.invokevirtual 227, 3) := by decide +kernel
theorem dX15_apart_18 : decode cX15_apart 18 = .ok (.ifCond .ne 5, 3) := by decide +kernel
theorem dX15_apart_21 : decode cX15_apart 21 = .ok (.iconst (-1), 1) := by decide +kernel
theorem dX15_apart_22 : decode cX15_apart 22 = .ok (.ireturn, 1) := by decide +kernel
theorem dX15_apart_23 : decode cX15_apart 23 = .ok (.iconst 0, 1) := by decide +kernel
theorem dX15_apart_24 : decode cX15_apart 24 = .ok (.istore_n 3, 1) := by decide +kernel
theorem dX15_apart_25 : decode cX15_apart 25 = .ok (.iload_n 3, 1) := by decide +kernel
theorem dX15_apart_26 : decode cX15_apart 26 = .ok (.bipush 10, 2) := by decide +kernel
theorem dX15_apart_28 : decode cX15_apart 28 = .ok (.if_icmp .ge 64, 3) := by decide +kernel
theorem dX15_apart_31 : decode cX15_apart 31 = .ok (.aload_n 0, 1) := by decide +kernel
theorem dX15_apart_32 : decode cX15_apart 32 = .ok (.iload_n 1, 1) := by decide +kernel
theorem dX15_apart_33 : decode cX15_apart 33 = .ok (.iload_n 3, 1) := by decide +kernel
theorem dX15_apart_34 : decode cX15_apart 34 = .ok (.aload_n 0, 1) := by decide +kernel
theorem dX15_apart_35 : decode cX15_apart 35 = .ok (.invokevirtual 230, 3) := by decide +kernel
theorem dX15_apart_38 : decode cX15_apart 38 = .ok (.invokevirtual 262, 3) := by decide +kernel
theorem dX15_apart_41 : decode cX15_apart 41 = .ok (.istore 4, 2) := by decide +kernel
theorem dX15_apart_43 : decode cX15_apart 43 = .ok (.aload_n 0, 1) := by decide +kernel
theorem dX15_apart_44 : decode cX15_apart 44 = .ok (.iload_n 2, 1) := by decide +kernel
theorem dX15_apart_45 : decode cX15_apart 45 = .ok (.iload_n 3, 1) := by decide +kernel
theorem dX15_apart_46 : decode cX15_apart 46 = .ok (.aload_n 0, 1) := by decide +kernel
theorem dX15_apart_47 : decode cX15_apart 47 = .ok (.invokevirtual 230, 3) := by decide +kernel
theorem dX15_apart_50 : decode cX15_apart 50 = .ok (.invokevirtual 262, 3) := by decide +kernel
theorem dX15_apart_53 : decode cX15_apart 53 = .ok (.istore 5, 2) := by decide +kernel
theorem dX15_apart_55 : decode cX15_apart 55 = .ok (.iload 4, 2) := by decide +kernel
theorem dX15_apart_57 : decode cX15_apart 57 = .ok (.iconst (-1), 1) := by decide +kernel
theorem dX15_apart_58 : decode cX15_apart 58 = .ok (.if_icmp .eq 28, 3) := by decide +kernel
theorem dX15_apart_61 : decode cX15_apart 61 = .ok (.iload 5, 2) := by decide +kernel
theorem dX15_apart_63 : decode cX15_apart 63 = .ok (.iconst (-1), 1) := by decide +kernel
theorem dX15_apart_64 : decode cX15_apart 64 = .ok (.if_icmp .eq 22, 3) := by decide +kernel
theorem dX15_apart_67 : decode cX15_apart 67 = .ok (.aload_n 0, 1) := by decide +kernel
theorem dX15_apart_68 : decode cX15_apart 68 = .ok (.getfield 63, 3) := by decide +kernel
theorem dX15_apart_71 : decode cX15_apart 71 = .ok (.iload 4, 2) := by decide +kernel
theorem dX15_apart_73 : decode cX15_apart 73 = .ok (.iaload, 1) := by decide +kernel
theorem dX15_apart_74 : decode cX15_apart 74 = .ok (.aload_n 0, 1) := by decide +kernel
theorem dX15_apart_75 : decode cX15_apart 75 = .ok (.getfield 63, 3) := by decide +kernel
theorem dX15_apart_78 : decode cX15_apart 78 = .ok (.iload 5, 2) := by decide +kernel
theorem dX15_apart_80 : decode cX15_apart 80 = .ok (.iaload, 1) := by decide +kernel
theorem dX15_apart_81 : decode cX15_apart 81 = .ok (.if_icmp .eq 5, 3) := by decide +kernel
theorem dX15_apart_84 : decode cX15_apart 84 = .ok (.iload_n 3, 1) := by decide +kernel
theorem dX15_apart_85 : decode cX15_apart 85 = .ok (.ireturn, 1) := by decide +kernel
theorem dX15_apart_86 : decode cX15_apart 86 = .ok (.iinc 3 1, 3) := by decide +kernel
theorem dX15_apart_89 : decode cX15_apart 89 = .ok (.goto (-64), 3) := by decide +kernel
theorem dX15_apart_92 : decode cX15_apart 92 = .ok (.bipush (-2), 2) := by decide +kernel
theorem dX15_apart_94 : decode cX15_apart 94 = .ok (.ireturn, 1) := by decide +kernel
def f_X15_apart_b21 (σ : TH) : Option (Int32 × TH) :=
  some ((-1 : Int32), σ)
set_option maxHeartbeats 4000000 in
set_option maxRecDepth 100000 in
theorem t_X15_apart_b21 {l : Launch} {D : va_G} {cy : Nat → ClassId} {ka : Nat → Nat} {σ0 z : TH} {r : Int32}  {σ : TH}  (hf : f_X15_apart_b21 σ  = some (r, z)) : v_ l D cy ka cX15_apart RX15 6 (some FieldType.int) "apart" 1 25 (qf_ D cy σ0 z (some (.int r))) σ0 z σ 21 [] [] := by
  unfold f_X15_apart_b21 at hf
  refine v_iconst (v := (-1)) dX15_apart_21 (by decide) ?_
  exact v_iret hf dX15_apart_22
def f_X15_apart_b86 (rec_25 : TH → Nat → Int32 → Int32 → Int32 → Option (Int32 × TH)) (σ : TH) (l0 : Nat) (l1 : Int32) (l2 : Int32) (l3 : Int32) : Option (Int32 × TH) :=
  lt_ (l3 + 1) fun x14 => rec_25 σ l0 l1 l2 x14
set_option maxHeartbeats 4000000 in
set_option maxRecDepth 100000 in
theorem t_X15_apart_b86 {l : Launch} {D : va_G} {cy : Nat → ClassId} {ka : Nat → Nat} {σ0 z : TH} {r : Int32} {rec_25 : TH → Nat → Int32 → Int32 → Int32 → Option (Int32 × TH)} (hrec_25 : ∀ (σ : TH) (l0 : Nat) (l1 : Int32) (l2 : Int32) (l3 : Int32), rec_25 σ l0 l1 l2 l3 = some (r, z) → v_ l D cy ka cX15_apart RX15 6 (some FieldType.int) "apart" 1 25 (qf_ D cy σ0 z (some (.int r))) σ0 z σ 25 [(0, va_rf (some l0)), (1, .int l1), (2, .int l2), (3, .int l3)] []) {σ : TH} {l0 : Nat} {l1 : Int32} {l2 : Int32} {l3 : Int32} (hf : f_X15_apart_b86 rec_25 σ l0 l1 l2 l3 = some (r, z)) : v_ l D cy ka cX15_apart RX15 6 (some FieldType.int) "apart" 1 25 (qf_ D cy σ0 z (some (.int r))) σ0 z σ 86 [(0, va_rf (some l0)), (1, .int l1), (2, .int l2), (3, .int l3)] [] := by
  unfold f_X15_apart_b86 at hf
  obtain ⟨x14, ex14⟩ : ∃ y : Int32, y = l3 + 1 := ⟨_, rfl⟩
  rw [lt_e, ← ex14] at hf
  refine v_iinc (v := x14) [(3, .int x14), (0, va_rf (some l0)), (1, .int l1), (2, .int l2)] dX15_apart_86 3 rfl (by rw [ex14]; rfl) (by decide) rfl ?_
  refine v_goto (tgt := 25) dX15_apart_89 (by decide) ?_
  refine v_sub [1, 2, 3, 0] (L2 := [(0, va_rf (some l0)), (1, .int l1), (2, .int l2), (3, .int x14)]) rfl ?_
  exact hrec_25 _ _ _ _ _ hf
def f_X15_apart_b25 : Nat → TH → Nat → Int32 → Int32 → Int32 → Option (Int32 × TH)
  | 0, _, _, _, _, _ => none
  | n + 1, σ, l0, l1, l2, l3 => if (10 : Int32) ≤ l3 then (some ((-2 : Int32), σ)) else (gt_ (kd_ σ l0 = 17) <| bd_ (f_X15_today σ l0) fun x6 s7 => bd_ (f_X15_tellingOn s7 l0 l1 l3 x6) fun x8 s9 => bd_ (f_X15_today s9 l0) fun x10 s11 => bd_ (f_X15_tellingOn s11 l0 l2 l3 x10) fun x12 s13 => if x8 = (-1 : Int32) then (f_X15_apart_b86 (f_X15_apart_b25 n) s13 l0 l1 l2 l3) else (if x12 = (-1 : Int32) then (f_X15_apart_b86 (f_X15_apart_b25 n) s13 l0 l1 l2 l3) else (lt_ (fr_ s13 1622 l0) fun r15 => nn_ r15 fun a16 => gt_ (kd_ s13 a16 = 20) <| gt_ (¬ (x8 < 0 ∨ ln_ s13 a16 ≤ x8.toNatClampNeg)) <| lt_ (ai_ s13 a16 x8.toNatClampNeg) fun x17 => lt_ (fr_ s13 1622 l0) fun r18 => nn_ r18 fun a19 => gt_ (kd_ s13 a19 = 20) <| gt_ (¬ (x12 < 0 ∨ ln_ s13 a19 ≤ x12.toNatClampNeg)) <| lt_ (ai_ s13 a19 x12.toNatClampNeg) fun x20 => if x17 = x20 then (f_X15_apart_b86 (f_X15_apart_b25 n) s13 l0 l1 l2 l3) else (some (l3, s13)))))
set_option maxHeartbeats 4000000 in
set_option maxRecDepth 100000 in
theorem t_X15_apart_b25 {l : Launch} {D : va_G} {cy : Nat → ClassId} {ka : Nat → Nat} {σ0 z : TH} {r : Int32}  : ∀ (n : Nat) (σ : TH) (l0 : Nat) (l1 : Int32) (l2 : Int32) (l3 : Int32), f_X15_apart_b25 n σ l0 l1 l2 l3 = some (r, z) → v_ l D cy ka cX15_apart RX15 6 (some FieldType.int) "apart" 1 25 (qf_ D cy σ0 z (some (.int r))) σ0 z σ 25 [(0, va_rf (some l0)), (1, .int l1), (2, .int l2), (3, .int l3)] [] := by
  intro n
  induction n with
  | zero => intro σ l0 l1 l2 l3 hf; unfold f_X15_apart_b25 at hf; cases hf
  | succ n ih =>
    intro σ l0 l1 l2 l3 hf
    unfold f_X15_apart_b25 at hf
    have hrec_25 := ih
    refine v_iload_n (x := l3) dX15_apart_25 rfl 3 rfl ?_
    refine v_bipush (v := 10) dX15_apart_26 (by decide) ?_
    refine v_icmp_ge (tgt := 92) hf dX15_apart_28 (by decide) (fun hq hf => ?_) (fun hq hf => ?_)
    · refine v_bipush (v := (-2)) dX15_apart_92 (by decide) ?_
      exact v_iret hf dX15_apart_94
    · refine v_aload_n (x := (some l0)) dX15_apart_31 rfl 0 rfl ?_
      refine v_iload_n (x := l1) dX15_apart_32 rfl 1 rfl ?_
      refine v_iload_n (x := l3) dX15_apart_33 rfl 3 rfl ?_
      refine v_aload_n (x := (some l0)) dX15_apart_34 rfl 0 rfl ?_
      obtain ⟨hk_l0, hf⟩ := gt_of hf
      obtain ⟨x6, s7, hcs7, hf⟩ := bd_of hf
      have hts7 := c_X15_today (l := l) (D := D) (cy := cy) (ka := ka) hcs7
      refine v_callV cb_16 hk_l0 (As := []) (rest := [.int l3, .int l1, va_rf (some l0)]) hts7 yb_X15_today kw_1774 kw_1776 kp_84 rfl ⟨Nat.le_of_ble_eq_true rfl, Nat.le_of_ble_eq_true rfl⟩ rfl (cat_len (Nat.le_of_ble_eq_true rfl)) dX15_apart_35 ?_
      have hk_l0 := tk_ hts7.1 hk_l0
      show v_ l D cy ka cX15_apart RX15 6 (some FieldType.int) "apart" 1 25 (qf_ D cy σ0 z (some (.int r))) σ0 z _ 38 [(0, va_rf (some l0)), (1, .int l1), (2, .int l2), (3, .int l3)] [.int x6, .int l3, .int l1, va_rf (some l0)]
      obtain ⟨x8, s9, hcs9, hf⟩ := bd_of hf
      have hts9 := c_X15_tellingOn (l := l) (D := D) (cy := cy) (ka := ka) hcs9
      refine v_callV cb_16 hk_l0 (As := [.int l1, .int l3, .int x6]) (rest := []) hts9 yb_X15_tellingOn kw_1833 kw_1835 kp_92 rfl ⟨Nat.le_of_ble_eq_true rfl, Nat.le_of_ble_eq_true rfl⟩ rfl (cat_len (Nat.le_of_ble_eq_true rfl)) dX15_apart_38 ?_
      have hk_l0 := tk_ hts9.1 hk_l0
      show v_ l D cy ka cX15_apart RX15 6 (some FieldType.int) "apart" 1 25 (qf_ D cy σ0 z (some (.int r))) σ0 z _ 41 [(0, va_rf (some l0)), (1, .int l1), (2, .int l2), (3, .int l3)] [.int x8]
      refine v_istore [(4, .int x8), (0, va_rf (some l0)), (1, .int l1), (2, .int l2), (3, .int l3)] dX15_apart_41 (by decide) rfl ?_
      refine v_aload_n (x := (some l0)) dX15_apart_43 rfl 1 rfl ?_
      refine v_iload_n (x := l2) dX15_apart_44 rfl 3 rfl ?_
      refine v_iload_n (x := l3) dX15_apart_45 rfl 4 rfl ?_
      refine v_aload_n (x := (some l0)) dX15_apart_46 rfl 1 rfl ?_
      obtain ⟨x10, s11, hcs11, hf⟩ := bd_of hf
      have hts11 := c_X15_today (l := l) (D := D) (cy := cy) (ka := ka) hcs11
      refine v_callV cb_16 hk_l0 (As := []) (rest := [.int l3, .int l2, va_rf (some l0)]) hts11 yb_X15_today kw_1774 kw_1776 kp_84 rfl ⟨Nat.le_of_ble_eq_true rfl, Nat.le_of_ble_eq_true rfl⟩ rfl (cat_len (Nat.le_of_ble_eq_true rfl)) dX15_apart_47 ?_
      have hk_l0 := tk_ hts11.1 hk_l0
      show v_ l D cy ka cX15_apart RX15 6 (some FieldType.int) "apart" 1 25 (qf_ D cy σ0 z (some (.int r))) σ0 z _ 50 [(4, .int x8), (0, va_rf (some l0)), (1, .int l1), (2, .int l2), (3, .int l3)] [.int x10, .int l3, .int l2, va_rf (some l0)]
      obtain ⟨x12, s13, hcs13, hf⟩ := bd_of hf
      have hts13 := c_X15_tellingOn (l := l) (D := D) (cy := cy) (ka := ka) hcs13
      refine v_callV cb_16 hk_l0 (As := [.int l2, .int l3, .int x10]) (rest := []) hts13 yb_X15_tellingOn kw_1833 kw_1835 kp_92 rfl ⟨Nat.le_of_ble_eq_true rfl, Nat.le_of_ble_eq_true rfl⟩ rfl (cat_len (Nat.le_of_ble_eq_true rfl)) dX15_apart_50 ?_
      have hk_l0 := tk_ hts13.1 hk_l0
      show v_ l D cy ka cX15_apart RX15 6 (some FieldType.int) "apart" 1 25 (qf_ D cy σ0 z (some (.int r))) σ0 z _ 53 [(4, .int x8), (0, va_rf (some l0)), (1, .int l1), (2, .int l2), (3, .int l3)] [.int x12]
      refine v_istore [(5, .int x12), (4, .int x8), (0, va_rf (some l0)), (1, .int l1), (2, .int l2), (3, .int l3)] dX15_apart_53 (by decide) rfl ?_
      refine v_iload (x := x8) dX15_apart_55 1 rfl ?_
      refine v_iconst (v := (-1)) dX15_apart_57 (by decide) ?_
      refine v_icmp_eq (tgt := 86) hf dX15_apart_58 (by decide) (fun hq hf => ?_) (fun hq hf => ?_)
      · refine v_sub [2, 3, 4, 5] (L2 := [(0, va_rf (some l0)), (1, .int l1), (2, .int l2), (3, .int l3)]) rfl ?_
        exact t_X15_apart_b86 hrec_25 hf
      · refine v_iload (x := x12) dX15_apart_61 0 rfl ?_
        refine v_iconst (v := (-1)) dX15_apart_63 (by decide) ?_
        refine v_icmp_eq (tgt := 86) hf dX15_apart_64 (by decide) (fun hq hf => ?_) (fun hq hf => ?_)
        · refine v_sub [2, 3, 4, 5] (L2 := [(0, va_rf (some l0)), (1, .int l1), (2, .int l2), (3, .int l3)]) rfl ?_
          exact t_X15_apart_b86 hrec_25 hf
        · refine v_aload_n (x := (some l0)) dX15_apart_67 rfl 2 rfl ?_
          refine v_getr cb_16 hk_l0 22 1622 rfl (by decide) rfl (lk_n kw_1479 rfl) hf dX15_apart_68 (fun r15 hf => ?_)
          refine v_iload (x := x8) dX15_apart_71 1 rfl ?_
          obtain ⟨a16, rfl, hf⟩ := nn_of hf
          obtain ⟨hk_a16, hf⟩ := gt_of hf
          refine v_iald hk_a16 hf dX15_apart_73 (fun x17 hf => ?_)
          refine v_aload_n (x := (some l0)) dX15_apart_74 rfl 2 rfl ?_
          refine v_getr cb_16 hk_l0 22 1622 rfl (by decide) rfl (lk_n kw_1479 rfl) hf dX15_apart_75 (fun r18 hf => ?_)
          refine v_iload (x := x12) dX15_apart_78 0 rfl ?_
          obtain ⟨a19, rfl, hf⟩ := nn_of hf
          obtain ⟨hk_a19, hf⟩ := gt_of hf
          refine v_iald hk_a19 hf dX15_apart_80 (fun x20 hf => ?_)
          refine v_icmp_eq (tgt := 86) hf dX15_apart_81 (by decide) (fun hq hf => ?_) (fun hq hf => ?_)
          · refine v_sub [2, 3, 4, 5] (L2 := [(0, va_rf (some l0)), (1, .int l1), (2, .int l2), (3, .int l3)]) rfl ?_
            exact t_X15_apart_b86 hrec_25 hf
          · refine v_iload_n (x := l3) dX15_apart_84 rfl 5 rfl ?_
            exact v_iret hf dX15_apart_85
/-- LivesAheadModel.apart(II)I -/
def f_X15_apart (σ : TH) (p0 : Nat) (p1 : Int32) (p2 : Int32) : Option (Int32 × TH) :=
  gt_ (kd_ σ p0 = 17) <| lt_ (si_ σ 1600 p0 (0 : Int32)) fun s1 => bd_ (f_X15_isPerson s1 p0 p1) fun x2 s3 => if x2 = 0 then (f_X15_apart_b21 s3 ) else (bd_ (f_X15_isPerson s3 p0 p2) fun x4 s5 => if x4 = 0 then (f_X15_apart_b21 s5 ) else (f_X15_apart_b25 fu_ s5 p0 p1 p2 (0 : Int32)))
set_option maxHeartbeats 4000000 in
set_option maxRecDepth 100000 in
theorem c_X15_apart {l : Launch} {D : va_G} {cy : Nat → ClassId} {ka : Nat → Nat} {σ z : TH} {p0 : Nat} {p1 : Int32} {p2 : Int32} {r : Int32} (hf : f_X15_apart σ p0 p1 p2 = some (r, z)) : ct_ l D cy ka yX15_apart 1 25 [va_rf (some p0), .int p1, .int p2] σ (some (.int r)) z := by
  unfold f_X15_apart at hf
  refine v_start (cc := cX15_apart) (own := RX15) (maxL := 6) (ret := (some FieldType.int)) (nm := "apart") (by decide +kernel) kw_1852 rfl rfl (by simp [lg_sl, va_rf_cat, cat_i, cat_l]) ?_
  refine v_eqL (L2 := [(0, va_rf (some p0)), (1, .int p1), (2, .int p2)]) (by simp [lv_args, va_rf_cat, cat_i, cat_l]) ?_
  refine v_aload_n (x := (some p0)) dX15_apart_0 rfl 0 rfl ?_
  refine v_iconst (v := 0) dX15_apart_1 (by decide) ?_
  obtain ⟨hk_p0, hf⟩ := gt_of hf
  refine v_puti2 cb_16 hk_p0 0 1600 rfl (by decide) rfl (lk_n kw_1457 rfl) (Or.inl rfl) rfl rfl hf dX15_apart_2 (fun s1 hts1 hf => ?_)
  have hk_p0 := tk_ hts1 hk_p0
  refine v_aload_n (x := (some p0)) dX15_apart_5 rfl 0 rfl ?_
  refine v_iload_n (x := p1) dX15_apart_6 rfl 1 rfl ?_
  obtain ⟨x2, s3, hcs3, hf⟩ := bd_of hf
  have hts3 := c_X15_isPerson (l := l) (D := D) (cy := cy) (ka := ka) hcs3
  refine v_callV cb_16 hk_p0 (As := [.int p1]) (rest := []) hts3 yb_X15_isPerson kw_1770 kw_1772 kp_83 rfl ⟨Nat.le_of_ble_eq_true rfl, Nat.le_of_ble_eq_true rfl⟩ rfl (cat_len (Nat.le_of_ble_eq_true rfl)) dX15_apart_7 ?_
  have hk_p0 := tk_ hts3.1 hk_p0
  show v_ l D cy ka cX15_apart RX15 6 (some FieldType.int) "apart" 1 25 (qf_ D cy σ z (some (.int r))) σ z _ 10 [(0, va_rf (some p0)), (1, .int p1), (2, .int p2)] [.int x2]
  refine v_if_eq (tgt := 21) hf dX15_apart_10 (by decide) (fun hq hf => ?_) (fun hq hf => ?_)
  · refine v_sub [] (L2 := []) rfl ?_
    exact t_X15_apart_b21  hf
  · refine v_aload_n (x := (some p0)) dX15_apart_13 rfl 0 rfl ?_
    refine v_iload_n (x := p2) dX15_apart_14 rfl 2 rfl ?_
    obtain ⟨x4, s5, hcs5, hf⟩ := bd_of hf
    have hts5 := c_X15_isPerson (l := l) (D := D) (cy := cy) (ka := ka) hcs5
    refine v_callV cb_16 hk_p0 (As := [.int p2]) (rest := []) hts5 yb_X15_isPerson kw_1770 kw_1772 kp_83 rfl ⟨Nat.le_of_ble_eq_true rfl, Nat.le_of_ble_eq_true rfl⟩ rfl (cat_len (Nat.le_of_ble_eq_true rfl)) dX15_apart_15 ?_
    have hk_p0 := tk_ hts5.1 hk_p0
    show v_ l D cy ka cX15_apart RX15 6 (some FieldType.int) "apart" 1 25 (qf_ D cy σ z (some (.int r))) σ z _ 18 [(0, va_rf (some p0)), (1, .int p1), (2, .int p2)] [.int x4]
    refine v_if_ne (tgt := 23) hf dX15_apart_18 (by decide) (fun hq hf => ?_) (fun hq hf => ?_)
    · refine v_sub [] (L2 := []) rfl ?_
      exact t_X15_apart_b21  hf
    · refine v_iconst (v := 0) dX15_apart_23 (by decide) ?_
      refine v_istore_n [(3, .int (0 : Int32)), (0, va_rf (some p0)), (1, .int p1), (2, .int p2)] dX15_apart_24 rfl (by decide) rfl ?_
      refine v_sub [1, 2, 3, 0] (L2 := [(0, va_rf (some p0)), (1, .int p1), (2, .int p2), (3, .int (0 : Int32))]) rfl ?_
      exact t_X15_apart_b25  _ _ _ _ _ _ hf
theorem dX15_ask_0 : decode cX15_ask 0 = .ok (.aload_n 0, 1) := by decide +kernel
theorem dX15_ask_1 : decode cX15_ask 1 = .ok (.iconst 0, 1) := by decide +kernel
theorem dX15_ask_2 : decode cX15_ask 2 = .ok (.putfield 1, 3) := by decide +kernel
theorem dX15_ask_5 : decode cX15_ask 5 = .ok (.aload_n 0, 1) := by decide +kernel
theorem dX15_ask_6 : decode cX15_ask 6 = .ok (.iload_n 1, 1) := by decide +kernel
theorem dX15_ask_7 : decode cX15_ask 7 = .ok (.invokevirtual 227, 3) := by decide +kernel
theorem dX15_ask_10 : decode cX15_ask 10 = .ok (.ifCond .ne 9, 3) := by decide +kernel
theorem dX15_ask_13 : decode cX15_ask 13 = .ok (.aload_n 0, 1) := by decide +kernel
theorem dX15_ask_14 : decode cX15_ask 14 = .ok (.iconst 1, 1) := by decide +kernel
theorem dX15_ask_15 : decode cX15_ask 15 = .ok (.invokevirtual 201, 3) := by decide +kernel
theorem dX15_ask_18 : decode cX15_ask 18 = .ok (.ireturn, 1) := by decide +kernel
theorem dX15_ask_19 : decode cX15_ask 19 = .ok (.iload_n 2, 1) := by decide +kernel
theorem dX15_ask_20 : decode cX15_ask 20 = .ok (.iconst 1, 1) := by decide +kernel
theorem dX15_ask_21 : decode cX15_ask 21 = .ok (.sipush 1440, 3) := by decide +kernel
theorem dX15_ask_24 : decode cX15_ask 24 = .ok (.invokestatic 197, 3) := by decide +kernel
theorem dX15_ask_27 : decode cX15_ask 27 = .ok (.ifCond .ne 9, 3) := by decide +kernel
theorem dX15_ask_30 : decode cX15_ask 30 = .ok (.aload_n 0, 1) := by decide +kernel
theorem dX15_ask_31 : decode cX15_ask 31 = .ok (.iconst 2, 1) := by decide +kernel
theorem dX15_ask_32 : decode cX15_ask 32 = .ok (.invokevirtual 201, 3) := by decide +kernel
theorem dX15_ask_35 : decode cX15_ask 35 = .ok (.ireturn, 1) := by decide +kernel
theorem dX15_ask_36 : decode cX15_ask 36 = .ok (.aload_n 0, 1) := by decide +kernel
theorem dX15_ask_37 : decode cX15_ask 37 = .ok (.getfield 562, 3) := by decide +kernel
theorem dX15_ask_40 : decode cX15_ask 40 = .ok (.bipush 60, 2) := by decide +kernel
theorem dX15_ask_42 : decode cX15_ask 42 = .ok (.if_icmp .ne 9, 3) := by decide +kernel
theorem dX15_ask_45 : decode cX15_ask 45 = .ok (.aload_n 0, 1) := by decide +kernel
theorem dX15_ask_46 : decode cX15_ask 46 = .ok (.iconst 3, 1) := by decide +kernel
theorem dX15_ask_47 : decode cX15_ask 47 = .ok (.invokevirtual 201, 3) := by decide +kernel
theorem dX15_ask_50 : decode cX15_ask 50 = .ok (.ireturn, 1) := by decide +kernel
theorem dX15_ask_51 : decode cX15_ask 51 = .ok (.aload_n 0, 1) := by decide +kernel
theorem dX15_ask_52 : decode cX15_ask 52 = .ok (.getfield 161, 3) := by decide +kernel
theorem dX15_ask_55 : decode cX15_ask 55 = .ok (.aload_n 0, 1) := by decide +kernel
theorem dX15_ask_56 : decode cX15_ask 56 = .ok (.getfield 562, 3) := by decide +kernel
theorem dX15_ask_59 : decode cX15_ask 59 = .ok (.iload_n 1, 1) := by decide +kernel
theorem dX15_ask_60 : decode cX15_ask 60 = .ok (.iastore, 1) := by decide +kernel
theorem dX15_ask_61 : decode cX15_ask 61 = .ok (.aload_n 0, 1) := by decide +kernel
theorem dX15_ask_62 : decode cX15_ask 62 = .ok (.getfield 164, 3) := by decide +kernel
theorem dX15_ask_65 : decode cX15_ask 65 = .ok (.aload_n 0, 1) := by decide +kernel
theorem dX15_ask_66 : decode cX15_ask 66 = .ok (.getfield 562, 3) := by decide +kernel
theorem dX15_ask_69 : decode cX15_ask 69 = .ok (.aload_n 0, 1) := by decide +kernel
theorem dX15_ask_70 : decode cX15_ask 70 = .ok (.getfield 188, 3) := by decide +kernel
theorem dX15_ask_73 : decode cX15_ask 73 = .ok (.iload_n 2, 1) := by decide +kernel
theorem dX15_ask_74 : decode cX15_ask 74 = .ok (.iadd, 1) := by decide +kernel
theorem dX15_ask_75 : decode cX15_ask 75 = .ok (.iastore, 1) := by decide +kernel
theorem dX15_ask_76 : decode cX15_ask 76 = .ok (.aload_n 0, 1) := by decide +kernel
theorem dX15_ask_77 : decode cX15_ask 77 = .ok (.getfield 167, 3) := by decide +kernel
theorem dX15_ask_80 : decode cX15_ask 80 = .ok (.aload_n 0, 1) := by decide +kernel
theorem dX15_ask_81 : decode cX15_ask 81 = .ok (.getfield 562, 3) := by decide +kernel
theorem dX15_ask_84 : decode cX15_ask 84 = .ok (.iconst (-1), 1) := by decide +kernel
theorem dX15_ask_85 : decode cX15_ask 85 = .ok (.iastore, 1) := by decide +kernel
theorem dX15_ask_86 : decode cX15_ask 86 = .ok (.aload_n 0, 1) := by decide +kernel
theorem dX15_ask_87 : decode cX15_ask 87 = .ok (.dup, 1) := by decide +kernel
theorem dX15_ask_88 : decode cX15_ask 88 = .ok (.getfield 562, 3) := by decide +kernel
theorem dX15_ask_91 : decode cX15_ask 91 = .ok (.iconst 1, 1) := by decide +kernel
theorem dX15_ask_92 : decode cX15_ask 92 = .ok (.iadd, 1) := by decide +kernel
theorem dX15_ask_93 : decode cX15_ask 93 = .ok (.putfield 562, 3) := by decide +kernel
theorem dX15_ask_96 : decode cX15_ask 96 = .ok (.aload_n 0, 1) := by decide +kernel
theorem dX15_ask_97 : decode cX15_ask 97 = .ok (.aload_n 0, 1) := by decide +kernel
theorem dX15_ask_98 : decode cX15_ask 98 = .ok (.getfield 562, 3) := by decide +kernel
theorem dX15_ask_101 : decode cX15_ask 101 = .ok (.iconst 1, 1) := by decide +kernel
theorem dX15_ask_102 : decode cX15_ask 102 = .ok (.isub, 1) := by decide +kernel
theorem dX15_ask_103 : decode cX15_ask 103 = .ok (.invokevirtual 205, 3) := by decide +kernel
theorem dX15_ask_106 : decode cX15_ask 106 = .ok (.ireturn, 1) := by decide +kernel
/-- LivesAheadModel.ask(II)I -/
def f_X15_ask (σ : TH) (p0 : Nat) (p1 : Int32) (p2 : Int32) : Option (Int32 × TH) :=
  gt_ (kd_ σ p0 = 17) <| lt_ (si_ σ 1600 p0 (0 : Int32)) fun s1 => bd_ (f_X15_isPerson s1 p0 p1) fun x2 s3 => if x2 = 0 then (bd_ (f_X15_refused s3 p0 (1 : Int32)) fun x4 s5 => some (x4, s5)) else (bd_ (f_X15_in s3 p2 (1 : Int32) (1440 : Int32)) fun x6 s7 => if x6 = 0 then (bd_ (f_X15_refused s7 p0 (2 : Int32)) fun x8 s9 => some (x8, s9)) else (lt_ (fi_ s7 1670 p0) fun x10 => if x10 = (60 : Int32) then (bd_ (f_X15_refused s7 p0 (3 : Int32)) fun x11 s12 => some (x11, s12)) else (lt_ (fr_ s7 1678 p0) fun r13 => lt_ (fi_ s7 1670 p0) fun x14 => nn_ r13 fun a15 => gt_ (kd_ s7 a15 = 20) <| gt_ (¬ (x14 < 0 ∨ ln_ s7 a15 ≤ x14.toNatClampNeg)) <| lt_ (sa_ s7 a15 x14.toNatClampNeg p1) fun s16 => lt_ (fr_ s16 1679 p0) fun r17 => lt_ (fi_ s16 1670 p0) fun x18 => lt_ (fi_ s16 1606 p0) fun x19 => nn_ r17 fun a20 => gt_ (kd_ s16 a20 = 20) <| gt_ (¬ (x18 < 0 ∨ ln_ s16 a20 ≤ x18.toNatClampNeg)) <| lt_ (sa_ s16 a20 x18.toNatClampNeg (x19 + p2)) fun s21 => lt_ (fr_ s21 1680 p0) fun r22 => lt_ (fi_ s21 1670 p0) fun x23 => nn_ r22 fun a24 => gt_ (kd_ s21 a24 = 20) <| gt_ (¬ (x23 < 0 ∨ ln_ s21 a24 ≤ x23.toNatClampNeg)) <| lt_ (sa_ s21 a24 x23.toNatClampNeg (-1 : Int32)) fun s25 => lt_ (fi_ s25 1670 p0) fun x26 => lt_ (si_ s25 1670 p0 (x26 + (1 : Int32))) fun s27 => lt_ (fi_ s27 1670 p0) fun x28 => bd_ (f_X15_done s27 p0 (x28 - (1 : Int32))) fun x29 s30 => some (x29, s30))))
set_option maxHeartbeats 4000000 in
set_option maxRecDepth 100000 in
theorem c_X15_ask {l : Launch} {D : va_G} {cy : Nat → ClassId} {ka : Nat → Nat} {σ z : TH} {p0 : Nat} {p1 : Int32} {p2 : Int32} {r : Int32} (hf : f_X15_ask σ p0 p1 p2 = some (r, z)) : ct_ l D cy ka yX15_ask 1 22 [va_rf (some p0), .int p1, .int p2] σ (some (.int r)) z := by
  unfold f_X15_ask at hf
  refine v_start (cc := cX15_ask) (own := RX15) (maxL := 3) (ret := (some FieldType.int)) (nm := "ask") (by decide +kernel) kw_2157 rfl rfl (by simp [lg_sl, va_rf_cat, cat_i, cat_l]) ?_
  refine v_eqL (L2 := [(0, va_rf (some p0)), (1, .int p1), (2, .int p2)]) (by simp [lv_args, va_rf_cat, cat_i, cat_l]) ?_
  refine v_aload_n (x := (some p0)) dX15_ask_0 rfl 0 rfl ?_
  refine v_iconst (v := 0) dX15_ask_1 (by decide) ?_
  obtain ⟨hk_p0, hf⟩ := gt_of hf
  refine v_puti2 cb_16 hk_p0 0 1600 rfl (by decide) rfl (lk_n kw_1457 rfl) (Or.inl rfl) rfl rfl hf dX15_ask_2 (fun s1 hts1 hf => ?_)
  have hk_p0 := tk_ hts1 hk_p0
  refine v_aload_n (x := (some p0)) dX15_ask_5 rfl 0 rfl ?_
  refine v_iload_n (x := p1) dX15_ask_6 rfl 1 rfl ?_
  obtain ⟨x2, s3, hcs3, hf⟩ := bd_of hf
  have hts3 := c_X15_isPerson (l := l) (D := D) (cy := cy) (ka := ka) hcs3
  refine v_callV cb_16 hk_p0 (As := [.int p1]) (rest := []) hts3 yb_X15_isPerson kw_1770 kw_1772 kp_83 rfl ⟨Nat.le_of_ble_eq_true rfl, Nat.le_of_ble_eq_true rfl⟩ rfl (cat_len (Nat.le_of_ble_eq_true rfl)) dX15_ask_7 ?_
  have hk_p0 := tk_ hts3.1 hk_p0
  show v_ l D cy ka cX15_ask RX15 3 (some FieldType.int) "ask" 1 22 (qf_ D cy σ z (some (.int r))) σ z _ 10 [(0, va_rf (some p0)), (1, .int p1), (2, .int p2)] [.int x2]
  refine v_if_ne (tgt := 19) hf dX15_ask_10 (by decide) (fun hq hf => ?_) (fun hq hf => ?_)
  · refine v_aload_n (x := (some p0)) dX15_ask_13 rfl 0 rfl ?_
    refine v_iconst (v := 1) dX15_ask_14 (by decide) ?_
    obtain ⟨x4, s5, hcs5, hf⟩ := bd_of hf
    have hts5 := c_X15_refused (l := l) (D := D) (cy := cy) (ka := ka) hcs5
    refine v_callV cb_16 hk_p0 (As := [.int (1 : Int32)]) (rest := []) hts5 yb_X15_refused kw_1729 kw_1731 kp_77 rfl ⟨Nat.le_of_ble_eq_true rfl, Nat.le_of_ble_eq_true rfl⟩ rfl (cat_len (Nat.le_of_ble_eq_true rfl)) dX15_ask_15 ?_
    have hk_p0 := tk_ hts5.1 hk_p0
    show v_ l D cy ka cX15_ask RX15 3 (some FieldType.int) "ask" 1 22 (qf_ D cy σ z (some (.int r))) σ z _ 18 [(0, va_rf (some p0)), (1, .int p1), (2, .int p2)] [.int x4]
    exact v_iret hf dX15_ask_18
  · refine v_iload_n (x := p2) dX15_ask_19 rfl 2 rfl ?_
    refine v_iconst (v := 1) dX15_ask_20 (by decide) ?_
    refine v_sipush (v := 1440) dX15_ask_21 (by decide) ?_
    obtain ⟨x6, s7, hcs7, hf⟩ := bd_of hf
    have hts7 := c_X15_in (l := l) (D := D) (cy := cy) (ka := ka) hcs7
    refine v_callS (As := [.int p2, .int (1 : Int32), .int (1440 : Int32)]) (rest := []) hts7 yb_X15_in kw_1726 kw_1727 rfl ⟨Nat.le_of_ble_eq_true rfl, Nat.le_of_ble_eq_true rfl⟩ rfl (cat_len (Nat.le_of_ble_eq_true rfl)) dX15_ask_24 ?_
    have hk_p0 := tk_ hts7.1 hk_p0
    show v_ l D cy ka cX15_ask RX15 3 (some FieldType.int) "ask" 1 22 (qf_ D cy σ z (some (.int r))) σ z _ 27 [(0, va_rf (some p0)), (1, .int p1), (2, .int p2)] [.int x6]
    refine v_if_ne (tgt := 36) hf dX15_ask_27 (by decide) (fun hq hf => ?_) (fun hq hf => ?_)
    · refine v_aload_n (x := (some p0)) dX15_ask_30 rfl 0 rfl ?_
      refine v_iconst (v := 2) dX15_ask_31 (by decide) ?_
      obtain ⟨x8, s9, hcs9, hf⟩ := bd_of hf
      have hts9 := c_X15_refused (l := l) (D := D) (cy := cy) (ka := ka) hcs9
      refine v_callV cb_16 hk_p0 (As := [.int (2 : Int32)]) (rest := []) hts9 yb_X15_refused kw_1729 kw_1731 kp_77 rfl ⟨Nat.le_of_ble_eq_true rfl, Nat.le_of_ble_eq_true rfl⟩ rfl (cat_len (Nat.le_of_ble_eq_true rfl)) dX15_ask_32 ?_
      have hk_p0 := tk_ hts9.1 hk_p0
      show v_ l D cy ka cX15_ask RX15 3 (some FieldType.int) "ask" 1 22 (qf_ D cy σ z (some (.int r))) σ z _ 35 [(0, va_rf (some p0)), (1, .int p1), (2, .int p2)] [.int x8]
      exact v_iret hf dX15_ask_35
    · refine v_aload_n (x := (some p0)) dX15_ask_36 rfl 0 rfl ?_
      refine v_geti cb_16 hk_p0 70 1670 rfl (by decide) rfl (lk_n kw_1527 rfl) hf dX15_ask_37 (fun x10 hf => ?_)
      refine v_bipush (v := 60) dX15_ask_40 (by decide) ?_
      refine v_icmp_ne (tgt := 51) hf dX15_ask_42 (by decide) (fun hq hf => ?_) (fun hq hf => ?_)
      · refine v_aload_n (x := (some p0)) dX15_ask_45 rfl 0 rfl ?_
        refine v_iconst (v := 3) dX15_ask_46 (by decide) ?_
        obtain ⟨x11, s12, hcs12, hf⟩ := bd_of hf
        have hts12 := c_X15_refused (l := l) (D := D) (cy := cy) (ka := ka) hcs12
        refine v_callV cb_16 hk_p0 (As := [.int (3 : Int32)]) (rest := []) hts12 yb_X15_refused kw_1729 kw_1731 kp_77 rfl ⟨Nat.le_of_ble_eq_true rfl, Nat.le_of_ble_eq_true rfl⟩ rfl (cat_len (Nat.le_of_ble_eq_true rfl)) dX15_ask_47 ?_
        have hk_p0 := tk_ hts12.1 hk_p0
        show v_ l D cy ka cX15_ask RX15 3 (some FieldType.int) "ask" 1 22 (qf_ D cy σ z (some (.int r))) σ z _ 50 [(0, va_rf (some p0)), (1, .int p1), (2, .int p2)] [.int x11]
        exact v_iret hf dX15_ask_50
      · refine v_aload_n (x := (some p0)) dX15_ask_51 rfl 0 rfl ?_
        refine v_getr cb_16 hk_p0 78 1678 rfl (by decide) rfl (lk_n kw_1535 rfl) hf dX15_ask_52 (fun r13 hf => ?_)
        refine v_aload_n (x := (some p0)) dX15_ask_55 rfl 0 rfl ?_
        refine v_geti cb_16 hk_p0 70 1670 rfl (by decide) rfl (lk_n kw_1527 rfl) hf dX15_ask_56 (fun x14 hf => ?_)
        refine v_iload_n (x := p1) dX15_ask_59 rfl 1 rfl ?_
        obtain ⟨a15, rfl, hf⟩ := nn_of hf
        obtain ⟨hk_a15, hf⟩ := gt_of hf
        refine v_iast2 hk_a15 hf dX15_ask_60 (fun s16 hts16 hf => ?_)
        have hk_p0 := tk_ hts16 hk_p0
        refine v_aload_n (x := (some p0)) dX15_ask_61 rfl 0 rfl ?_
        refine v_getr cb_16 hk_p0 79 1679 rfl (by decide) rfl (lk_n kw_1536 rfl) hf dX15_ask_62 (fun r17 hf => ?_)
        refine v_aload_n (x := (some p0)) dX15_ask_65 rfl 0 rfl ?_
        refine v_geti cb_16 hk_p0 70 1670 rfl (by decide) rfl (lk_n kw_1527 rfl) hf dX15_ask_66 (fun x18 hf => ?_)
        refine v_aload_n (x := (some p0)) dX15_ask_69 rfl 0 rfl ?_
        refine v_geti cb_16 hk_p0 6 1606 rfl (by decide) rfl (lk_n kw_1463 rfl) hf dX15_ask_70 (fun x19 hf => ?_)
        refine v_iload_n (x := p2) dX15_ask_73 rfl 2 rfl ?_
        refine v_iadd dX15_ask_74 ?_
        obtain ⟨a20, rfl, hf⟩ := nn_of hf
        obtain ⟨hk_a20, hf⟩ := gt_of hf
        refine v_iast2 hk_a20 hf dX15_ask_75 (fun s21 hts21 hf => ?_)
        have hk_p0 := tk_ hts21 hk_p0
        refine v_aload_n (x := (some p0)) dX15_ask_76 rfl 0 rfl ?_
        refine v_getr cb_16 hk_p0 80 1680 rfl (by decide) rfl (lk_n kw_1537 rfl) hf dX15_ask_77 (fun r22 hf => ?_)
        refine v_aload_n (x := (some p0)) dX15_ask_80 rfl 0 rfl ?_
        refine v_geti cb_16 hk_p0 70 1670 rfl (by decide) rfl (lk_n kw_1527 rfl) hf dX15_ask_81 (fun x23 hf => ?_)
        refine v_iconst (v := (-1)) dX15_ask_84 (by decide) ?_
        obtain ⟨a24, rfl, hf⟩ := nn_of hf
        obtain ⟨hk_a24, hf⟩ := gt_of hf
        refine v_iast2 hk_a24 hf dX15_ask_85 (fun s25 hts25 hf => ?_)
        have hk_p0 := tk_ hts25 hk_p0
        refine v_aload_n (x := (some p0)) dX15_ask_86 rfl 0 rfl ?_
        refine v_dup dX15_ask_87 (va_rf_cat _) ?_
        refine v_geti cb_16 hk_p0 70 1670 rfl (by decide) rfl (lk_n kw_1527 rfl) hf dX15_ask_88 (fun x26 hf => ?_)
        refine v_iconst (v := 1) dX15_ask_91 (by decide) ?_
        refine v_iadd dX15_ask_92 ?_
        refine v_puti2 cb_16 hk_p0 70 1670 rfl (by decide) rfl (lk_n kw_1527 rfl) (Or.inl rfl) rfl rfl hf dX15_ask_93 (fun s27 hts27 hf => ?_)
        have hk_p0 := tk_ hts27 hk_p0
        refine v_aload_n (x := (some p0)) dX15_ask_96 rfl 0 rfl ?_
        refine v_aload_n (x := (some p0)) dX15_ask_97 rfl 0 rfl ?_
        refine v_geti cb_16 hk_p0 70 1670 rfl (by decide) rfl (lk_n kw_1527 rfl) hf dX15_ask_98 (fun x28 hf => ?_)
        refine v_iconst (v := 1) dX15_ask_101 (by decide) ?_
        refine v_isub dX15_ask_102 ?_
        obtain ⟨x29, s30, hcs30, hf⟩ := bd_of hf
        have hts30 := c_X15_done (l := l) (D := D) (cy := cy) (ka := ka) hcs30
        refine v_callV cb_16 hk_p0 (As := [.int (x28 - (1 : Int32))]) (rest := []) hts30 yb_X15_done kw_1733 kw_1735 kp_78 rfl ⟨Nat.le_of_ble_eq_true rfl, Nat.le_of_ble_eq_true rfl⟩ rfl (cat_len (Nat.le_of_ble_eq_true rfl)) dX15_ask_103 ?_
        have hk_p0 := tk_ hts30.1 hk_p0
        show v_ l D cy ka cX15_ask RX15 3 (some FieldType.int) "ask" 1 22 (qf_ D cy σ z (some (.int r))) σ z _ 106 [(0, va_rf (some p0)), (1, .int p1), (2, .int p2)] [.int x29]
        exact v_iret hf dX15_ask_106
theorem dX15_isLiving_0 : decode cX15_isLiving 0 = .ok (.iload_n 1, 1) := by decide +kernel
theorem dX15_isLiving_1 : decode cX15_isLiving 1 = .ok (.ifCond .lt 24, 3) := by decide +kernel
theorem dX15_isLiving_4 : decode cX15_isLiving 4 = .ok (.iload_n 1, 1) := by decide +kernel
theorem dX15_isLiving_5 : decode cX15_isLiving 5 = .ok (.aload_n 0, 1) := by decide +kernel
theorem dX15_isLiving_6 : decode cX15_isLiving 6 = .ok (.getfield 194, 3) := by decide +kernel
theorem dX15_isLiving_9 : decode cX15_isLiving 9 = .ok (.if_icmp .ge 16, 3) := by decide +kernel
theorem dX15_isLiving_12 : decode cX15_isLiving 12 = .ok (.aload_n 0, 1) := by decide +kernel
theorem dX15_isLiving_13 : decode cX15_isLiving 13 = .ok (.getfield 41, 3) := by decide +kernel
theorem dX15_isLiving_16 : decode cX15_isLiving 16 = .ok (.iload_n 1, 1) := by decide +kernel
theorem dX15_isLiving_17 : decode cX15_isLiving 17 = .ok (.baload, 1) := by decide +kernel
theorem dX15_isLiving_18 : decode cX15_isLiving 18 = .ok (.ifCond .ne 7, 3) := by decide +kernel
theorem dX15_isLiving_21 : decode cX15_isLiving 21 = .ok (.iconst 1, 1) := by decide +kernel
theorem dX15_isLiving_22 : decode cX15_isLiving 22 = .ok (.goto 4, 3) := by decide +kernel
theorem dX15_isLiving_25 : decode cX15_isLiving 25 = .ok (.iconst 0, 1) := by decide +kernel
theorem dX15_isLiving_26 : decode cX15_isLiving 26 = .ok (.ireturn, 1) := by decide +kernel
def f_X15_isLiving_b26 (σ : TH) (t0 : Int32) : Option (Int32 × TH) :=
  gt_ (t0 = 0 ∨ t0 = 1) <| some (t0, σ)
set_option maxHeartbeats 4000000 in
set_option maxRecDepth 100000 in
theorem t_X15_isLiving_b26 {l : Launch} {D : va_G} {cy : Nat → ClassId} {ka : Nat → Nat} {σ0 z : TH} {r : Int32}  {σ : TH} {t0 : Int32} (hf : f_X15_isLiving_b26 σ t0 = some (r, z)) : v_ l D cy ka cX15_isLiving RX15 2 (some FieldType.boolean) "isLiving" 0 0 (qf_ D cy σ0 z (some (.int r))) σ0 z σ 26 [] [.int t0] := by
  unfold f_X15_isLiving_b26 at hf
  obtain ⟨hb9, hf⟩ := gt_of hf
  exact v_zret hf (nz_ hb9) dX15_isLiving_26
def f_X15_isLiving_b25 (σ : TH) : Option (Int32 × TH) :=
  f_X15_isLiving_b26 σ (0 : Int32)
set_option maxHeartbeats 4000000 in
set_option maxRecDepth 100000 in
theorem t_X15_isLiving_b25 {l : Launch} {D : va_G} {cy : Nat → ClassId} {ka : Nat → Nat} {σ0 z : TH} {r : Int32}  {σ : TH}  (hf : f_X15_isLiving_b25 σ  = some (r, z)) : v_ l D cy ka cX15_isLiving RX15 2 (some FieldType.boolean) "isLiving" 0 0 (qf_ D cy σ0 z (some (.int r))) σ0 z σ 25 [] [] := by
  unfold f_X15_isLiving_b25 at hf
  refine v_iconst (v := 0) dX15_isLiving_25 (by decide) ?_
  refine v_sub [] (L2 := []) rfl ?_
  exact t_X15_isLiving_b26  hf
/-- LivesAheadModel.isLiving(I)Z -/
def f_X15_isLiving (σ : TH) (p0 : Nat) (p1 : Int32) : Option (Int32 × TH) :=
  if p1 < 0 then (f_X15_isLiving_b25 σ ) else (gt_ (kd_ σ p0 = 17) <| lt_ (fi_ σ 1604 p0) fun x1 => if x1 ≤ p1 then (f_X15_isLiving_b25 σ ) else (lt_ (fr_ σ 1614 p0) fun r2 => nn_ r2 fun a3 => gt_ (kd_ σ a3 = 22) <| gt_ (¬ (p1 < 0 ∨ ln_ σ a3 ≤ p1.toNatClampNeg)) <| lt_ (ai_ σ a3 p1.toNatClampNeg) fun x4 => if x4 = 0 then (f_X15_isLiving_b26 σ (1 : Int32)) else (f_X15_isLiving_b25 σ )))
set_option maxHeartbeats 4000000 in
set_option maxRecDepth 100000 in
theorem c_X15_isLiving {l : Launch} {D : va_G} {cy : Nat → ClassId} {ka : Nat → Nat} {σ z : TH} {p0 : Nat} {p1 : Int32} {r : Int32} (hf : f_X15_isLiving σ p0 p1 = some (r, z)) : ct_ l D cy ka yX15_isLiving 0 0 [va_rf (some p0), .int p1] σ (some (.int r)) z := by
  unfold f_X15_isLiving at hf
  refine v_start (cc := cX15_isLiving) (own := RX15) (maxL := 2) (ret := (some FieldType.boolean)) (nm := "isLiving") (by decide +kernel) kw_1744 rfl rfl (by simp [lg_sl, va_rf_cat, cat_i, cat_l]) ?_
  refine v_eqL (L2 := [(0, va_rf (some p0)), (1, .int p1)]) (by simp [lv_args, va_rf_cat, cat_i, cat_l]) ?_
  refine v_iload_n (x := p1) dX15_isLiving_0 rfl 1 rfl ?_
  refine v_if_lt (tgt := 25) hf dX15_isLiving_1 (by decide) (fun hq hf => ?_) (fun hq hf => ?_)
  · refine v_sub [] (L2 := []) rfl ?_
    exact t_X15_isLiving_b25  hf
  · refine v_iload_n (x := p1) dX15_isLiving_4 rfl 1 rfl ?_
    refine v_aload_n (x := (some p0)) dX15_isLiving_5 rfl 0 rfl ?_
    obtain ⟨hk_p0, hf⟩ := gt_of hf
    refine v_geti cb_16 hk_p0 4 1604 rfl (by decide) rfl (lk_n kw_1461 rfl) hf dX15_isLiving_6 (fun x1 hf => ?_)
    refine v_icmp_ge (tgt := 25) hf dX15_isLiving_9 (by decide) (fun hq hf => ?_) (fun hq hf => ?_)
    · refine v_sub [] (L2 := []) rfl ?_
      exact t_X15_isLiving_b25  hf
    · refine v_aload_n (x := (some p0)) dX15_isLiving_12 rfl 0 rfl ?_
      refine v_getr cb_16 hk_p0 14 1614 rfl (by decide) rfl (lk_n kw_1471 rfl) hf dX15_isLiving_13 (fun r2 hf => ?_)
      refine v_iload_n (x := p1) dX15_isLiving_16 rfl 1 rfl ?_
      obtain ⟨a3, rfl, hf⟩ := nn_of hf
      obtain ⟨hk_a3, hf⟩ := gt_of hf
      refine v_zald hk_a3 hf dX15_isLiving_17 (fun x4 hf => ?_)
      refine v_if_ne (tgt := 25) hf dX15_isLiving_18 (by decide) (fun hq hf => ?_) (fun hq hf => ?_)
      · refine v_iconst (v := 1) dX15_isLiving_21 (by decide) ?_
        refine v_goto (tgt := 26) dX15_isLiving_22 (by decide) ?_
        refine v_sub [] (L2 := []) rfl ?_
        exact t_X15_isLiving_b26  hf
      · refine v_sub [] (L2 := []) rfl ?_
        exact t_X15_isLiving_b25  hf
theorem dX15_storiesOf_0 : decode cX15_storiesOf 0 = .ok (.iconst 0, 1) := by decide +kernel
theorem dX15_storiesOf_1 : decode cX15_storiesOf 1 = .ok (.istore_n 2, 1) := by decide +kernel
theorem dX15_storiesOf_2 : decode cX15_storiesOf 2 = .ok (.iconst 0, 1) := by decide +kernel
theorem dX15_storiesOf_3 : decode cX15_storiesOf 3 = .ok (.istore_n 3, 1) := by decide +kernel
theorem dX15_storiesOf_4 : decode cX15_storiesOf 4 = .ok (.iload_n 3, 1) := by decide +kernel
theorem dX15_storiesOf_5 : decode cX15_storiesOf 5 = .ok (.aload_n 0, 1) := by decide +kernel
theorem dX15_storiesOf_6 : decode cX15_storiesOf 6 = .ok (.getfield 191, 3) := by decide +kernel
theorem dX15_storiesOf_9 : decode cX15_storiesOf 9 = .ok (.if_icmp .ge 27, 3) := by decide +kernel
theorem dX15_storiesOf_12 : decode cX15_storiesOf 12 = .ok (.iload_n 2, 1) := by decide +kernel
theorem dX15_storiesOf_13 : decode cX15_storiesOf 13 = .ok (.aload_n 0, 1) := by decide +kernel
theorem dX15_storiesOf_14 : decode cX15_storiesOf 14 = .ok (.getfield 32, 3) := by decide +kernel
theorem dX15_storiesOf_17 : decode cX15_storiesOf 17 = .ok (.iload_n 3, 1) := by decide +kernel
theorem dX15_storiesOf_18 : decode cX15_storiesOf 18 = .ok (.iaload, 1) := by decide +kernel
theorem dX15_storiesOf_19 : decode cX15_storiesOf 19 = .ok (.iload_n 1, 1) := by decide +kernel
theorem dX15_storiesOf_20 : decode cX15_storiesOf 20 = .ok (.if_icmp .ne 7, 3) := by decide +kernel
theorem dX15_storiesOf_23 : decode cX15_storiesOf 23 = .ok (.iconst 1, 1) := by decide +kernel
theorem dX15_storiesOf_24 : decode cX15_storiesOf 24 = .ok (.goto 4, 3) := by decide +kernel
theorem dX15_storiesOf_27 : decode cX15_storiesOf 27 = .ok (.iconst 0, 1) := by decide +kernel
theorem dX15_storiesOf_28 : decode cX15_storiesOf 28 = .ok (.iadd, 1) := by decide +kernel
theorem dX15_storiesOf_29 : decode cX15_storiesOf 29 = .ok (.istore_n 2, 1) := by decide +kernel
theorem dX15_storiesOf_30 : decode cX15_storiesOf 30 = .ok (.iinc 3 1, 3) := by decide +kernel
theorem dX15_storiesOf_33 : decode cX15_storiesOf 33 = .ok (.goto (-29), 3) := by decide +kernel
theorem dX15_storiesOf_36 : decode cX15_storiesOf 36 = .ok (.iload_n 2, 1) := by decide +kernel
theorem dX15_storiesOf_37 : decode cX15_storiesOf 37 = .ok (.ireturn, 1) := by decide +kernel
def f_X15_storiesOf_b28 (rec_4 : TH → Nat → Int32 → Int32 → Int32 → Option (Int32 × TH)) (σ : TH) (l0 : Nat) (l1 : Int32) (l3 : Int32) (t0 : Int32) (t1 : Int32) : Option (Int32 × TH) :=
  lt_ (t1 + t0) fun x5 => lt_ (l3 + 1) fun x6 => rec_4 σ l0 l1 x5 x6
set_option maxHeartbeats 4000000 in
set_option maxRecDepth 100000 in
theorem t_X15_storiesOf_b28 {l : Launch} {D : va_G} {cy : Nat → ClassId} {ka : Nat → Nat} {σ0 z : TH} {r : Int32} {rec_4 : TH → Nat → Int32 → Int32 → Int32 → Option (Int32 × TH)} (hrec_4 : ∀ (σ : TH) (l0 : Nat) (l1 : Int32) (l2 : Int32) (l3 : Int32), rec_4 σ l0 l1 l2 l3 = some (r, z) → v_ l D cy ka cX15_storiesOf RX15 4 (some FieldType.int) "storiesOf" 0 0 (qf_ D cy σ0 z (some (.int r))) σ0 z σ 4 [(0, va_rf (some l0)), (1, .int l1), (2, .int l2), (3, .int l3)] []) {σ : TH} {l0 : Nat} {l1 : Int32} {l3 : Int32} {t0 : Int32} {t1 : Int32} (hf : f_X15_storiesOf_b28 rec_4 σ l0 l1 l3 t0 t1 = some (r, z)) : v_ l D cy ka cX15_storiesOf RX15 4 (some FieldType.int) "storiesOf" 0 0 (qf_ D cy σ0 z (some (.int r))) σ0 z σ 28 [(0, va_rf (some l0)), (1, .int l1), (3, .int l3)] [.int t0, .int t1] := by
  unfold f_X15_storiesOf_b28 at hf
  refine v_iadd dX15_storiesOf_28 ?_
  obtain ⟨x5, ex5⟩ : ∃ y : Int32, y = t1 + t0 := ⟨_, rfl⟩
  rw [lt_e, ← ex5] at hf
  rw [← ex5]
  refine v_istore_n [(2, .int x5), (0, va_rf (some l0)), (1, .int l1), (3, .int l3)] dX15_storiesOf_29 rfl (by decide) rfl ?_
  obtain ⟨x6, ex6⟩ : ∃ y : Int32, y = l3 + 1 := ⟨_, rfl⟩
  rw [lt_e, ← ex6] at hf
  refine v_iinc (v := x6) [(3, .int x6), (2, .int x5), (0, va_rf (some l0)), (1, .int l1)] dX15_storiesOf_30 3 rfl (by rw [ex6]; rfl) (by decide) rfl ?_
  refine v_goto (tgt := 4) dX15_storiesOf_33 (by decide) ?_
  refine v_sub [2, 3, 1, 0] (L2 := [(0, va_rf (some l0)), (1, .int l1), (2, .int x5), (3, .int x6)]) rfl ?_
  exact hrec_4 _ _ _ _ _ hf
def f_X15_storiesOf_b4 : Nat → TH → Nat → Int32 → Int32 → Int32 → Option (Int32 × TH)
  | 0, _, _, _, _, _ => none
  | n + 1, σ, l0, l1, l2, l3 => gt_ (kd_ σ l0 = 17) <| lt_ (fi_ σ 1605 l0) fun x1 => if x1 ≤ l3 then (some (l2, σ)) else (lt_ (fr_ σ 1611 l0) fun r2 => nn_ r2 fun a3 => gt_ (kd_ σ a3 = 20) <| gt_ (¬ (l3 < 0 ∨ ln_ σ a3 ≤ l3.toNatClampNeg)) <| lt_ (ai_ σ a3 l3.toNatClampNeg) fun x4 => if x4 = l1 then (f_X15_storiesOf_b28 (f_X15_storiesOf_b4 n) σ l0 l1 l3 (1 : Int32) l2) else (f_X15_storiesOf_b28 (f_X15_storiesOf_b4 n) σ l0 l1 l3 (0 : Int32) l2))
set_option maxHeartbeats 4000000 in
set_option maxRecDepth 100000 in
theorem t_X15_storiesOf_b4 {l : Launch} {D : va_G} {cy : Nat → ClassId} {ka : Nat → Nat} {σ0 z : TH} {r : Int32}  : ∀ (n : Nat) (σ : TH) (l0 : Nat) (l1 : Int32) (l2 : Int32) (l3 : Int32), f_X15_storiesOf_b4 n σ l0 l1 l2 l3 = some (r, z) → v_ l D cy ka cX15_storiesOf RX15 4 (some FieldType.int) "storiesOf" 0 0 (qf_ D cy σ0 z (some (.int r))) σ0 z σ 4 [(0, va_rf (some l0)), (1, .int l1), (2, .int l2), (3, .int l3)] [] := by
  intro n
  induction n with
  | zero => intro σ l0 l1 l2 l3 hf; unfold f_X15_storiesOf_b4 at hf; cases hf
  | succ n ih =>
    intro σ l0 l1 l2 l3 hf
    unfold f_X15_storiesOf_b4 at hf
    have hrec_4 := ih
    refine v_iload_n (x := l3) dX15_storiesOf_4 rfl 3 rfl ?_
    refine v_aload_n (x := (some l0)) dX15_storiesOf_5 rfl 0 rfl ?_
    obtain ⟨hk_l0, hf⟩ := gt_of hf
    refine v_geti cb_16 hk_l0 5 1605 rfl (by decide) rfl (lk_n kw_1462 rfl) hf dX15_storiesOf_6 (fun x1 hf => ?_)
    refine v_icmp_ge (tgt := 36) hf dX15_storiesOf_9 (by decide) (fun hq hf => ?_) (fun hq hf => ?_)
    · refine v_iload_n (x := l2) dX15_storiesOf_36 rfl 2 rfl ?_
      exact v_iret hf dX15_storiesOf_37
    · refine v_iload_n (x := l2) dX15_storiesOf_12 rfl 2 rfl ?_
      refine v_aload_n (x := (some l0)) dX15_storiesOf_13 rfl 0 rfl ?_
      refine v_getr cb_16 hk_l0 11 1611 rfl (by decide) rfl (lk_n kw_1468 rfl) hf dX15_storiesOf_14 (fun r2 hf => ?_)
      refine v_iload_n (x := l3) dX15_storiesOf_17 rfl 3 rfl ?_
      obtain ⟨a3, rfl, hf⟩ := nn_of hf
      obtain ⟨hk_a3, hf⟩ := gt_of hf
      refine v_iald hk_a3 hf dX15_storiesOf_18 (fun x4 hf => ?_)
      refine v_iload_n (x := l1) dX15_storiesOf_19 rfl 1 rfl ?_
      refine v_icmp_ne (tgt := 27) hf dX15_storiesOf_20 (by decide) (fun hq hf => ?_) (fun hq hf => ?_)
      · refine v_iconst (v := 1) dX15_storiesOf_23 (by decide) ?_
        refine v_goto (tgt := 28) dX15_storiesOf_24 (by decide) ?_
        refine v_sub [0, 1, 3] (L2 := [(0, va_rf (some l0)), (1, .int l1), (3, .int l3)]) rfl ?_
        exact t_X15_storiesOf_b28 hrec_4 hf
      · refine v_iconst (v := 0) dX15_storiesOf_27 (by decide) ?_
        refine v_sub [0, 1, 3] (L2 := [(0, va_rf (some l0)), (1, .int l1), (3, .int l3)]) rfl ?_
        exact t_X15_storiesOf_b28 hrec_4 hf
/-- LivesAheadModel.storiesOf(I)I -/
def f_X15_storiesOf (σ : TH) (p0 : Nat) (p1 : Int32) : Option (Int32 × TH) :=
  f_X15_storiesOf_b4 fu_ σ p0 p1 (0 : Int32) (0 : Int32)
set_option maxHeartbeats 4000000 in
set_option maxRecDepth 100000 in
theorem c_X15_storiesOf {l : Launch} {D : va_G} {cy : Nat → ClassId} {ka : Nat → Nat} {σ z : TH} {p0 : Nat} {p1 : Int32} {r : Int32} (hf : f_X15_storiesOf σ p0 p1 = some (r, z)) : ct_ l D cy ka yX15_storiesOf 0 0 [va_rf (some p0), .int p1] σ (some (.int r)) z := by
  unfold f_X15_storiesOf at hf
  refine v_start (cc := cX15_storiesOf) (own := RX15) (maxL := 4) (ret := (some FieldType.int)) (nm := "storiesOf") (by decide +kernel) kw_1760 rfl rfl (by simp [lg_sl, va_rf_cat, cat_i, cat_l]) ?_
  refine v_eqL (L2 := [(0, va_rf (some p0)), (1, .int p1)]) (by simp [lv_args, va_rf_cat, cat_i, cat_l]) ?_
  refine v_iconst (v := 0) dX15_storiesOf_0 (by decide) ?_
  refine v_istore_n [(2, .int (0 : Int32)), (0, va_rf (some p0)), (1, .int p1)] dX15_storiesOf_1 rfl (by decide) rfl ?_
  refine v_iconst (v := 0) dX15_storiesOf_2 (by decide) ?_
  refine v_istore_n [(3, .int (0 : Int32)), (2, .int (0 : Int32)), (0, va_rf (some p0)), (1, .int p1)] dX15_storiesOf_3 rfl (by decide) rfl ?_
  refine v_sub [2, 3, 1, 0] (L2 := [(0, va_rf (some p0)), (1, .int p1), (2, .int (0 : Int32)), (3, .int (0 : Int32))]) rfl ?_
  exact t_X15_storiesOf_b4  _ _ _ _ _ _ hf
