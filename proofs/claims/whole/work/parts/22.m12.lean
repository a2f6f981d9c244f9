/-! Functions over the typed heap and contracts, by wip/gen/gen.py: X11_bury X11_check X11_editionAt X11_latestTelling X11_valueNow X11_isWrong X11_correct X11_deadPeople X11_livingWriters X11_count X11_layPicture X11_layQuotes X11_editionOf X11_embargo X11_fact X11_personOf X11_fits X11_fresh X11_freshen X11_hours -/
theorem dX11_bury_0 : decode cX11_bury 0 = .ok (.aload_n 0, 1) := by decide +kernel
theorem dX11_bury_1 : decode cX11_bury 1 = .ok (.iload_n 1, 1) := by decide +kernel
theorem dX11_bury_2 : decode cX11_bury 2 = .ok (.invokevirtual 117, 3) := by decide +kernel
theorem dX11_bury_5 : decode cX11_bury 5 = .ok (.astore_n 2, 1) := by decide +kernel
theorem dX11_bury_6 : decode cX11_bury 6 = .ok (.aload_n 2, 1) := by decide +kernel
theorem dX11_bury_7 : decode cX11_bury 7 = .ok (.ifnonnull 9, 3) := by decide +kernel
theorem dX11_bury_10 : decode cX11_bury 10 = .ok (.aload_n 0, 1) := by decide +kernel
theorem dX11_bury_11 : decode cX11_bury 11 = .ok (.iconst 1, 1) := by decide +kernel
theorem dX11_bury_12 : decode cX11_bury 12 = .ok (.invokevirtual 97, 3) := by decide +kernel
theorem dX11_bury_15 : decode cX11_bury 15 = .ok (.ireturn, 1) := by decide +kernel
theorem dX11_bury_16 : decode cX11_bury 16 = .ok (.aload_n 0, 1) := by decide +kernel
theorem dX11_bury_17 : decode cX11_bury 17 = .ok (.iload_n 1, 1) := by decide +kernel
theorem dX11_bury_18 : decode cX11_bury 18 = .ok (.invokevirtual 132, 3) := by decide +kernel
theorem dX11_bury_21 : decode cX11_bury 21 = .ok (.istore_n 3, 1) := by decide +kernel
theorem dX11_bury_22 : decode cX11_bury 22 = .ok (.iload_n 3, 1) := by decide +kernel
theorem dX11_bury_23 : decode cX11_bury 23 = .ok (.iconst (-1), 1) := by decide +kernel
theorem dX11_bury_24 : decode cX11_bury 24 = .ok (.if_icmp .ne 9, 3) := by decide +kernel
theorem dX11_bury_27 : decode cX11_bury 27 = .ok (.aload_n 0, 1) := by decide +kernel
theorem dX11_bury_28 : decode cX11_bury 28 = .ok (.iconst 5, 1) := by decide +kernel
theorem dX11_bury_29 : decode cX11_bury 29 = .ok (.invokevirtual 97, 3) := by decide +kernel
theorem dX11_bury_32 : decode cX11_bury 32 = .ok (.ireturn, 1) := by decide +kernel
theorem dX11_bury_33 : decode cX11_bury 33 = .ok (.aload_n 2, 1) := by decide +kernel
theorem dX11_bury_34 : decode cX11_bury 34 = .ok (.iconst 0, 1) := by decide +kernel
theorem dX11_bury_35 : decode cX11_bury 35 = .ok (.putfield 135, 3) := by decide +kernel
theorem dX11_bury_38 : decode cX11_bury 38 = .ok (.aload_n 0, 1) := by decide +kernel
theorem dX11_bury_39 : decode cX11_bury 39 = .ok (.aload_n 0, 1) := by decide +kernel
theorem dX11_bury_40 : decode cX11_bury 40 = .ok (.iload_n 1, 1) := by decide +kernel
theorem dX11_bury_41 : decode cX11_bury 41 = .ok (.iload_n 3, 1) := by decide +kernel
theorem dX11_bury_42 : decode cX11_bury 42 = .ok (.invokevirtual 139, 3) := by decide +kernel
theorem dX11_bury_45 : decode cX11_bury 45 = .ok (.invokevirtual 114, 3) := by decide +kernel
theorem dX11_bury_48 : decode cX11_bury 48 = .ok (.ireturn, 1) := by decide +kernel
/-- LivesAhead.bury(I)I -/
def f_X11_bury (σ : TH) (p0 : Nat) (p1 : Int32) : Option (Int32 × TH) :=
  gt_ (kd_ σ p0 = 13) <| bd_ (f_X11_livingWriter σ p0 p1) fun r1 s2 => oc_ r1 (bd_ (f_X11_refused s2 p0 (1 : Int32)) fun x4 s5 => some (x4, s5)) (fun a3 => bd_ (f_X11_heirOf s2 p0 p1) fun x6 s7 => if x6 = (-1 : Int32) then (bd_ (f_X11_refused s7 p0 (5 : Int32)) fun x8 s9 => some (x8, s9)) else (gt_ (kd_ s7 a3 = 12) <| lt_ (si_ s7 1101 a3 (0 : Int32)) fun s10 => bd_ (f_X11_handOver s10 p0 p1 x6) fun x11 s12 => bd_ (f_X11_granted s12 p0 x11) fun x13 s14 => some (x13, s14)))
set_option maxHeartbeats 4000000 in
set_option maxRecDepth 100000 in
theorem c_X11_bury {l : Launch} {D : va_G} {cy : Nat → ClassId} {ka : Nat → Nat} {σ z : TH} {p0 : Nat} {p1 : Int32} {r : Int32} (hf : f_X11_bury σ p0 p1 = some (r, z)) : ct_ l D cy ka yX11_bury 5 112 [va_rf (some p0), .int p1] σ (some (.int r)) z := by
  unfold f_X11_bury at hf
  refine v_start (cc := cX11_bury) (own := RX11) (maxL := 4) (ret := (some FieldType.int)) (nm := "bury") (by decide +kernel) kw_432 rfl rfl (by simp [lg_sl, va_rf_cat, cat_i, cat_l]) ?_
  refine v_eqL (L2 := [(0, va_rf (some p0)), (1, .int p1)]) (by simp [lv_args, va_rf_cat, cat_i, cat_l]) ?_
  refine v_aload_n (x := (some p0)) dX11_bury_0 rfl 0 rfl ?_
  refine v_iload_n (x := p1) dX11_bury_1 rfl 1 rfl ?_
  obtain ⟨hk_p0, hf⟩ := gt_of hf
  obtain ⟨r1, s2, hcs2, hf⟩ := bd_of hf
  have hts2 := c_X11_livingWriter (l := l) (D := D) (cy := cy) (ka := ka) hcs2
  refine v_callV cb_12 hk_p0 (As := [.int p1]) (rest := []) hts2 yb_X11_livingWriter kw_403 kw_405 kp_5 rfl ⟨Nat.le_of_ble_eq_true rfl, Nat.le_of_ble_eq_true rfl⟩ rfl (cat_len (Nat.le_of_ble_eq_true rfl)) dX11_bury_2 ?_
  have hk_p0 := tk_ hts2.1 hk_p0
  show v_ l D cy ka cX11_bury RX11 4 (some FieldType.int) "bury" 5 112 (qf_ D cy σ z (some (.int r))) σ z _ 5 [(0, va_rf (some p0)), (1, .int p1)] [va_rf r1]
  refine v_astore_n [(2, va_rf r1), (0, va_rf (some p0)), (1, .int p1)] dX11_bury_5 rfl (by decide) rfl ?_
  refine v_aload_n (x := r1) dX11_bury_6 rfl 0 rfl ?_
  refine v_ifnonnull2 (tgt := 16) hf dX11_bury_7 (by decide) (fun e9 hf9 => ?_) (fun a3 e9 hf9 => ?_)
  · subst e9
    replace hf := hf9
    clear hf9
    refine v_aload_n (x := (some p0)) dX11_bury_10 rfl 1 rfl ?_
    refine v_iconst (v := 1) dX11_bury_11 (by decide) ?_
    obtain ⟨x4, s5, hcs5, hf⟩ := bd_of hf
    have hts5 := c_X11_refused (l := l) (D := D) (cy := cy) (ka := ka) hcs5
    refine v_callV cb_12 hk_p0 (As := [.int (1 : Int32)]) (rest := []) hts5 yb_X11_refused kw_307 kw_309 kp_0 rfl ⟨Nat.le_of_ble_eq_true rfl, Nat.le_of_ble_eq_true rfl⟩ rfl (cat_len (Nat.le_of_ble_eq_true rfl)) dX11_bury_12 ?_
    have hk_p0 := tk_ hts5.1 hk_p0
    show v_ l D cy ka cX11_bury RX11 4 (some FieldType.int) "bury" 5 112 (qf_ D cy σ z (some (.int r))) σ z _ 15 [(2, va_rf none), (0, va_rf (some p0)), (1, .int p1)] [.int x4]
    exact v_iret hf dX11_bury_15
  · subst e9
    replace hf := hf9
    clear hf9
    refine v_aload_n (x := (some p0)) dX11_bury_16 rfl 1 rfl ?_
    refine v_iload_n (x := p1) dX11_bury_17 rfl 2 rfl ?_
    obtain ⟨x6, s7, hcs7, hf⟩ := bd_of hf
    have hts7 := c_X11_heirOf (l := l) (D := D) (cy := cy) (ka := ka) hcs7
    refine v_callV cb_12 hk_p0 (As := [.int p1]) (rest := []) hts7 yb_X11_heirOf kw_433 kw_435 kp_8 rfl ⟨Nat.le_of_ble_eq_true rfl, Nat.le_of_ble_eq_true rfl⟩ rfl (cat_len (Nat.le_of_ble_eq_true rfl)) dX11_bury_18 ?_
    have hk_p0 := tk_ hts7.1 hk_p0
    show v_ l D cy ka cX11_bury RX11 4 (some FieldType.int) "bury" 5 112 (qf_ D cy σ z (some (.int r))) σ z _ 21 [(2, va_rf (some a3)), (0, va_rf (some p0)), (1, .int p1)] [.int x6]
    refine v_istore_n [(3, .int x6), (2, va_rf (some a3)), (0, va_rf (some p0)), (1, .int p1)] dX11_bury_21 rfl (by decide) rfl ?_
    refine v_iload_n (x := x6) dX11_bury_22 rfl 0 rfl ?_
    refine v_iconst (v := (-1)) dX11_bury_23 (by decide) ?_
    refine v_icmp_ne (tgt := 33) hf dX11_bury_24 (by decide) (fun hq hf => ?_) (fun hq hf => ?_)
    · refine v_aload_n (x := (some p0)) dX11_bury_27 rfl 2 rfl ?_
      refine v_iconst (v := 5) dX11_bury_28 (by decide) ?_
      obtain ⟨x8, s9, hcs9, hf⟩ := bd_of hf
      have hts9 := c_X11_refused (l := l) (D := D) (cy := cy) (ka := ka) hcs9
      refine v_callV cb_12 hk_p0 (As := [.int (5 : Int32)]) (rest := []) hts9 yb_X11_refused kw_307 kw_309 kp_0 rfl ⟨Nat.le_of_ble_eq_true rfl, Nat.le_of_ble_eq_true rfl⟩ rfl (cat_len (Nat.le_of_ble_eq_true rfl)) dX11_bury_29 ?_
      have hk_p0 := tk_ hts9.1 hk_p0
      show v_ l D cy ka cX11_bury RX11 4 (some FieldType.int) "bury" 5 112 (qf_ D cy σ z (some (.int r))) σ z _ 32 [(3, .int x6), (2, va_rf (some a3)), (0, va_rf (some p0)), (1, .int p1)] [.int x8]
      exact v_iret hf dX11_bury_32
    · refine v_aload_n (x := (some a3)) dX11_bury_33 rfl 1 rfl ?_
      refine v_iconst (v := 0) dX11_bury_34 (by decide) ?_
      obtain ⟨hk_a3, hf⟩ := gt_of hf
      refine v_puti2 cb_11 hk_a3 1 1101 rfl (by decide) rfl (lk_n kw_324 rfl) (Or.inl rfl) rfl rfl hf dX11_bury_35 (fun s10 hts10 hf => ?_)
      have hk_p0 := tk_ hts10 hk_p0
      have hk_a3 := tk_ hts10 hk_a3
      refine v_aload_n (x := (some p0)) dX11_bury_38 rfl 2 rfl ?_
      refine v_aload_n (x := (some p0)) dX11_bury_39 rfl 2 rfl ?_
      refine v_iload_n (x := p1) dX11_bury_40 rfl 3 rfl ?_
      refine v_iload_n (x := x6) dX11_bury_41 rfl 0 rfl ?_
      obtain ⟨x11, s12, hcs12, hf⟩ := bd_of hf
      have hts12 := c_X11_handOver (l := l) (D := D) (cy := cy) (ka := ka) hcs12
      refine v_callV cb_12 hk_p0 (As := [.int p1, .int x6]) (rest := [va_rf (some p0)]) hts12 yb_X11_handOver kw_445 kw_447 kp_10 rfl ⟨Nat.le_of_ble_eq_true rfl, Nat.le_of_ble_eq_true rfl⟩ rfl (cat_len (Nat.le_of_ble_eq_true rfl)) dX11_bury_42 ?_
      have hk_p0 := tk_ hts12.1 hk_p0
      have hk_a3 := tk_ hts12.1 hk_a3
      show v_ l D cy ka cX11_bury RX11 4 (some FieldType.int) "bury" 5 112 (qf_ D cy σ z (some (.int r))) σ z _ 45 [(3, .int x6), (2, va_rf (some a3)), (0, va_rf (some p0)), (1, .int p1)] [.int x11, va_rf (some p0)]
      obtain ⟨x13, s14, hcs14, hf⟩ := bd_of hf
      have hts14 := c_X11_granted (l := l) (D := D) (cy := cy) (ka := ka) hcs14
      refine v_callV cb_12 hk_p0 (As := [.int x11]) (rest := []) hts14 yb_X11_granted kw_395 kw_397 kp_4 rfl ⟨Nat.le_of_ble_eq_true rfl, Nat.le_of_ble_eq_true rfl⟩ rfl (cat_len (Nat.le_of_ble_eq_true rfl)) dX11_bury_45 ?_
      have hk_p0 := tk_ hts14.1 hk_p0
      have hk_a3 := tk_ hts14.1 hk_a3
      show v_ l D cy ka cX11_bury RX11 4 (some FieldType.int) "bury" 5 112 (qf_ D cy σ z (some (.int r))) σ z _ 48 [(3, .int x6), (2, va_rf (some a3)), (0, va_rf (some p0)), (1, .int p1)] [.int x13]
      exact v_iret hf dX11_bury_48
theorem dX11_check_0 : decode cX11_check 0 = .ok (.aload_n 0, 1) := by decide +kernel
theorem dX11_check_1 : decode cX11_check 1 = .ok (.iload_n 1, 1) := by decide +kernel
theorem dX11_check_2 : decode cX11_check 2 = .ok (.invokevirtual 149, 3) := by decide +kernel
theorem dX11_check_5 : decode cX11_check 5 = .ok (.astore_n 3, 1) := by decide +kernel
theorem dX11_check_6 : decode cX11_check 6 = .ok (.aload_n 3, 1) := by decide +kernel
theorem dX11_check_7 : decode cX11_check 7 = .ok (.ifnonnull 9, 3) := by decide +kernel
theorem dX11_check_10 : decode cX11_check 10 = .ok (.aload_n 0, 1) := by decide +kernel
theorem dX11_check_11 : decode cX11_check 11 = .ok (.iconst 1, 1) := by decide +kernel
theorem dX11_check_12 : decode cX11_check 12 = .ok (.invokevirtual 121, 3) := by decide +kernel
theorem dX11_check_15 : decode cX11_check 15 = .ok (.ireturn, 1) := by decide +kernel
theorem dX11_check_16 : decode cX11_check 16 = .ok (.iload_n 2, 1) := by decide +kernel
theorem dX11_check_17 : decode cX11_check 17 = .ok (.invokestatic 195, 3) := by decide +kernel
theorem dX11_check_20 : decode cX11_check 20 = .ok (.ifCond .ne 9, 3) := by decide +kernel
theorem dX11_check_23 : decode cX11_check 23 = .ok (.aload_n 0, 1) := by decide +kernel
theorem dX11_check_24 : decode cX11_check 24 = .ok (.iconst 2, 1) := by decide +kernel
theorem dX11_check_25 : decode cX11_check 25 = .ok (.invokevirtual 121, 3) := by decide +kernel
theorem dX11_check_28 : decode cX11_check 28 = .ok (.ireturn, 1) := by decide +kernel
theorem dX11_check_29 : decode cX11_check 29 = .ok (.aload_n 3, 1) := by decide +kernel
theorem dX11_check_30 : decode cX11_check 30 = .ok (.getfield 203, 3) := by decide +kernel
theorem dX11_check_33 : decode cX11_check 33 = .ok (.iload_n 2, 1) := by decide +kernel
theorem dX11_check_34 : decode cX11_check 34 = .ok (.aaload, 1) := by decide +kernel
theorem dX11_check_35 : decode cX11_check 35 = .ok (.astore 4, 2) := by decide +kernel
theorem dX11_check_37 : decode cX11_check 37 = .ok (.aload 4, 2) := by decide +kernel
theorem dX11_check_39 : decode cX11_check 39 = .ok (.ifnonnull 9, 3) := by decide +kernel
theorem dX11_check_42 : decode cX11_check 42 = .ok (.aload_n 0, 1) := by decide +kernel
theorem dX11_check_43 : decode cX11_check 43 = .ok (.iconst 1, 1) := by decide +kernel
theorem dX11_check_44 : decode cX11_check 44 = .ok (.invokevirtual 121, 3) := by decide +kernel
theorem dX11_check_47 : decode cX11_check 47 = .ok (.ireturn, 1) := by decide +kernel
theorem dX11_check_48 : decode cX11_check 48 = .ok (.aload 4, 2) := by decide +kernel
theorem dX11_check_50 : decode cX11_check 50 = .ok (.aload_n 0, 1) := by decide +kernel
theorem dX11_check_51 : decode cX11_check 51 = .ok (.invokevirtual 188, 3) := by decide +kernel
theorem dX11_check_54 : decode cX11_check 54 = .ok (.putfield 213, 3) := by decide +kernel
theorem dX11_check_57 : decode cX11_check 57 = .ok (.aload_n 0, 1) := by decide +kernel
theorem dX11_check_58 : decode cX11_check 58 = .ok (.invokevirtual 128, 3) := by decide +kernel
theorem dX11_check_61 : decode cX11_check 61 = .ok (.ireturn, 1) := by decide +kernel
/-- LivesAhead.check(II)Z -/
def f_X11_check (σ : TH) (p0 : Nat) (p1 : Int32) (p2 : Int32) : Option (Int32 × TH) :=
  gt_ (kd_ σ p0 = 13) <| bd_ (f_X11_personAt σ p0 p1) fun r1 s2 => oc_ r1 (bd_ (f_X11_denied s2 p0 (1 : Int32)) fun x4 s5 => gt_ (x4 = 0 ∨ x4 = 1) <| some (x4, s5)) (fun a3 => bd_ (f_X11_isKind s2 p2) fun x6 s7 => if x6 = 0 then (bd_ (f_X11_denied s7 p0 (2 : Int32)) fun x8 s9 => gt_ (x8 = 0 ∨ x8 = 1) <| some (x8, s9)) else (gt_ (kd_ s7 a3 = 4) <| lt_ (fr_ s7 309 a3) fun r10 => nn_ r10 fun a11 => gt_ (kd_ s7 a11 = 25) <| gt_ (¬ (p2 < 0 ∨ ln_ s7 a11 ≤ p2.toNatClampNeg)) <| lt_ (ar_ s7 a11 p2.toNatClampNeg) fun r12 => oc_ r12 (bd_ (f_X11_denied s7 p0 (1 : Int32)) fun x14 s15 => gt_ (x14 = 0 ∨ x14 = 1) <| some (x14, s15)) (fun a13 => bd_ (f_X11_today s7 p0) fun x16 s17 => gt_ (kd_ s17 a13 = 10) <| lt_ (si_ s17 905 a13 x16) fun s18 => bd_ (f_X11_allowed s18 p0) fun x19 s20 => gt_ (x19 = 0 ∨ x19 = 1) <| some (x19, s20))))
set_option maxHeartbeats 4000000 in
set_option maxRecDepth 100000 in
theorem c_X11_check {l : Launch} {D : va_G} {cy : Nat → ClassId} {ka : Nat → Nat} {σ z : TH} {p0 : Nat} {p1 : Int32} {p2 : Int32} {r : Int32} (hf : f_X11_check σ p0 p1 p2 = some (r, z)) : ct_ l D cy ka yX11_check 4 85 [va_rf (some p0), .int p1, .int p2] σ (some (.int r)) z := by
  unfold f_X11_check at hf
  refine v_start (cc := cX11_check) (own := RX11) (maxL := 5) (ret := (some FieldType.boolean)) (nm := "check") (by decide +kernel) kw_613 rfl rfl (by simp [lg_sl, va_rf_cat, cat_i, cat_l]) ?_
  refine v_eqL (L2 := [(0, va_rf (some p0)), (1, .int p1), (2, .int p2)]) (by simp [lv_args, va_rf_cat, cat_i, cat_l]) ?_
  refine v_aload_n (x := (some p0)) dX11_check_0 rfl 0 rfl ?_
  refine v_iload_n (x := p1) dX11_check_1 rfl 1 rfl ?_
  obtain ⟨hk_p0, hf⟩ := gt_of hf
  obtain ⟨r1, s2, hcs2, hf⟩ := bd_of hf
  have hts2 := c_X11_personAt (l := l) (D := D) (cy := cy) (ka := ka) hcs2
  refine v_callV cb_12 hk_p0 (As := [.int p1]) (rest := []) hts2 yb_X11_personAt kw_526 kw_528 kp_11 rfl ⟨Nat.le_of_ble_eq_true rfl, Nat.le_of_ble_eq_true rfl⟩ rfl (cat_len (Nat.le_of_ble_eq_true rfl)) dX11_check_2 ?_
  have hk_p0 := tk_ hts2.1 hk_p0
  show v_ l D cy ka cX11_check RX11 5 (some FieldType.boolean) "check" 4 85 (qf_ D cy σ z (some (.int r))) σ z _ 5 [(0, va_rf (some p0)), (1, .int p1), (2, .int p2)] [va_rf r1]
  refine v_astore_n [(3, va_rf r1), (0, va_rf (some p0)), (1, .int p1), (2, .int p2)] dX11_check_5 rfl (by decide) rfl ?_
  refine v_aload_n (x := r1) dX11_check_6 rfl 0 rfl ?_
  refine v_ifnonnull2 (tgt := 16) hf dX11_check_7 (by decide) (fun e9 hf9 => ?_) (fun a3 e9 hf9 => ?_)
  · subst e9
    replace hf := hf9
    clear hf9
    refine v_aload_n (x := (some p0)) dX11_check_10 rfl 1 rfl ?_
    refine v_iconst (v := 1) dX11_check_11 (by decide) ?_
    obtain ⟨x4, s5, hcs5, hf⟩ := bd_of hf
    have hts5 := c_X11_denied (l := l) (D := D) (cy := cy) (ka := ka) hcs5
    refine v_callV cb_12 hk_p0 (As := [.int (1 : Int32)]) (rest := []) hts5 yb_X11_denied kw_421 kw_423 kp_6 rfl ⟨Nat.le_of_ble_eq_true rfl, Nat.le_of_ble_eq_true rfl⟩ rfl (cat_len (Nat.le_of_ble_eq_true rfl)) dX11_check_12 ?_
    have hk_p0 := tk_ hts5.1 hk_p0
    show v_ l D cy ka cX11_check RX11 5 (some FieldType.boolean) "check" 4 85 (qf_ D cy σ z (some (.int r))) σ z _ 15 [(3, va_rf none), (0, va_rf (some p0)), (1, .int p1), (2, .int p2)] [.int x4]
    obtain ⟨hb9, hf⟩ := gt_of hf
    exact v_zret hf (nz_ hb9) dX11_check_15
  · subst e9
    replace hf := hf9
    clear hf9
    refine v_iload_n (x := p2) dX11_check_16 rfl 3 rfl ?_
    obtain ⟨x6, s7, hcs7, hf⟩ := bd_of hf
    have hts7 := c_X11_isKind (l := l) (D := D) (cy := cy) (ka := ka) hcs7
    refine v_callS (As := [.int p2]) (rest := []) hts7 yb_X11_isKind kw_568 kw_569 rfl ⟨Nat.le_of_ble_eq_true rfl, Nat.le_of_ble_eq_true rfl⟩ rfl (cat_len (Nat.le_of_ble_eq_true rfl)) dX11_check_17 ?_
    have hk_p0 := tk_ hts7.1 hk_p0
    show v_ l D cy ka cX11_check RX11 5 (some FieldType.boolean) "check" 4 85 (qf_ D cy σ z (some (.int r))) σ z _ 20 [(3, va_rf (some a3)), (0, va_rf (some p0)), (1, .int p1), (2, .int p2)] [.int x6]
    refine v_if_ne (tgt := 29) hf dX11_check_20 (by decide) (fun hq hf => ?_) (fun hq hf => ?_)
    · refine v_aload_n (x := (some p0)) dX11_check_23 rfl 1 rfl ?_
      refine v_iconst (v := 2) dX11_check_24 (by decide) ?_
      obtain ⟨x8, s9, hcs9, hf⟩ := bd_of hf
      have hts9 := c_X11_denied (l := l) (D := D) (cy := cy) (ka := ka) hcs9
      refine v_callV cb_12 hk_p0 (As := [.int (2 : Int32)]) (rest := []) hts9 yb_X11_denied kw_421 kw_423 kp_6 rfl ⟨Nat.le_of_ble_eq_true rfl, Nat.le_of_ble_eq_true rfl⟩ rfl (cat_len (Nat.le_of_ble_eq_true rfl)) dX11_check_25 ?_
      have hk_p0 := tk_ hts9.1 hk_p0
      show v_ l D cy ka cX11_check RX11 5 (some FieldType.boolean) "check" 4 85 (qf_ D cy σ z (some (.int r))) σ z _ 28 [(3, va_rf (some a3)), (0, va_rf (some p0)), (1, .int p1), (2, .int p2)] [.int x8]
      obtain ⟨hb9, hf⟩ := gt_of hf
      exact v_zret hf (nz_ hb9) dX11_check_28
    · refine v_aload_n (x := (some a3)) dX11_check_29 rfl 0 rfl ?_
      obtain ⟨hk_a3, hf⟩ := gt_of hf
      refine v_getr cb_3 hk_a3 9 309 rfl (by decide) rfl (lk_n kw_484 rfl) hf dX11_check_30 (fun r10 hf => ?_)
      refine v_iload_n (x := p2) dX11_check_33 rfl 3 rfl ?_
      obtain ⟨a11, rfl, hf⟩ := nn_of hf
      obtain ⟨hk_a11, hf⟩ := gt_of hf
      refine v_aald 24 5 RX8 hk_a11 (by decide) rfl hf dX11_check_34 (fun r12 hf => ?_)
      refine v_astore [(4, va_rf r12), (3, va_rf (some a3)), (0, va_rf (some p0)), (1, .int p1), (2, .int p2)] dX11_check_35 (by decide) rfl ?_
      refine v_aload (x := r12) dX11_check_37 0 rfl ?_
      refine v_ifnonnull2 (tgt := 48) hf dX11_check_39 (by decide) (fun e9 hf9 => ?_) (fun a13 e9 hf9 => ?_)
      · subst e9
        replace hf := hf9
        clear hf9
        refine v_aload_n (x := (some p0)) dX11_check_42 rfl 2 rfl ?_
        refine v_iconst (v := 1) dX11_check_43 (by decide) ?_
        obtain ⟨x14, s15, hcs15, hf⟩ := bd_of hf
        have hts15 := c_X11_denied (l := l) (D := D) (cy := cy) (ka := ka) hcs15
        refine v_callV cb_12 hk_p0 (As := [.int (1 : Int32)]) (rest := []) hts15 yb_X11_denied kw_421 kw_423 kp_6 rfl ⟨Nat.le_of_ble_eq_true rfl, Nat.le_of_ble_eq_true rfl⟩ rfl (cat_len (Nat.le_of_ble_eq_true rfl)) dX11_check_44 ?_
        have hk_p0 := tk_ hts15.1 hk_p0
        have hk_a3 := tk_ hts15.1 hk_a3
        show v_ l D cy ka cX11_check RX11 5 (some FieldType.boolean) "check" 4 85 (qf_ D cy σ z (some (.int r))) σ z _ 47 [(4, va_rf none), (3, va_rf (some a3)), (0, va_rf (some p0)), (1, .int p1), (2, .int p2)] [.int x14]
        obtain ⟨hb9, hf⟩ := gt_of hf
        exact v_zret hf (nz_ hb9) dX11_check_47
      · subst e9
        replace hf := hf9
        clear hf9
        refine v_aload (x := (some a13)) dX11_check_48 0 rfl ?_
        refine v_aload_n (x := (some p0)) dX11_check_50 rfl 2 rfl ?_
        obtain ⟨x16, s17, hcs17, hf⟩ := bd_of hf
        have hts17 := c_X11_today (l := l) (D := D) (cy := cy) (ka := ka) hcs17
        refine v_callV cb_12 hk_p0 (As := []) (rest := [va_rf (some a13)]) hts17 yb_X11_today kw_538 kw_540 kp_13 rfl ⟨Nat.le_of_ble_eq_true rfl, Nat.le_of_ble_eq_true rfl⟩ rfl (cat_len (Nat.le_of_ble_eq_true rfl)) dX11_check_51 ?_
        have hk_p0 := tk_ hts17.1 hk_p0
        have hk_a3 := tk_ hts17.1 hk_a3
        show v_ l D cy ka cX11_check RX11 5 (some FieldType.boolean) "check" 4 85 (qf_ D cy σ z (some (.int r))) σ z _ 54 [(4, va_rf (some a13)), (3, va_rf (some a3)), (0, va_rf (some p0)), (1, .int p1), (2, .int p2)] [.int x16, va_rf (some a13)]
        obtain ⟨hk_a13, hf⟩ := gt_of hf
        refine v_puti2 cb_9 hk_a13 5 905 rfl (by decide) rfl (lk_n kw_596 rfl) (Or.inl rfl) rfl rfl hf dX11_check_54 (fun s18 hts18 hf => ?_)
        have hk_p0 := tk_ hts18 hk_p0
        have hk_a3 := tk_ hts18 hk_a3
        have hk_a13 := tk_ hts18 hk_a13
        refine v_aload_n (x := (some p0)) dX11_check_57 rfl 2 rfl ?_
        obtain ⟨x19, s20, hcs20, hf⟩ := bd_of hf
        have hts20 := c_X11_allowed (l := l) (D := D) (cy := cy) (ka := ka) hcs20
        refine v_callV cb_12 hk_p0 (As := []) (rest := []) hts20 yb_X11_allowed kw_425 kw_427 kp_7 rfl ⟨Nat.le_of_ble_eq_true rfl, Nat.le_of_ble_eq_true rfl⟩ rfl (cat_len (Nat.le_of_ble_eq_true rfl)) dX11_check_58 ?_
        have hk_p0 := tk_ hts20.1 hk_p0
        have hk_a3 := tk_ hts20.1 hk_a3
        have hk_a13 := tk_ hts20.1 hk_a13
        show v_ l D cy ka cX11_check RX11 5 (some FieldType.boolean) "check" 4 85 (qf_ D cy σ z (some (.int r))) σ z _ 61 [(4, va_rf (some a13)), (3, va_rf (some a3)), (0, va_rf (some p0)), (1, .int p1), (2, .int p2)] [.int x19]
        obtain ⟨hb9, hf⟩ := gt_of hf
        exact v_zret hf (nz_ hb9) dX11_check_61
theorem dX11_editionAt_0 : decode cX11_editionAt 0 = .ok (.iload_n 1, 1) := by decide +kernel
theorem dX11_editionAt_1 : decode cX11_editionAt 1 = .ok (.iconst 0, 1) := by decide +kernel
theorem dX11_editionAt_2 : decode cX11_editionAt 2 = .ok (.aload_n 0, 1) := by decide +kernel
theorem dX11_editionAt_3 : decode cX11_editionAt 3 = .ok (.getfield 31, 3) := by decide +kernel
theorem dX11_editionAt_6 : decode cX11_editionAt 6 = .ok (.invokevirtual 101, 3) := by decide +kernel
theorem dX11_editionAt_9 : decode cX11_editionAt 9 = .ok (.iconst 1, 1) := by decide +kernel
theorem dX11_editionAt_10 : decode cX11_editionAt 10 = .ok (.isub, 1) := by decide +kernel
theorem dX11_editionAt_11 : decode cX11_editionAt 11 = .ok (.invokestatic 93, 3) := by decide +kernel
theorem dX11_editionAt_14 : decode cX11_editionAt 14 = .ok (.ifCond .eq 17, 3) := by decide +kernel
theorem dX11_editionAt_17 : decode cX11_editionAt 17 = .ok (.aload_n 0, 1) := by decide +kernel
theorem dX11_editionAt_18 : decode cX11_editionAt 18 = .ok (.getfield 31, 3) := by decide +kernel
theorem dX11_editionAt_21 : decode cX11_editionAt 21 = .ok (.iload_n 1, 1) := by decide +kernel
theorem dX11_editionAt_22 : decode cX11_editionAt 22 = .ok (.invokevirtual 238, 3) := by decide +kernel
theorem dX11_editionAt_25 : decode cX11_editionAt 25 = .ok (.checkcast 381, 3) := by decide +kernel
theorem dX11_editionAt_28 : decode cX11_editionAt 28 = .ok (.goto 4, 3) := by decide +kernel
theorem dX11_editionAt_31 : decode cX11_editionAt 31 = .ok (.aconst_null, 1) := by decide +kernel
theorem dX11_editionAt_32 : decode cX11_editionAt 32 = .ok (.areturn, 1) := by decide +kernel
def f_X11_editionAt_b32 (σ : TH) (t0 : Option Nat) : Option (Option Nat × TH) :=
  some (t0, σ)
set_option maxHeartbeats 4000000 in
set_option maxRecDepth 100000 in
theorem t_X11_editionAt_b32 {l : Launch} {D : va_G} {cy : Nat → ClassId} {ka : Nat → Nat} {σ0 z : TH} {r : Option Nat}  {σ : TH} {t0 : Option Nat} (hf : f_X11_editionAt_b32 σ t0 = some (r, z)) : v_ l D cy ka cX11_editionAt RX11 2 (some (FieldType.object "LivesAhead$Edition")) "editionAt" 3 64 (qf_ D cy σ0 z (some (va_rf r))) σ0 z σ 32 [] [va_rf t0] := by
  unfold f_X11_editionAt_b32 at hf
  exact v_aret (x := t0) hf (Or.inl ⟨_, rfl⟩) dX11_editionAt_32
/-- LivesAhead.editionAt(I)LLivesAhead$Edition; -/
def f_X11_editionAt (σ : TH) (p0 : Nat) (p1 : Int32) : Option (Option Nat × TH) :=
  gt_ (kd_ σ p0 = 13) <| lt_ (fr_ σ 1206 p0) fun r1 => nn_ r1 fun a2 => gt_ (kd_ σ a2 = 1) <| bd_ (f_Jx4a65c_size_8abf5 σ a2) fun x3 s4 => bd_ (f_X11_within s4 p1 (0 : Int32) (x3 - (1 : Int32))) fun x5 s6 => if x5 = 0 then (f_X11_editionAt_b32 s6 none) else (lt_ (fr_ s6 1206 p0) fun r7 => nn_ r7 fun a8 => gt_ (kd_ s6 a8 = 1) <| bd_ (f_Jx4a65c_get_915e3 s6 a8 p1) fun r9 s10 => gt_ (Option.elim r9 3 (kd_ s10) = 3) <| f_X11_editionAt_b32 s10 r9)
set_option maxHeartbeats 4000000 in
set_option maxRecDepth 100000 in
theorem c_X11_editionAt {l : Launch} {D : va_G} {cy : Nat → ClassId} {ka : Nat → Nat} {σ z : TH} {p0 : Nat} {p1 : Int32} {r : Option Nat} (hf : f_X11_editionAt σ p0 p1 = some (r, z)) : ct_ l D cy ka yX11_editionAt 3 64 [va_rf (some p0), .int p1] σ (some (va_rf r)) z := by
  unfold f_X11_editionAt at hf
  refine v_start (cc := cX11_editionAt) (own := RX11) (maxL := 2) (ret := (some (FieldType.object "LivesAhead$Edition"))) (nm := "editionAt") (by decide +kernel) kw_1246 rfl rfl (by simp [lg_sl, va_rf_cat, cat_i, cat_l]) ?_
  refine v_eqL (L2 := [(0, va_rf (some p0)), (1, .int p1)]) (by simp [lv_args, va_rf_cat, cat_i, cat_l]) ?_
  refine v_iload_n (x := p1) dX11_editionAt_0 rfl 1 rfl ?_
  refine v_iconst (v := 0) dX11_editionAt_1 (by decide) ?_
  refine v_aload_n (x := (some p0)) dX11_editionAt_2 rfl 0 rfl ?_
  obtain ⟨hk_p0, hf⟩ := gt_of hf
  refine v_getr cb_12 hk_p0 6 1206 rfl (by decide) rfl (lk_n kw_245 rfl) hf dX11_editionAt_3 (fun r1 hf => ?_)
  obtain ⟨a2, rfl, hf⟩ := nn_of hf
  obtain ⟨hk_a2, hf⟩ := gt_of hf
  obtain ⟨x3, s4, hcs4, hf⟩ := bd_of hf
  have hts4 := c_Jx4a65c_size_8abf5 (l := l) (D := D) (cy := cy) (ka := ka) hcs4
  refine v_callV cb_0 hk_a2 (As := []) (rest := [.int (0 : Int32), .int p1]) hts4 yb_Jx4a65c_size_8abf5 kw_311 kw_312 kw_313 rfl ⟨Nat.le_of_ble_eq_true rfl, Nat.le_of_ble_eq_true rfl⟩ rfl (cat_len (Nat.le_of_ble_eq_true rfl)) dX11_editionAt_6 ?_
  have hk_p0 := tk_ hts4.1 hk_p0
  show v_ l D cy ka cX11_editionAt RX11 2 (some (FieldType.object "LivesAhead$Edition")) "editionAt" 3 64 (qf_ D cy σ z (some (va_rf r))) σ z _ 9 [(0, va_rf (some p0)), (1, .int p1)] [.int x3, .int (0 : Int32), .int p1]
  refine v_iconst (v := 1) dX11_editionAt_9 (by decide) ?_
  refine v_isub dX11_editionAt_10 ?_
  obtain ⟨x5, s6, hcs6, hf⟩ := bd_of hf
  have hts6 := c_X11_within (l := l) (D := D) (cy := cy) (ka := ka) hcs6
  refine v_callS (As := [.int p1, .int (0 : Int32), .int (x3 - (1 : Int32))]) (rest := []) hts6 yb_X11_within kw_304 kw_305 rfl ⟨Nat.le_of_ble_eq_true rfl, Nat.le_of_ble_eq_true rfl⟩ rfl (cat_len (Nat.le_of_ble_eq_true rfl)) dX11_editionAt_11 ?_
  have hk_p0 := tk_ hts6.1 hk_p0
  show v_ l D cy ka cX11_editionAt RX11 2 (some (FieldType.object "LivesAhead$Edition")) "editionAt" 3 64 (qf_ D cy σ z (some (va_rf r))) σ z _ 14 [(0, va_rf (some p0)), (1, .int p1)] [.int x5]
  refine v_if_eq (tgt := 31) hf dX11_editionAt_14 (by decide) (fun hq hf => ?_) (fun hq hf => ?_)
  · refine v_null dX11_editionAt_31 ?_
    refine v_sub [] (L2 := []) rfl ?_
    exact t_X11_editionAt_b32  hf
  · refine v_aload_n (x := (some p0)) dX11_editionAt_17 rfl 0 rfl ?_
    refine v_getr cb_12 hk_p0 6 1206 rfl (by decide) rfl (lk_n kw_245 rfl) hf dX11_editionAt_18 (fun r7 hf => ?_)
    refine v_iload_n (x := p1) dX11_editionAt_21 rfl 1 rfl ?_
    obtain ⟨a8, rfl, hf⟩ := nn_of hf
    obtain ⟨hk_a8, hf⟩ := gt_of hf
    obtain ⟨r9, s10, hcs10, hf⟩ := bd_of hf
    have hts10 := c_Jx4a65c_get_915e3 (l := l) (D := D) (cy := cy) (ka := ka) hcs10
    refine v_callV cb_0 hk_a8 (As := [.int p1]) (rest := []) hts10 yb_Jx4a65c_get_915e3 kw_407 kw_408 kw_409 rfl ⟨Nat.le_of_ble_eq_true rfl, Nat.le_of_ble_eq_true rfl⟩ rfl (cat_len (Nat.le_of_ble_eq_true rfl)) dX11_editionAt_22 ?_
    have hk_p0 := tk_ hts10.1 hk_p0
    show v_ l D cy ka cX11_editionAt RX11 2 (some (FieldType.object "LivesAhead$Edition")) "editionAt" 3 64 (qf_ D cy σ z (some (va_rf r))) σ z _ 25 [(0, va_rf (some p0)), (1, .int p1)] [va_rf r9]
    refine v_cast cb_2 3 rfl kw_1172 hf dX11_editionAt_25 (fun hf => ?_)
    refine v_goto (tgt := 32) dX11_editionAt_28 (by decide) ?_
    refine v_sub [] (L2 := []) rfl ?_
    exact t_X11_editionAt_b32  hf
theorem dX11_latestTelling_0 : decode cX11_latestTelling 0 = .ok (.aload_n 0, 1) := by decide +kernel
theorem dX11_latestTelling_1 : decode cX11_latestTelling 1 = .ok (.iload_n 1, 1) := by decide +kernel
theorem dX11_latestTelling_2 : decode cX11_latestTelling 2 = .ok (.invokevirtual 149, 3) := by decide +kernel
theorem dX11_latestTelling_5 : decode cX11_latestTelling 5 = .ok (.astore_n 3, 1) := by decide +kernel
theorem dX11_latestTelling_6 : decode cX11_latestTelling 6 = .ok (.aload_n 3, 1) := by decide +kernel
theorem dX11_latestTelling_7 : decode cX11_latestTelling 7 = .ok (.ifnull 10, 3) := by decide +kernel
theorem dX11_latestTelling_10 : decode cX11_latestTelling 10 = .ok (.iload_n 2, 1) := by decide +kernel
theorem dX11_latestTelling_11 : decode cX11_latestTelling 11 = .ok (.invokestatic 195, 3) := by decide +kernel
theorem dX11_latestTelling_14 : decode cX11_latestTelling 14 = .ok (.ifCond .ne 7, 3) := by decide +kernel
theorem dX11_latestTelling_17 : decode cX11_latestTelling 17 = .ok (.aconst_null, 1) := by decide +kernel
theorem dX11_latestTelling_18 : decode cX11_latestTelling 18 = .ok (.goto 9, 3) := by decide +kernel
theorem dX11_latestTelling_21 : decode cX11_latestTelling 21 = .ok (.aload_n 3, 1) := by decide +kernel
theorem dX11_latestTelling_22 : decode cX11_latestTelling 22 = .ok (.getfield 203, 3) := by decide +kernel
theorem dX11_latestTelling_25 : decode cX11_latestTelling 25 = .ok (.iload_n 2, 1) := by decide +kernel
theorem dX11_latestTelling_26 : decode cX11_latestTelling 26 = .ok (.aaload, 1) := by decide +kernel
theorem dX11_latestTelling_27 : decode cX11_latestTelling 27 = .ok (.areturn, 1) := by decide +kernel
def f_X11_latestTelling_b27 (σ : TH) (t0 : Option Nat) : Option (Option Nat × TH) :=
  some (t0, σ)
set_option maxHeartbeats 4000000 in
set_option maxRecDepth 100000 in
theorem t_X11_latestTelling_b27 {l : Launch} {D : va_G} {cy : Nat → ClassId} {ka : Nat → Nat} {σ0 z : TH} {r : Option Nat}  {σ : TH} {t0 : Option Nat} (hf : f_X11_latestTelling_b27 σ t0 = some (r, z)) : v_ l D cy ka cX11_latestTelling RX11 4 (some (FieldType.object "LivesAhead$Telling")) "latestTelling" 4 85 (qf_ D cy σ0 z (some (va_rf r))) σ0 z σ 27 [] [va_rf t0] := by
  unfold f_X11_latestTelling_b27 at hf
  exact v_aret (x := t0) hf (Or.inl ⟨_, rfl⟩) dX11_latestTelling_27
def f_X11_latestTelling_b17 (σ : TH) : Option (Option Nat × TH) :=
  f_X11_latestTelling_b27 σ none
set_option maxHeartbeats 4000000 in
set_option maxRecDepth 100000 in
theorem t_X11_latestTelling_b17 {l : Launch} {D : va_G} {cy : Nat → ClassId} {ka : Nat → Nat} {σ0 z : TH} {r : Option Nat}  {σ : TH}  (hf : f_X11_latestTelling_b17 σ  = some (r, z)) : v_ l D cy ka cX11_latestTelling RX11 4 (some (FieldType.object "LivesAhead$Telling")) "latestTelling" 4 85 (qf_ D cy σ0 z (some (va_rf r))) σ0 z σ 17 [] [] := by
  unfold f_X11_latestTelling_b17 at hf
  refine v_null dX11_latestTelling_17 ?_
  refine v_goto (tgt := 27) dX11_latestTelling_18 (by decide) ?_
  refine v_sub [] (L2 := []) rfl ?_
  exact t_X11_latestTelling_b27  hf
/-- LivesAhead.latestTelling(II)LLivesAhead$Telling; -/
def f_X11_latestTelling (σ : TH) (p0 : Nat) (p1 : Int32) (p2 : Int32) : Option (Option Nat × TH) :=
  gt_ (kd_ σ p0 = 13) <| bd_ (f_X11_personAt σ p0 p1) fun r1 s2 => oc_ r1 (f_X11_latestTelling_b17 s2 ) (fun a3 => bd_ (f_X11_isKind s2 p2) fun x4 s5 => if x4 = 0 then (f_X11_latestTelling_b17 s5 ) else (gt_ (kd_ s5 a3 = 4) <| lt_ (fr_ s5 309 a3) fun r6 => nn_ r6 fun a7 => gt_ (kd_ s5 a7 = 25) <| gt_ (¬ (p2 < 0 ∨ ln_ s5 a7 ≤ p2.toNatClampNeg)) <| lt_ (ar_ s5 a7 p2.toNatClampNeg) fun r8 => f_X11_latestTelling_b27 s5 r8))
set_option maxHeartbeats 4000000 in
set_option maxRecDepth 100000 in
theorem c_X11_latestTelling {l : Launch} {D : va_G} {cy : Nat → ClassId} {ka : Nat → Nat} {σ z : TH} {p0 : Nat} {p1 : Int32} {p2 : Int32} {r : Option Nat} (hf : f_X11_latestTelling σ p0 p1 p2 = some (r, z)) : ct_ l D cy ka yX11_latestTelling 4 85 [va_rf (some p0), .int p1, .int p2] σ (some (va_rf r)) z := by
  unfold f_X11_latestTelling at hf
  refine v_start (cc := cX11_latestTelling) (own := RX11) (maxL := 4) (ret := (some (FieldType.object "LivesAhead$Telling"))) (nm := "latestTelling") (by decide +kernel) kw_621 rfl rfl (by simp [lg_sl, va_rf_cat, cat_i, cat_l]) ?_
  refine v_eqL (L2 := [(0, va_rf (some p0)), (1, .int p1), (2, .int p2)]) (by simp [lv_args, va_rf_cat, cat_i, cat_l]) ?_
  refine v_aload_n (x := (some p0)) dX11_latestTelling_0 rfl 0 rfl ?_
  refine v_iload_n (x := p1) dX11_latestTelling_1 rfl 1 rfl ?_
  obtain ⟨hk_p0, hf⟩ := gt_of hf
  obtain ⟨r1, s2, hcs2, hf⟩ := bd_of hf
  have hts2 := c_X11_personAt (l := l) (D := D) (cy := cy) (ka := ka) hcs2
  refine v_callV cb_12 hk_p0 (As := [.int p1]) (rest := []) hts2 yb_X11_personAt kw_526 kw_528 kp_11 rfl ⟨Nat.le_of_ble_eq_true rfl, Nat.le_of_ble_eq_true rfl⟩ rfl (cat_len (Nat.le_of_ble_eq_true rfl)) dX11_latestTelling_2 ?_
  have hk_p0 := tk_ hts2.1 hk_p0
  show v_ l D cy ka cX11_latestTelling RX11 4 (some (FieldType.object "LivesAhead$Telling")) "latestTelling" 4 85 (qf_ D cy σ z (some (va_rf r))) σ z _ 5 [(0, va_rf (some p0)), (1, .int p1), (2, .int p2)] [va_rf r1]
  refine v_astore_n [(3, va_rf r1), (0, va_rf (some p0)), (1, .int p1), (2, .int p2)] dX11_latestTelling_5 rfl (by decide) rfl ?_
  refine v_aload_n (x := r1) dX11_latestTelling_6 rfl 0 rfl ?_
  refine v_ifnull2 (tgt := 17) hf dX11_latestTelling_7 (by decide) (fun e9 hf9 => ?_) (fun a3 e9 hf9 => ?_)
  · subst e9
    replace hf := hf9
    clear hf9
    refine v_sub [] (L2 := []) rfl ?_
    exact t_X11_latestTelling_b17  hf
  · subst e9
    replace hf := hf9
    clear hf9
    refine v_iload_n (x := p2) dX11_latestTelling_10 rfl 3 rfl ?_
    obtain ⟨x4, s5, hcs5, hf⟩ := bd_of hf
    have hts5 := c_X11_isKind (l := l) (D := D) (cy := cy) (ka := ka) hcs5
    refine v_callS (As := [.int p2]) (rest := []) hts5 yb_X11_isKind kw_568 kw_569 rfl ⟨Nat.le_of_ble_eq_true rfl, Nat.le_of_ble_eq_true rfl⟩ rfl (cat_len (Nat.le_of_ble_eq_true rfl)) dX11_latestTelling_11 ?_
    have hk_p0 := tk_ hts5.1 hk_p0
    show v_ l D cy ka cX11_latestTelling RX11 4 (some (FieldType.object "LivesAhead$Telling")) "latestTelling" 4 85 (qf_ D cy σ z (some (va_rf r))) σ z _ 14 [(3, va_rf (some a3)), (0, va_rf (some p0)), (1, .int p1), (2, .int p2)] [.int x4]
    refine v_if_ne (tgt := 21) hf dX11_latestTelling_14 (by decide) (fun hq hf => ?_) (fun hq hf => ?_)
    · refine v_sub [] (L2 := []) rfl ?_
      exact t_X11_latestTelling_b17  hf
    · refine v_aload_n (x := (some a3)) dX11_latestTelling_21 rfl 0 rfl ?_
      obtain ⟨hk_a3, hf⟩ := gt_of hf
      refine v_getr cb_3 hk_a3 9 309 rfl (by decide) rfl (lk_n kw_484 rfl) hf dX11_latestTelling_22 (fun r6 hf => ?_)
      refine v_iload_n (x := p2) dX11_latestTelling_25 rfl 3 rfl ?_
      obtain ⟨a7, rfl, hf⟩ := nn_of hf
      obtain ⟨hk_a7, hf⟩ := gt_of hf
      refine v_aald 24 5 RX8 hk_a7 (by decide) rfl hf dX11_latestTelling_26 (fun r8 hf => ?_)
      refine v_sub [] (L2 := []) rfl ?_
      exact t_X11_latestTelling_b27  hf
theorem dX11_valueNow_0 : decode cX11_valueNow 0 = .ok (.aload_n 0, 1) := by decide +kernel
theorem dX11_valueNow_1 : decode cX11_valueNow 1 = .ok (.iload_n 1, 1) := by decide +kernel
theorem dX11_valueNow_2 : decode cX11_valueNow 2 = .ok (.iload_n 2, 1) := by decide +kernel
theorem dX11_valueNow_3 : decode cX11_valueNow 3 = .ok (.invokevirtual 216, 3) := by decide +kernel
theorem dX11_valueNow_6 : decode cX11_valueNow 6 = .ok (.astore 4, 2) := by decide +kernel
theorem dX11_valueNow_8 : decode cX11_valueNow 8 = .ok (.aload 4, 2) := by decide +kernel
theorem dX11_valueNow_10 : decode cX11_valueNow 10 = .ok (.ifnonnull 7, 3) := by decide +kernel
theorem dX11_valueNow_13 : decode cX11_valueNow 13 = .ok (.iload_n 3, 1) := by decide +kernel
theorem dX11_valueNow_14 : decode cX11_valueNow 14 = .ok (.goto 8, 3) := by decide +kernel
theorem dX11_valueNow_17 : decode cX11_valueNow 17 = .ok (.aload 4, 2) := by decide +kernel
theorem dX11_valueNow_19 : decode cX11_valueNow 19 = .ok (.getfield 221, 3) := by decide +kernel
theorem dX11_valueNow_22 : decode cX11_valueNow 22 = .ok (.ireturn, 1) := by decide +kernel
def f_X11_valueNow_b22 (σ : TH) (t0 : Int32) : Option (Int32 × TH) :=
  some (t0, σ)
set_option maxHeartbeats 4000000 in
set_option maxRecDepth 100000 in
theorem t_X11_valueNow_b22 {l : Launch} {D : va_G} {cy : Nat → ClassId} {ka : Nat → Nat} {σ0 z : TH} {r : Int32}  {σ : TH} {t0 : Int32} (hf : f_X11_valueNow_b22 σ t0 = some (r, z)) : v_ l D cy ka cX11_valueNow RX11 5 (some FieldType.int) "valueNow" 5 108 (qf_ D cy σ0 z (some (.int r))) σ0 z σ 22 [] [.int t0] := by
  unfold f_X11_valueNow_b22 at hf
  exact v_iret hf dX11_valueNow_22
/-- LivesAhead.valueNow(III)I -/
def f_X11_valueNow (σ : TH) (p0 : Nat) (p1 : Int32) (p2 : Int32) (p3 : Int32) : Option (Int32 × TH) :=
  gt_ (kd_ σ p0 = 13) <| bd_ (f_X11_latestTelling σ p0 p1 p2) fun r1 s2 => oc_ r1 (f_X11_valueNow_b22 s2 p3) (fun a3 => gt_ (kd_ s2 a3 = 10) <| lt_ (fi_ s2 900 a3) fun x4 => f_X11_valueNow_b22 s2 x4)
set_option maxHeartbeats 4000000 in
set_option maxRecDepth 100000 in
theorem c_X11_valueNow {l : Launch} {D : va_G} {cy : Nat → ClassId} {ka : Nat → Nat} {σ z : TH} {p0 : Nat} {p1 : Int32} {p2 : Int32} {p3 : Int32} {r : Int32} (hf : f_X11_valueNow σ p0 p1 p2 p3 = some (r, z)) : ct_ l D cy ka yX11_valueNow 5 108 [va_rf (some p0), .int p1, .int p2, .int p3] σ (some (.int r)) z := by
  unfold f_X11_valueNow at hf
  refine v_start (cc := cX11_valueNow) (own := RX11) (maxL := 5) (ret := (some FieldType.int)) (nm := "valueNow") (by decide +kernel) kw_1258 rfl rfl (by simp [lg_sl, va_rf_cat, cat_i, cat_l]) ?_
  refine v_eqL (L2 := [(0, va_rf (some p0)), (1, .int p1), (2, .int p2), (3, .int p3)]) (by simp [lv_args, va_rf_cat, cat_i, cat_l]) ?_
  refine v_aload_n (x := (some p0)) dX11_valueNow_0 rfl 0 rfl ?_
  refine v_iload_n (x := p1) dX11_valueNow_1 rfl 1 rfl ?_
  refine v_iload_n (x := p2) dX11_valueNow_2 rfl 2 rfl ?_
  obtain ⟨hk_p0, hf⟩ := gt_of hf
  obtain ⟨r1, s2, hcs2, hf⟩ := bd_of hf
  have hts2 := c_X11_latestTelling (l := l) (D := D) (cy := cy) (ka := ka) hcs2
  refine v_callV cb_12 hk_p0 (As := [.int p1, .int p2]) (rest := []) hts2 yb_X11_latestTelling kw_618 kw_620 kp_16 rfl ⟨Nat.le_of_ble_eq_true rfl, Nat.le_of_ble_eq_true rfl⟩ rfl (cat_len (Nat.le_of_ble_eq_true rfl)) dX11_valueNow_3 ?_
  have hk_p0 := tk_ hts2.1 hk_p0
  show v_ l D cy ka cX11_valueNow RX11 5 (some FieldType.int) "valueNow" 5 108 (qf_ D cy σ z (some (.int r))) σ z _ 6 [(0, va_rf (some p0)), (1, .int p1), (2, .int p2), (3, .int p3)] [va_rf r1]
  refine v_astore [(4, va_rf r1), (0, va_rf (some p0)), (1, .int p1), (2, .int p2), (3, .int p3)] dX11_valueNow_6 (by decide) rfl ?_
  refine v_aload (x := r1) dX11_valueNow_8 0 rfl ?_
  refine v_ifnonnull2 (tgt := 17) hf dX11_valueNow_10 (by decide) (fun e9 hf9 => ?_) (fun a3 e9 hf9 => ?_)
  · subst e9
    replace hf := hf9
    clear hf9
    refine v_iload_n (x := p3) dX11_valueNow_13 rfl 4 rfl ?_
    refine v_goto (tgt := 22) dX11_valueNow_14 (by decide) ?_
    refine v_sub [] (L2 := []) rfl ?_
    exact t_X11_valueNow_b22  hf
  · subst e9
    replace hf := hf9
    clear hf9
    refine v_aload (x := (some a3)) dX11_valueNow_17 0 rfl ?_
    obtain ⟨hk_a3, hf⟩ := gt_of hf
    refine v_geti cb_9 hk_a3 0 900 rfl (by decide) rfl (lk_n kw_586 rfl) hf dX11_valueNow_19 (fun x4 hf => ?_)
    refine v_sub [] (L2 := []) rfl ?_
    exact t_X11_valueNow_b22  hf
theorem dX11_isWrong_0 : decode cX11_isWrong 0 = .ok (.aload_n 1, 1) := by decide +kernel
theorem dX11_isWrong_1 : decode cX11_isWrong 1 = .ok (.iload_n 2, 1) := by decide +kernel
theorem dX11_isWrong_2 : decode cX11_isWrong 2 = .ok (.invokevirtual 418, 3) := by decide +kernel
theorem dX11_isWrong_5 : decode cX11_isWrong 5 = .ok (.ifCond .ne 5, 3) := by decide +kernel
theorem dX11_isWrong_8 : decode cX11_isWrong 8 = .ok (.iconst 0, 1) := by decide +kernel
theorem dX11_isWrong_9 : decode cX11_isWrong 9 = .ok (.ireturn, 1) := by decide +kernel
theorem dX11_isWrong_10 : decode cX11_isWrong 10 = .ok (.aload_n 1, 1) := by decide +kernel
theorem dX11_isWrong_11 : decode cX11_isWrong 11 = .ok (.getfield 421, 3) := by decide +kernel
theorem dX11_isWrong_14 : decode cX11_isWrong 14 = .ok (.iload_n 2, 1) := by decide +kernel
theorem dX11_isWrong_15 : decode cX11_isWrong 15 = .ok (.iaload, 1) := by decide +kernel
theorem dX11_isWrong_16 : decode cX11_isWrong 16 = .ok (.istore_n 3, 1) := by decide +kernel
theorem dX11_isWrong_17 : decode cX11_isWrong 17 = .ok (.aload_n 0, 1) := by decide +kernel
theorem dX11_isWrong_18 : decode cX11_isWrong 18 = .ok (.aload_n 1, 1) := by decide +kernel
theorem dX11_isWrong_19 : decode cX11_isWrong 19 = .ok (.getfield 401, 3) := by decide +kernel
theorem dX11_isWrong_22 : decode cX11_isWrong 22 = .ok (.iload_n 2, 1) := by decide +kernel
theorem dX11_isWrong_23 : decode cX11_isWrong 23 = .ok (.iload_n 3, 1) := by decide +kernel
theorem dX11_isWrong_24 : decode cX11_isWrong 24 = .ok (.invokevirtual 424, 3) := by decide +kernel
theorem dX11_isWrong_27 : decode cX11_isWrong 27 = .ok (.iload_n 3, 1) := by decide +kernel
theorem dX11_isWrong_28 : decode cX11_isWrong 28 = .ok (.if_icmp .eq 7, 3) := by decide +kernel
theorem dX11_isWrong_31 : decode cX11_isWrong 31 = .ok (.iconst 1, 1) := by decide +kernel
theorem dX11_isWrong_32 : decode cX11_isWrong 32 = .ok (.goto 4, 3) := by decide +kernel
theorem dX11_isWrong_35 : decode cX11_isWrong 35 = .ok (.iconst 0, 1) := by decide +kernel
theorem dX11_isWrong_36 : decode cX11_isWrong 36 = .ok (.ireturn, 1) := by decide +kernel
def f_X11_isWrong_b36 (σ : TH) (t0 : Int32) : Option (Int32 × TH) :=
  gt_ (t0 = 0 ∨ t0 = 1) <| some (t0, σ)
set_option maxHeartbeats 4000000 in
set_option maxRecDepth 100000 in
theorem t_X11_isWrong_b36 {l : Launch} {D : va_G} {cy : Nat → ClassId} {ka : Nat → Nat} {σ0 z : TH} {r : Int32}  {σ : TH} {t0 : Int32} (hf : f_X11_isWrong_b36 σ t0 = some (r, z)) : v_ l D cy ka cX11_isWrong RX11 4 (some FieldType.boolean) "isWrong" 6 132 (qf_ D cy σ0 z (some (.int r))) σ0 z σ 36 [] [.int t0] := by
  unfold f_X11_isWrong_b36 at hf
  obtain ⟨hb9, hf⟩ := gt_of hf
  exact v_zret hf (nz_ hb9) dX11_isWrong_36
/-- LivesAhead.isWrong(LLivesAhead$Edition;I)Z -/
def f_X11_isWrong (σ : TH) (p0 : Nat) (p1 : Option Nat) (p2 : Int32) : Option (Int32 × TH) :=
  nn_ p1 fun a1 => gt_ (kd_ σ a1 = 3) <| bd_ (f_X1_hasPrinted σ a1 p2) fun x2 s3 => if x2 = 0 then (some ((0 : Int32), s3)) else (lt_ (fr_ s3 209 a1) fun r4 => nn_ r4 fun a5 => gt_ (kd_ s3 a5 = 20) <| gt_ (¬ (p2 < 0 ∨ ln_ s3 a5 ≤ p2.toNatClampNeg)) <| lt_ (ai_ s3 a5 p2.toNatClampNeg) fun x6 => lt_ (fi_ s3 200 a1) fun x7 => gt_ (kd_ s3 p0 = 13) <| bd_ (f_X11_valueNow s3 p0 x7 p2 x6) fun x8 s9 => if x8 = x6 then (f_X11_isWrong_b36 s9 (0 : Int32)) else (f_X11_isWrong_b36 s9 (1 : Int32)))
set_option maxHeartbeats 4000000 in
set_option maxRecDepth 100000 in
theorem c_X11_isWrong {l : Launch} {D : va_G} {cy : Nat → ClassId} {ka : Nat → Nat} {σ z : TH} {p0 : Nat} {p1 : Option Nat} {p2 : Int32} {r : Int32} (hf : f_X11_isWrong σ p0 p1 p2 = some (r, z)) : ct_ l D cy ka yX11_isWrong 6 132 [va_rf (some p0), va_rf p1, .int p2] σ (some (.int r)) z := by
  unfold f_X11_isWrong at hf
  refine v_start (cc := cX11_isWrong) (own := RX11) (maxL := 4) (ret := (some FieldType.boolean)) (nm := "isWrong") (by decide +kernel) kw_1254 rfl rfl (by simp [lg_sl, va_rf_cat, cat_i, cat_l]) ?_
  refine v_eqL (L2 := [(0, va_rf (some p0)), (1, va_rf p1), (2, .int p2)]) (by simp [lv_args, va_rf_cat, cat_i, cat_l]) ?_
  refine v_aload_n (x := p1) dX11_isWrong_0 rfl 1 rfl ?_
  refine v_iload_n (x := p2) dX11_isWrong_1 rfl 2 rfl ?_
  obtain ⟨a1, rfl, hf⟩ := nn_of hf
  obtain ⟨hk_a1, hf⟩ := gt_of hf
  obtain ⟨x2, s3, hcs3, hf⟩ := bd_of hf
  have hts3 := c_X1_hasPrinted (l := l) (D := D) (cy := cy) (ka := ka) hcs3
  refine v_callV cb_2 hk_a1 (As := [.int p2]) (rest := []) hts3 yb_X1_hasPrinted kw_1234 kw_1235 kw_1236 rfl ⟨Nat.le_of_ble_eq_true rfl, Nat.le_of_ble_eq_true rfl⟩ rfl (cat_len (Nat.le_of_ble_eq_true rfl)) dX11_isWrong_2 ?_
  have hk_a1 := tk_ hts3.1 hk_a1
  show v_ l D cy ka cX11_isWrong RX11 4 (some FieldType.boolean) "isWrong" 6 132 (qf_ D cy σ z (some (.int r))) σ z _ 5 [(0, va_rf (some p0)), (1, va_rf (some a1)), (2, .int p2)] [.int x2]
  refine v_if_ne (tgt := 10) hf dX11_isWrong_5 (by decide) (fun hq hf => ?_) (fun hq hf => ?_)
  · refine v_iconst (v := 0) dX11_isWrong_8 (by decide) ?_
    exact v_zret hf rfl dX11_isWrong_9
  · refine v_aload_n (x := (some a1)) dX11_isWrong_10 rfl 1 rfl ?_
    refine v_getr cb_2 hk_a1 9 209 rfl (by decide) rfl (lk_n kw_1197 rfl) hf dX11_isWrong_11 (fun r4 hf => ?_)
    refine v_iload_n (x := p2) dX11_isWrong_14 rfl 2 rfl ?_
    obtain ⟨a5, rfl, hf⟩ := nn_of hf
    obtain ⟨hk_a5, hf⟩ := gt_of hf
    refine v_iald hk_a5 hf dX11_isWrong_15 (fun x6 hf => ?_)
    refine v_istore_n [(3, .int x6), (0, va_rf (some p0)), (1, va_rf (some a1)), (2, .int p2)] dX11_isWrong_16 rfl (by decide) rfl ?_
    refine v_aload_n (x := (some p0)) dX11_isWrong_17 rfl 1 rfl ?_
    refine v_aload_n (x := (some a1)) dX11_isWrong_18 rfl 2 rfl ?_
    refine v_geti cb_2 hk_a1 0 200 rfl (by decide) rfl (lk_n kw_1179 rfl) hf dX11_isWrong_19 (fun x7 hf => ?_)
    refine v_iload_n (x := p2) dX11_isWrong_22 rfl 3 rfl ?_
    refine v_iload_n (x := x6) dX11_isWrong_23 rfl 0 rfl ?_
    obtain ⟨hk_p0, hf⟩ := gt_of hf
    obtain ⟨x8, s9, hcs9, hf⟩ := bd_of hf
    have hts9 := c_X11_valueNow (l := l) (D := D) (cy := cy) (ka := ka) hcs9
    refine v_callV cb_12 hk_p0 (As := [.int x7, .int p2, .int x6]) (rest := []) hts9 yb_X11_valueNow kw_1255 kw_1257 kp_67 rfl ⟨Nat.le_of_ble_eq_true rfl, Nat.le_of_ble_eq_true rfl⟩ rfl (cat_len (Nat.le_of_ble_eq_true rfl)) dX11_isWrong_24 ?_
    have hk_a1 := tk_ hts9.1 hk_a1
    have hk_p0 := tk_ hts9.1 hk_p0
    show v_ l D cy ka cX11_isWrong RX11 4 (some FieldType.boolean) "isWrong" 6 132 (qf_ D cy σ z (some (.int r))) σ z _ 27 [(3, .int x6), (0, va_rf (some p0)), (1, va_rf (some a1)), (2, .int p2)] [.int x8]
    refine v_iload_n (x := x6) dX11_isWrong_27 rfl 0 rfl ?_
    refine v_icmp_eq (tgt := 35) hf dX11_isWrong_28 (by decide) (fun hq hf => ?_) (fun hq hf => ?_)
    · refine v_iconst (v := 0) dX11_isWrong_35 (by decide) ?_
      refine v_sub [] (L2 := []) rfl ?_
      exact t_X11_isWrong_b36  hf
    · refine v_iconst (v := 1) dX11_isWrong_31 (by decide) ?_
      refine v_goto (tgt := 36) dX11_isWrong_32 (by decide) ?_
      refine v_sub [] (L2 := []) rfl ?_
      exact t_X11_isWrong_b36  hf
theorem dX11_correct_0 : decode cX11_correct 0 = .ok (.aload_n 0, 1) := by decide +kernel
theorem dX11_correct_1 : decode cX11_correct 1 = .ok (.iload_n 1, 1) := by decide +kernel
theorem dX11_correct_2 : decode cX11_correct 2 = .ok (.invokevirtual 397, 3) := by decide +kernel
theorem dX11_correct_5 : decode cX11_correct 5 = .ok (.astore_n 3, 1) := by decide +kernel
theorem dX11_correct_6 : decode cX11_correct 6 = .ok (.aload_n 3, 1) := by decide +kernel
theorem dX11_correct_7 : decode cX11_correct 7 = .ok (.ifnull 11, 3) := by decide +kernel
theorem dX11_correct_10 : decode cX11_correct 10 = .ok (.aload_n 3, 1) := by decide +kernel
theorem dX11_correct_11 : decode cX11_correct 11 = .ok (.iload_n 2, 1) := by decide +kernel
theorem dX11_correct_12 : decode cX11_correct 12 = .ok (.invokevirtual 418, 3) := by decide +kernel
theorem dX11_correct_15 : decode cX11_correct 15 = .ok (.ifCond .ne 9, 3) := by decide +kernel
theorem dX11_correct_18 : decode cX11_correct 18 = .ok (.aload_n 0, 1) := by decide +kernel
theorem dX11_correct_19 : decode cX11_correct 19 = .ok (.iconst 1, 1) := by decide +kernel
theorem dX11_correct_20 : decode cX11_correct 20 = .ok (.invokevirtual 121, 3) := by decide +kernel
theorem dX11_correct_23 : decode cX11_correct 23 = .ok (.ireturn, 1) := by decide +kernel
theorem dX11_correct_24 : decode cX11_correct 24 = .ok (.aload_n 0, 1) := by decide +kernel
theorem dX11_correct_25 : decode cX11_correct 25 = .ok (.aload_n 3, 1) := by decide +kernel
theorem dX11_correct_26 : decode cX11_correct 26 = .ok (.iload_n 2, 1) := by decide +kernel
theorem dX11_correct_27 : decode cX11_correct 27 = .ok (.invokevirtual 414, 3) := by decide +kernel
theorem dX11_correct_30 : decode cX11_correct 30 = .ok (.ifCond .ne 9, 3) := by decide +kernel
theorem dX11_correct_33 : decode cX11_correct 33 = .ok (.aload_n 0, 1) := by decide +kernel
theorem dX11_correct_34 : decode cX11_correct 34 = .ok (.iconst 5, 1) := by decide +kernel
theorem dX11_correct_35 : decode cX11_correct 35 = .ok (.invokevirtual 121, 3) := by decide +kernel
theorem dX11_correct_38 : decode cX11_correct 38 = .ok (.ireturn, 1) := by decide +kernel
theorem dX11_correct_39 : decode cX11_correct 39 = .ok (.aload_n 3, 1) := by decide +kernel
theorem dX11_correct_40 : decode cX11_correct 40 = .ok (.getfield 421, 3) := by decide +kernel
theorem dX11_correct_43 : decode cX11_correct 43 = .ok (.iload_n 2, 1) := by decide +kernel
theorem dX11_correct_44 : decode cX11_correct 44 = .ok (.aload_n 0, 1) := by decide +kernel
theorem dX11_correct_45 : decode cX11_correct 45 = .ok (.aload_n 3, 1) := by decide +kernel
theorem dX11_correct_46 : decode cX11_correct 46 = .ok (.getfield 401, 3) := by decide +kernel
theorem dX11_correct_49 : decode cX11_correct 49 = .ok (.iload_n 2, 1) := by decide +kernel
theorem dX11_correct_50 : decode cX11_correct 50 = .ok (.aload_n 3, 1) := by decide +kernel
theorem dX11_correct_51 : decode cX11_correct 51 = .ok (.getfield 421, 3) := by decide +kernel
theorem dX11_correct_54 : decode cX11_correct 54 = .ok (.iload_n 2, 1) := by decide +kernel
theorem dX11_correct_55 : decode cX11_correct 55 = .ok (.iaload, 1) := by decide +kernel
theorem dX11_correct_56 : decode cX11_correct 56 = .ok (.invokevirtual 424, 3) := by decide +kernel
theorem dX11_correct_59 : decode cX11_correct 59 = .ok (.iastore, 1) := by decide +kernel
theorem dX11_correct_60 : decode cX11_correct 60 = .ok (.aload_n 3, 1) := by decide +kernel
theorem dX11_correct_61 : decode cX11_correct 61 = .ok (.dup, 1) := by decide +kernel
theorem dX11_correct_62 : decode cX11_correct 62 = .ok (.getfield 411, 3) := by decide +kernel
theorem dX11_correct_65 : decode cX11_correct 65 = .ok (.iconst 1, 1) := by decide +kernel
theorem dX11_correct_66 : decode cX11_correct 66 = .ok (.iadd, 1) := by decide +kernel
theorem dX11_correct_67 : decode cX11_correct 67 = .ok (.putfield 411, 3) := by decide +kernel
theorem dX11_correct_70 : decode cX11_correct 70 = .ok (.aload_n 0, 1) := by decide +kernel
theorem dX11_correct_71 : decode cX11_correct 71 = .ok (.invokevirtual 128, 3) := by decide +kernel
theorem dX11_correct_74 : decode cX11_correct 74 = .ok (.ireturn, 1) := by decide +kernel
def f_X11_correct_b18 (σ : TH) (l0 : Nat) : Option (Int32 × TH) :=
  gt_ (kd_ σ l0 = 13) <| bd_ (f_X11_denied σ l0 (1 : Int32)) fun x4 s5 => gt_ (x4 = 0 ∨ x4 = 1) <| some (x4, s5)
set_option maxHeartbeats 4000000 in
set_option maxRecDepth 100000 in
theorem t_X11_correct_b18 {l : Launch} {D : va_G} {cy : Nat → ClassId} {ka : Nat → Nat} {σ0 z : TH} {r : Int32}  {σ : TH} {l0 : Nat} (hf : f_X11_correct_b18 σ l0 = some (r, z)) : v_ l D cy ka cX11_correct RX11 4 (some FieldType.boolean) "correct" 7 155 (qf_ D cy σ0 z (some (.int r))) σ0 z σ 18 [(0, va_rf (some l0))] [] := by
  unfold f_X11_correct_b18 at hf
  refine v_aload_n (x := (some l0)) dX11_correct_18 rfl 0 rfl ?_
  refine v_iconst (v := 1) dX11_correct_19 (by decide) ?_
  obtain ⟨hk_l0, hf⟩ := gt_of hf
  obtain ⟨x4, s5, hcs5, hf⟩ := bd_of hf
  have hts5 := c_X11_denied (l := l) (D := D) (cy := cy) (ka := ka) hcs5
  refine v_callV cb_12 hk_l0 (As := [.int (1 : Int32)]) (rest := []) hts5 yb_X11_denied kw_421 kw_423 kp_6 rfl ⟨Nat.le_of_ble_eq_true rfl, Nat.le_of_ble_eq_true rfl⟩ rfl (cat_len (Nat.le_of_ble_eq_true rfl)) dX11_correct_20 ?_
  have hk_l0 := tk_ hts5.1 hk_l0
  show v_ l D cy ka cX11_correct RX11 4 (some FieldType.boolean) "correct" 7 155 (qf_ D cy σ0 z (some (.int r))) σ0 z _ 23 [(0, va_rf (some l0))] [.int x4]
  obtain ⟨hb9, hf⟩ := gt_of hf
  exact v_zret hf (nz_ hb9) dX11_correct_23
/-- LivesAhead.correct(II)Z -/
def f_X11_correct (σ : TH) (p0 : Nat) (p1 : Int32) (p2 : Int32) : Option (Int32 × TH) :=
  gt_ (kd_ σ p0 = 13) <| bd_ (f_X11_editionAt σ p0 p1) fun r1 s2 => oc_ r1 (f_X11_correct_b18 s2 p0) (fun a3 => gt_ (kd_ s2 a3 = 3) <| bd_ (f_X1_hasPrinted s2 a3 p2) fun x6 s7 => if x6 = 0 then (f_X11_correct_b18 s7 p0) else (bd_ (f_X11_isWrong s7 p0 (some a3) p2) fun x8 s9 => if x8 = 0 then (bd_ (f_X11_denied s9 p0 (5 : Int32)) fun x10 s11 => gt_ (x10 = 0 ∨ x10 = 1) <| some (x10, s11)) else (lt_ (fr_ s9 209 a3) fun r12 => lt_ (fi_ s9 200 a3) fun x13 => lt_ (fr_ s9 209 a3) fun r14 => nn_ r14 fun a15 => gt_ (kd_ s9 a15 = 20) <| gt_ (¬ (p2 < 0 ∨ ln_ s9 a15 ≤ p2.toNatClampNeg)) <| lt_ (ai_ s9 a15 p2.toNatClampNeg) fun x16 => bd_ (f_X11_valueNow s9 p0 x13 p2 x16) fun x17 s18 => nn_ r12 fun a19 => gt_ (kd_ s18 a19 = 20) <| gt_ (¬ (p2 < 0 ∨ ln_ s18 a19 ≤ p2.toNatClampNeg)) <| lt_ (sa_ s18 a19 p2.toNatClampNeg x17) fun s20 => lt_ (fi_ s20 207 a3) fun x21 => lt_ (si_ s20 207 a3 (x21 + (1 : Int32))) fun s22 => bd_ (f_X11_allowed s22 p0) fun x23 s24 => gt_ (x23 = 0 ∨ x23 = 1) <| some (x23, s24))))
set_option maxHeartbeats 4000000 in
set_option maxRecDepth 100000 in
theorem c_X11_correct {l : Launch} {D : va_G} {cy : Nat → ClassId} {ka : Nat → Nat} {σ z : TH} {p0 : Nat} {p1 : Int32} {p2 : Int32} {r : Int32} (hf : f_X11_correct σ p0 p1 p2 = some (r, z)) : ct_ l D cy ka yX11_correct 7 155 [va_rf (some p0), .int p1, .int p2] σ (some (.int r)) z := by
  unfold f_X11_correct at hf
  refine v_start (cc := cX11_correct) (own := RX11) (maxL := 4) (ret := (some FieldType.boolean)) (nm := "correct") (by decide +kernel) kw_1262 rfl rfl (by simp [lg_sl, va_rf_cat, cat_i, cat_l]) ?_
  refine v_eqL (L2 := [(0, va_rf (some p0)), (1, .int p1), (2, .int p2)]) (by simp [lv_args, va_rf_cat, cat_i, cat_l]) ?_
  refine v_aload_n (x := (some p0)) dX11_correct_0 rfl 0 rfl ?_
  refine v_iload_n (x := p1) dX11_correct_1 rfl 1 rfl ?_
  obtain ⟨hk_p0, hf⟩ := gt_of hf
  obtain ⟨r1, s2, hcs2, hf⟩ := bd_of hf
  have hts2 := c_X11_editionAt (l := l) (D := D) (cy := cy) (ka := ka) hcs2
  refine v_callV cb_12 hk_p0 (As := [.int p1]) (rest := []) hts2 yb_X11_editionAt kw_1243 kw_1245 kp_65 rfl ⟨Nat.le_of_ble_eq_true rfl, Nat.le_of_ble_eq_true rfl⟩ rfl (cat_len (Nat.le_of_ble_eq_true rfl)) dX11_correct_2 ?_
  have hk_p0 := tk_ hts2.1 hk_p0
  show v_ l D cy ka cX11_correct RX11 4 (some FieldType.boolean) "correct" 7 155 (qf_ D cy σ z (some (.int r))) σ z _ 5 [(0, va_rf (some p0)), (1, .int p1), (2, .int p2)] [va_rf r1]
  refine v_astore_n [(3, va_rf r1), (0, va_rf (some p0)), (1, .int p1), (2, .int p2)] dX11_correct_5 rfl (by decide) rfl ?_
  refine v_aload_n (x := r1) dX11_correct_6 rfl 0 rfl ?_
  refine v_ifnull2 (tgt := 18) hf dX11_correct_7 (by decide) (fun e9 hf9 => ?_) (fun a3 e9 hf9 => ?_)
  · subst e9
    replace hf := hf9
    clear hf9
    refine v_sub [1] (L2 := [(0, va_rf (some p0))]) rfl ?_
    exact t_X11_correct_b18  hf
  · subst e9
    replace hf := hf9
    clear hf9
    refine v_aload_n (x := (some a3)) dX11_correct_10 rfl 0 rfl ?_
    refine v_iload_n (x := p2) dX11_correct_11 rfl 3 rfl ?_
    obtain ⟨hk_a3, hf⟩ := gt_of hf
    obtain ⟨x6, s7, hcs7, hf⟩ := bd_of hf
    have hts7 := c_X1_hasPrinted (l := l) (D := D) (cy := cy) (ka := ka) hcs7
    refine v_callV cb_2 hk_a3 (As := [.int p2]) (rest := []) hts7 yb_X1_hasPrinted kw_1234 kw_1235 kw_1236 rfl ⟨Nat.le_of_ble_eq_true rfl, Nat.le_of_ble_eq_true rfl⟩ rfl (cat_len (Nat.le_of_ble_eq_true rfl)) dX11_correct_12 ?_
    have hk_p0 := tk_ hts7.1 hk_p0
    have hk_a3 := tk_ hts7.1 hk_a3
    show v_ l D cy ka cX11_correct RX11 4 (some FieldType.boolean) "correct" 7 155 (qf_ D cy σ z (some (.int r))) σ z _ 15 [(3, va_rf (some a3)), (0, va_rf (some p0)), (1, .int p1), (2, .int p2)] [.int x6]
    refine v_if_ne (tgt := 24) hf dX11_correct_15 (by decide) (fun hq hf => ?_) (fun hq hf => ?_)
    · refine v_sub [1] (L2 := [(0, va_rf (some p0))]) rfl ?_
      exact t_X11_correct_b18  hf
    · refine v_aload_n (x := (some p0)) dX11_correct_24 rfl 1 rfl ?_
      refine v_aload_n (x := (some a3)) dX11_correct_25 rfl 0 rfl ?_
      refine v_iload_n (x := p2) dX11_correct_26 rfl 3 rfl ?_
      obtain ⟨x8, s9, hcs9, hf⟩ := bd_of hf
      have hts9 := c_X11_isWrong (l := l) (D := D) (cy := cy) (ka := ka) hcs9
      refine v_callV cb_12 hk_p0 (As := [va_rf (some a3), .int p2]) (rest := []) hts9 yb_X11_isWrong kw_1251 kw_1253 kp_66 rfl ⟨Nat.le_of_ble_eq_true rfl, Nat.le_of_ble_eq_true rfl⟩ rfl (cat_len (Nat.le_of_ble_eq_true rfl)) dX11_correct_27 ?_
      have hk_p0 := tk_ hts9.1 hk_p0
      have hk_a3 := tk_ hts9.1 hk_a3
      show v_ l D cy ka cX11_correct RX11 4 (some FieldType.boolean) "correct" 7 155 (qf_ D cy σ z (some (.int r))) σ z _ 30 [(3, va_rf (some a3)), (0, va_rf (some p0)), (1, .int p1), (2, .int p2)] [.int x8]
      refine v_if_ne (tgt := 39) hf dX11_correct_30 (by decide) (fun hq hf => ?_) (fun hq hf => ?_)
      · refine v_aload_n (x := (some p0)) dX11_correct_33 rfl 1 rfl ?_
        refine v_iconst (v := 5) dX11_correct_34 (by decide) ?_
        obtain ⟨x10, s11, hcs11, hf⟩ := bd_of hf
        have hts11 := c_X11_denied (l := l) (D := D) (cy := cy) (ka := ka) hcs11
        refine v_callV cb_12 hk_p0 (As := [.int (5 : Int32)]) (rest := []) hts11 yb_X11_denied kw_421 kw_423 kp_6 rfl ⟨Nat.le_of_ble_eq_true rfl, Nat.le_of_ble_eq_true rfl⟩ rfl (cat_len (Nat.le_of_ble_eq_true rfl)) dX11_correct_35 ?_
        have hk_p0 := tk_ hts11.1 hk_p0
        have hk_a3 := tk_ hts11.1 hk_a3
        show v_ l D cy ka cX11_correct RX11 4 (some FieldType.boolean) "correct" 7 155 (qf_ D cy σ z (some (.int r))) σ z _ 38 [(3, va_rf (some a3)), (0, va_rf (some p0)), (1, .int p1), (2, .int p2)] [.int x10]
        obtain ⟨hb9, hf⟩ := gt_of hf
        exact v_zret hf (nz_ hb9) dX11_correct_38
      · refine v_aload_n (x := (some a3)) dX11_correct_39 rfl 0 rfl ?_
        refine v_getr cb_2 hk_a3 9 209 rfl (by decide) rfl (lk_n kw_1197 rfl) hf dX11_correct_40 (fun r12 hf => ?_)
        refine v_iload_n (x := p2) dX11_correct_43 rfl 3 rfl ?_
        refine v_aload_n (x := (some p0)) dX11_correct_44 rfl 1 rfl ?_
        refine v_aload_n (x := (some a3)) dX11_correct_45 rfl 0 rfl ?_
        refine v_geti cb_2 hk_a3 0 200 rfl (by decide) rfl (lk_n kw_1179 rfl) hf dX11_correct_46 (fun x13 hf => ?_)
        refine v_iload_n (x := p2) dX11_correct_49 rfl 3 rfl ?_
        refine v_aload_n (x := (some a3)) dX11_correct_50 rfl 0 rfl ?_
        refine v_getr cb_2 hk_a3 9 209 rfl (by decide) rfl (lk_n kw_1197 rfl) hf dX11_correct_51 (fun r14 hf => ?_)
        refine v_iload_n (x := p2) dX11_correct_54 rfl 3 rfl ?_
        obtain ⟨a15, rfl, hf⟩ := nn_of hf
        obtain ⟨hk_a15, hf⟩ := gt_of hf
        refine v_iald hk_a15 hf dX11_correct_55 (fun x16 hf => ?_)
        obtain ⟨x17, s18, hcs18, hf⟩ := bd_of hf
        have hts18 := c_X11_valueNow (l := l) (D := D) (cy := cy) (ka := ka) hcs18
        refine v_callV cb_12 hk_p0 (As := [.int x13, .int p2, .int x16]) (rest := [.int p2, va_rf r12]) hts18 yb_X11_valueNow kw_1255 kw_1257 kp_67 rfl ⟨Nat.le_of_ble_eq_true rfl, Nat.le_of_ble_eq_true rfl⟩ rfl (cat_len (Nat.le_of_ble_eq_true rfl)) dX11_correct_56 ?_
        have hk_p0 := tk_ hts18.1 hk_p0
        have hk_a3 := tk_ hts18.1 hk_a3
        show v_ l D cy ka cX11_correct RX11 4 (some FieldType.boolean) "correct" 7 155 (qf_ D cy σ z (some (.int r))) σ z _ 59 [(3, va_rf (some a3)), (0, va_rf (some p0)), (1, .int p1), (2, .int p2)] [.int x17, .int p2, va_rf r12]
        obtain ⟨a19, rfl, hf⟩ := nn_of hf
        obtain ⟨hk_a19, hf⟩ := gt_of hf
        refine v_iast2 hk_a19 hf dX11_correct_59 (fun s20 hts20 hf => ?_)
        have hk_p0 := tk_ hts20 hk_p0
        have hk_a3 := tk_ hts20 hk_a3
        refine v_aload_n (x := (some a3)) dX11_correct_60 rfl 0 rfl ?_
        refine v_dup dX11_correct_61 (va_rf_cat _) ?_
        refine v_geti cb_2 hk_a3 7 207 rfl (by decide) rfl (lk_n kw_1193 rfl) hf dX11_correct_62 (fun x21 hf => ?_)
        refine v_iconst (v := 1) dX11_correct_65 (by decide) ?_
        refine v_iadd dX11_correct_66 ?_
        refine v_puti2 cb_2 hk_a3 7 207 rfl (by decide) rfl (lk_n kw_1193 rfl) (Or.inl rfl) rfl rfl hf dX11_correct_67 (fun s22 hts22 hf => ?_)
        have hk_p0 := tk_ hts22 hk_p0
        have hk_a3 := tk_ hts22 hk_a3
        refine v_aload_n (x := (some p0)) dX11_correct_70 rfl 1 rfl ?_
        obtain ⟨x23, s24, hcs24, hf⟩ := bd_of hf
        have hts24 := c_X11_allowed (l := l) (D := D) (cy := cy) (ka := ka) hcs24
        refine v_callV cb_12 hk_p0 (As := []) (rest := []) hts24 yb_X11_allowed kw_425 kw_427 kp_7 rfl ⟨Nat.le_of_ble_eq_true rfl, Nat.le_of_ble_eq_true rfl⟩ rfl (cat_len (Nat.le_of_ble_eq_true rfl)) dX11_correct_71 ?_
        have hk_p0 := tk_ hts24.1 hk_p0
        have hk_a3 := tk_ hts24.1 hk_a3
        show v_ l D cy ka cX11_correct RX11 4 (some FieldType.boolean) "correct" 7 155 (qf_ D cy σ z (some (.int r))) σ z _ 74 [(3, va_rf (some a3)), (0, va_rf (some p0)), (1, .int p1), (2, .int p2)] [.int x23]
        obtain ⟨hb9, hf⟩ := gt_of hf
        exact v_zret hf (nz_ hb9) dX11_correct_74
theorem dX11_deadPeople_0 : decode cX11_deadPeople 0 = .ok (.iconst 0, 1) := by decide +kernel
theorem dX11_deadPeople_1 : decode cX11_deadPeople 1 = .ok (.istore_n 1, 1) := by decide +kernel
theorem dX11_deadPeople_2 : decode cX11_deadPeople 2 = .ok (.iconst 0, 1) := by decide +kernel
theorem dX11_deadPeople_3 : decode cX11_deadPeople 3 = .ok (.istore_n 2, 1) := by decide +kernel
theorem dX11_deadPeople_4 : decode cX11_deadPeople 4 = .ok (.iload_n 2, 1) := by decide +kernel
theorem dX11_deadPeople_5 : decode cX11_deadPeople 5 = .ok (.aload_n 0, 1) := by decide +kernel
theorem dX11_deadPeople_6 : decode cX11_deadPeople 6 = .ok (.getfield 16, 3) := by decide +kernel
theorem dX11_deadPeople_9 : decode cX11_deadPeople 9 = .ok (.invokevirtual 101, 3) := by decide +kernel
theorem dX11_deadPeople_12 : decode cX11_deadPeople 12 = .ok (.if_icmp .ge 29, 3) := by decide +kernel
theorem dX11_deadPeople_15 : decode cX11_deadPeople 15 = .ok (.iload_n 1, 1) := by decide +kernel
theorem dX11_deadPeople_16 : decode cX11_deadPeople 16 = .ok (.aload_n 0, 1) := by decide +kernel
theorem dX11_deadPeople_17 : decode cX11_deadPeople 17 = .ok (.getfield 16, 3) := by decide +kernel
theorem dX11_deadPeople_20 : decode cX11_deadPeople 20 = .ok (.iload_n 2, 1) := by decide +kernel
theorem dX11_deadPeople_21 : decode cX11_deadPeople 21 = .ok (.invokevirtual 238, 3) := by decide +kernel
theorem dX11_deadPeople_24 : decode cX11_deadPeople 24 = .ok (.checkcast 144, 3) := by decide +kernel
theorem dX11_deadPeople_27 : decode cX11_deadPeople 27 = .ok (.invokevirtual 166, 3) := by decide +kernel
theorem dX11_deadPeople_30 : decode cX11_deadPeople 30 = .ok (.invokestatic 169, 3) := by decide +kernel
theorem dX11_deadPeople_33 : decode cX11_deadPeople 33 = .ok (.iadd, 1) := by decide +kernel
theorem dX11_deadPeople_34 : decode cX11_deadPeople 34 = .ok (.istore_n 1, 1) := by decide +kernel
theorem dX11_deadPeople_35 : decode cX11_deadPeople 35 = .ok (.iinc 2 1, 3) := by decide +kernel
theorem dX11_deadPeople_38 : decode cX11_deadPeople 38 = .ok (.goto (-34), 3) := by decide +kernel
theorem dX11_deadPeople_41 : decode cX11_deadPeople 41 = .ok (.iload_n 1, 1) := by decide +kernel
theorem dX11_deadPeople_42 : decode cX11_deadPeople 42 = .ok (.ireturn, 1) := by decide +kernel
def f_X11_deadPeople_b4 : Nat → TH → Nat → Int32 → Int32 → Option (Int32 × TH)
  | 0, _, _, _, _ => none
  | n + 1, σ, l0, l1, l2 => gt_ (kd_ σ l0 = 13) <| lt_ (fr_ σ 1201 l0) fun r1 => nn_ r1 fun a2 => gt_ (kd_ σ a2 = 1) <| bd_ (f_Jx4a65c_size_8abf5 σ a2) fun x3 s4 => if x3 ≤ l2 then (some (l1, s4)) else (lt_ (fr_ s4 1201 l0) fun r5 => nn_ r5 fun a6 => gt_ (kd_ s4 a6 = 1) <| bd_ (f_Jx4a65c_get_915e3 s4 a6 l2) fun r7 s8 => gt_ (Option.elim r7 4 (kd_ s8) = 4) <| nn_ r7 fun a9 => gt_ (kd_ s8 a9 = 4) <| bd_ (f_X2_isDead s8 a9) fun x10 s11 => bd_ (f_X11_asNumber s11 x10) fun x12 s13 => lt_ (l1 + x12) fun x14 => lt_ (l2 + 1) fun x15 => (f_X11_deadPeople_b4 n) s13 l0 x14 x15)
set_option maxHeartbeats 4000000 in
set_option maxRecDepth 100000 in
theorem t_X11_deadPeople_b4 {l : Launch} {D : va_G} {cy : Nat → ClassId} {ka : Nat → Nat} {σ0 z : TH} {r : Int32}  : ∀ (n : Nat) (σ : TH) (l0 : Nat) (l1 : Int32) (l2 : Int32), f_X11_deadPeople_b4 n σ l0 l1 l2 = some (r, z) → v_ l D cy ka cX11_deadPeople RX11 3 (some FieldType.int) "deadPeople" 3 64 (qf_ D cy σ0 z (some (.int r))) σ0 z σ 4 [(0, va_rf (some l0)), (1, .int l1), (2, .int l2)] [] := by
  intro n
  induction n with
  | zero => intro σ l0 l1 l2 hf; unfold f_X11_deadPeople_b4 at hf; cases hf
  | succ n ih =>
    intro σ l0 l1 l2 hf
    unfold f_X11_deadPeople_b4 at hf
    have hrec_4 := ih
    refine v_iload_n (x := l2) dX11_deadPeople_4 rfl 2 rfl ?_
    refine v_aload_n (x := (some l0)) dX11_deadPeople_5 rfl 0 rfl ?_
    obtain ⟨hk_l0, hf⟩ := gt_of hf
    refine v_getr cb_12 hk_l0 1 1201 rfl (by decide) rfl (lk_n kw_240 rfl) hf dX11_deadPeople_6 (fun r1 hf => ?_)
    obtain ⟨a2, rfl, hf⟩ := nn_of hf
    obtain ⟨hk_a2, hf⟩ := gt_of hf
    obtain ⟨x3, s4, hcs4, hf⟩ := bd_of hf
    have hts4 := c_Jx4a65c_size_8abf5 (l := l) (D := D) (cy := cy) (ka := ka) hcs4
    refine v_callV cb_0 hk_a2 (As := []) (rest := [.int l2]) hts4 yb_Jx4a65c_size_8abf5 kw_311 kw_312 kw_313 rfl ⟨Nat.le_of_ble_eq_true rfl, Nat.le_of_ble_eq_true rfl⟩ rfl (cat_len (Nat.le_of_ble_eq_true rfl)) dX11_deadPeople_9 ?_
    have hk_l0 := tk_ hts4.1 hk_l0
    show v_ l D cy ka cX11_deadPeople RX11 3 (some FieldType.int) "deadPeople" 3 64 (qf_ D cy σ0 z (some (.int r))) σ0 z _ 12 [(0, va_rf (some l0)), (1, .int l1), (2, .int l2)] [.int x3, .int l2]
    refine v_icmp_ge (tgt := 41) hf dX11_deadPeople_12 (by decide) (fun hq hf => ?_) (fun hq hf => ?_)
    · refine v_iload_n (x := l1) dX11_deadPeople_41 rfl 1 rfl ?_
      exact v_iret hf dX11_deadPeople_42
    · refine v_iload_n (x := l1) dX11_deadPeople_15 rfl 1 rfl ?_
      refine v_aload_n (x := (some l0)) dX11_deadPeople_16 rfl 0 rfl ?_
      refine v_getr cb_12 hk_l0 1 1201 rfl (by decide) rfl (lk_n kw_240 rfl) hf dX11_deadPeople_17 (fun r5 hf => ?_)
      refine v_iload_n (x := l2) dX11_deadPeople_20 rfl 2 rfl ?_
      obtain ⟨a6, rfl, hf⟩ := nn_of hf
      obtain ⟨hk_a6, hf⟩ := gt_of hf
      obtain ⟨r7, s8, hcs8, hf⟩ := bd_of hf
      have hts8 := c_Jx4a65c_get_915e3 (l := l) (D := D) (cy := cy) (ka := ka) hcs8
      refine v_callV cb_0 hk_a6 (As := [.int l2]) (rest := [.int l1]) hts8 yb_Jx4a65c_get_915e3 kw_407 kw_408 kw_409 rfl ⟨Nat.le_of_ble_eq_true rfl, Nat.le_of_ble_eq_true rfl⟩ rfl (cat_len (Nat.le_of_ble_eq_true rfl)) dX11_deadPeople_21 ?_
      have hk_l0 := tk_ hts8.1 hk_l0
      show v_ l D cy ka cX11_deadPeople RX11 3 (some FieldType.int) "deadPeople" 3 64 (qf_ D cy σ0 z (some (.int r))) σ0 z _ 24 [(0, va_rf (some l0)), (1, .int l1), (2, .int l2)] [va_rf r7, .int l1]
      refine v_cast cb_3 4 rfl kw_441 hf dX11_deadPeople_24 (fun hf => ?_)
      obtain ⟨a9, rfl, hf⟩ := nn_of hf
      obtain ⟨hk_a9, hf⟩ := gt_of hf
      obtain ⟨x10, s11, hcs11, hf⟩ := bd_of hf
      have hts11 := c_X2_isDead (l := l) (D := D) (cy := cy) (ka := ka) hcs11
      refine v_callV cb_3 hk_a9 (As := []) (rest := [.int l1]) hts11 yb_X2_isDead kw_534 kw_535 kw_536 rfl ⟨Nat.le_of_ble_eq_true rfl, Nat.le_of_ble_eq_true rfl⟩ rfl (cat_len (Nat.le_of_ble_eq_true rfl)) dX11_deadPeople_27 ?_
      have hk_l0 := tk_ hts11.1 hk_l0
      show v_ l D cy ka cX11_deadPeople RX11 3 (some FieldType.int) "deadPeople" 3 64 (qf_ D cy σ0 z (some (.int r))) σ0 z _ 30 [(0, va_rf (some l0)), (1, .int l1), (2, .int l2)] [.int x10, .int l1]
      obtain ⟨x12, s13, hcs13, hf⟩ := bd_of hf
      have hts13 := c_X11_asNumber (l := l) (D := D) (cy := cy) (ka := ka) hcs13
      refine v_callS (As := [.int x10]) (rest := [.int l1]) hts13 yb_X11_asNumber kw_442 kw_443 rfl ⟨Nat.le_of_ble_eq_true rfl, Nat.le_of_ble_eq_true rfl⟩ rfl (cat_len (Nat.le_of_ble_eq_true rfl)) dX11_deadPeople_30 ?_
      have hk_l0 := tk_ hts13.1 hk_l0
      show v_ l D cy ka cX11_deadPeople RX11 3 (some FieldType.int) "deadPeople" 3 64 (qf_ D cy σ0 z (some (.int r))) σ0 z _ 33 [(0, va_rf (some l0)), (1, .int l1), (2, .int l2)] [.int x12, .int l1]
      refine v_iadd dX11_deadPeople_33 ?_
      obtain ⟨x14, ex14⟩ : ∃ y : Int32, y = l1 + x12 := ⟨_, rfl⟩
      rw [lt_e, ← ex14] at hf
      rw [← ex14]
      refine v_istore_n [(1, .int x14), (0, va_rf (some l0)), (2, .int l2)] dX11_deadPeople_34 rfl (by decide) rfl ?_
      obtain ⟨x15, ex15⟩ : ∃ y : Int32, y = l2 + 1 := ⟨_, rfl⟩
      rw [lt_e, ← ex15] at hf
      refine v_iinc (v := x15) [(2, .int x15), (1, .int x14), (0, va_rf (some l0))] dX11_deadPeople_35 2 rfl (by rw [ex15]; rfl) (by decide) rfl ?_
      refine v_goto (tgt := 4) dX11_deadPeople_38 (by decide) ?_
      refine v_sub [2, 1, 0] (L2 := [(0, va_rf (some l0)), (1, .int x14), (2, .int x15)]) rfl ?_
      exact hrec_4 _ _ _ _ hf
/-- LivesAhead.deadPeople()I -/
def f_X11_deadPeople (σ : TH) (p0 : Nat) : Option (Int32 × TH) :=
  f_X11_deadPeople_b4 fu_ σ p0 (0 : Int32) (0 : Int32)
set_option maxHeartbeats 4000000 in
set_option maxRecDepth 100000 in
theorem c_X11_deadPeople {l : Launch} {D : va_G} {cy : Nat → ClassId} {ka : Nat → Nat} {σ z : TH} {p0 : Nat} {r : Int32} (hf : f_X11_deadPeople σ p0 = some (r, z)) : ct_ l D cy ka yX11_deadPeople 3 64 [va_rf (some p0)] σ (some (.int r)) z := by
  unfold f_X11_deadPeople at hf
  refine v_start (cc := cX11_deadPeople) (own := RX11) (maxL := 3) (ret := (some FieldType.int)) (nm := "deadPeople") (by decide +kernel) kw_1334 rfl rfl (by simp [lg_sl, va_rf_cat, cat_i, cat_l]) ?_
  refine v_eqL (L2 := [(0, va_rf (some p0))]) (by simp [lv_args, va_rf_cat, cat_i, cat_l]) ?_
  refine v_iconst (v := 0) dX11_deadPeople_0 (by decide) ?_
  refine v_istore_n [(1, .int (0 : Int32)), (0, va_rf (some p0))] dX11_deadPeople_1 rfl (by decide) rfl ?_
  refine v_iconst (v := 0) dX11_deadPeople_2 (by decide) ?_
  refine v_istore_n [(2, .int (0 : Int32)), (1, .int (0 : Int32)), (0, va_rf (some p0))] dX11_deadPeople_3 rfl (by decide) rfl ?_
  refine v_sub [2, 1, 0] (L2 := [(0, va_rf (some p0)), (1, .int (0 : Int32)), (2, .int (0 : Int32))]) rfl ?_
  exact t_X11_deadPeople_b4  _ _ _ _ _ hf
theorem dX11_livingWriters_0 : decode cX11_livingWriters 0 = .ok (.iconst 0, 1) := by decide +kernel
theorem dX11_livingWriters_1 : decode cX11_livingWriters 1 = .ok (.istore_n 1, 1) := by decide +kernel
theorem dX11_livingWriters_2 : decode cX11_livingWriters 2 = .ok (.iconst 0, 1) := by decide +kernel
theorem dX11_livingWriters_3 : decode cX11_livingWriters 3 = .ok (.istore_n 2, 1) := by decide +kernel
theorem dX11_livingWriters_4 : decode cX11_livingWriters 4 = .ok (.iload_n 2, 1) := by decide +kernel
theorem dX11_livingWriters_5 : decode cX11_livingWriters 5 = .ok (.aload_n 0, 1) := by decide +kernel
theorem dX11_livingWriters_6 : decode cX11_livingWriters 6 = .ok (.getfield 10, 3) := by decide +kernel
theorem dX11_livingWriters_9 : decode cX11_livingWriters 9 = .ok (.invokevirtual 101, 3) := by decide +kernel
theorem dX11_livingWriters_12 : decode cX11_livingWriters 12 = .ok (.if_icmp .ge 29, 3) := by decide +kernel
theorem dX11_livingWriters_15 : decode cX11_livingWriters 15 = .ok (.iload_n 1, 1) := by decide +kernel
theorem dX11_livingWriters_16 : decode cX11_livingWriters 16 = .ok (.aload_n 0, 1) := by decide +kernel
theorem dX11_livingWriters_17 : decode cX11_livingWriters 17 = .ok (.getfield 10, 3) := by decide +kernel
theorem dX11_livingWriters_20 : decode cX11_livingWriters 20 = .ok (.iload_n 2, 1) := by decide +kernel
theorem dX11_livingWriters_21 : decode cX11_livingWriters 21 = .ok (.invokevirtual 238, 3) := by decide +kernel
theorem dX11_livingWriters_24 : decode cX11_livingWriters 24 = .ok (.checkcast 105, 3) := by decide +kernel
theorem dX11_livingWriters_27 : decode cX11_livingWriters 27 = .ok (.getfield 135, 3) := by decide +kernel
theorem dX11_livingWriters_30 : decode cX11_livingWriters 30 = .ok (.invokestatic 169, 3) := by decide +kernel
theorem dX11_livingWriters_33 : decode cX11_livingWriters 33 = .ok (.iadd, 1) := by decide +kernel
theorem dX11_livingWriters_34 : decode cX11_livingWriters 34 = .ok (.istore_n 1, 1) := by decide +kernel
theorem dX11_livingWriters_35 : decode cX11_livingWriters 35 = .ok (.iinc 2 1, 3) := by decide +kernel
theorem dX11_livingWriters_38 : decode cX11_livingWriters 38 = .ok (.goto (-34), 3) := by decide +kernel
theorem dX11_livingWriters_41 : decode cX11_livingWriters 41 = .ok (.iload_n 1, 1) := by decide +kernel
theorem dX11_livingWriters_42 : decode cX11_livingWriters 42 = .ok (.ireturn, 1) := by decide +kernel
def f_X11_livingWriters_b4 : Nat → TH → Nat → Int32 → Int32 → Option (Int32 × TH)
  | 0, _, _, _, _ => none
  | n + 1, σ, l0, l1, l2 => gt_ (kd_ σ l0 = 13) <| lt_ (fr_ σ 1200 l0) fun r1 => nn_ r1 fun a2 => gt_ (kd_ σ a2 = 1) <| bd_ (f_Jx4a65c_size_8abf5 σ a2) fun x3 s4 => if x3 ≤ l2 then (some (l1, s4)) else (lt_ (fr_ s4 1200 l0) fun r5 => nn_ r5 fun a6 => gt_ (kd_ s4 a6 = 1) <| bd_ (f_Jx4a65c_get_915e3 s4 a6 l2) fun r7 s8 => gt_ (Option.elim r7 12 (kd_ s8) = 12) <| nn_ r7 fun a9 => gt_ (kd_ s8 a9 = 12) <| lt_ (fi_ s8 1101 a9) fun x10 => bd_ (f_X11_asNumber s8 x10) fun x11 s12 => lt_ (l1 + x11) fun x13 => lt_ (l2 + 1) fun x14 => (f_X11_livingWriters_b4 n) s12 l0 x13 x14)
set_option maxHeartbeats 4000000 in
set_option maxRecDepth 100000 in
theorem t_X11_livingWriters_b4 {l : Launch} {D : va_G} {cy : Nat → ClassId} {ka : Nat → Nat} {σ0 z : TH} {r : Int32}  : ∀ (n : Nat) (σ : TH) (l0 : Nat) (l1 : Int32) (l2 : Int32), f_X11_livingWriters_b4 n σ l0 l1 l2 = some (r, z) → v_ l D cy ka cX11_livingWriters RX11 3 (some FieldType.int) "livingWriters" 3 64 (qf_ D cy σ0 z (some (.int r))) σ0 z σ 4 [(0, va_rf (some l0)), (1, .int l1), (2, .int l2)] [] := by
  intro n
  induction n with
  | zero => intro σ l0 l1 l2 hf; unfold f_X11_livingWriters_b4 at hf; cases hf
  | succ n ih =>
    intro σ l0 l1 l2 hf
    unfold f_X11_livingWriters_b4 at hf
    have hrec_4 := ih
    refine v_iload_n (x := l2) dX11_livingWriters_4 rfl 2 rfl ?_
    refine v_aload_n (x := (some l0)) dX11_livingWriters_5 rfl 0 rfl ?_
    obtain ⟨hk_l0, hf⟩ := gt_of hf
    refine v_getr cb_12 hk_l0 0 1200 rfl (by decide) rfl (lk_n kw_239 rfl) hf dX11_livingWriters_6 (fun r1 hf => ?_)
    obtain ⟨a2, rfl, hf⟩ := nn_of hf
    obtain ⟨hk_a2, hf⟩ := gt_of hf
    obtain ⟨x3, s4, hcs4, hf⟩ := bd_of hf
    have hts4 := c_Jx4a65c_size_8abf5 (l := l) (D := D) (cy := cy) (ka := ka) hcs4
    refine v_callV cb_0 hk_a2 (As := []) (rest := [.int l2]) hts4 yb_Jx4a65c_size_8abf5 kw_311 kw_312 kw_313 rfl ⟨Nat.le_of_ble_eq_true rfl, Nat.le_of_ble_eq_true rfl⟩ rfl (cat_len (Nat.le_of_ble_eq_true rfl)) dX11_livingWriters_9 ?_
    have hk_l0 := tk_ hts4.1 hk_l0
    show v_ l D cy ka cX11_livingWriters RX11 3 (some FieldType.int) "livingWriters" 3 64 (qf_ D cy σ0 z (some (.int r))) σ0 z _ 12 [(0, va_rf (some l0)), (1, .int l1), (2, .int l2)] [.int x3, .int l2]
    refine v_icmp_ge (tgt := 41) hf dX11_livingWriters_12 (by decide) (fun hq hf => ?_) (fun hq hf => ?_)
    · refine v_iload_n (x := l1) dX11_livingWriters_41 rfl 1 rfl ?_
      exact v_iret hf dX11_livingWriters_42
    · refine v_iload_n (x := l1) dX11_livingWriters_15 rfl 1 rfl ?_
      refine v_aload_n (x := (some l0)) dX11_livingWriters_16 rfl 0 rfl ?_
      refine v_getr cb_12 hk_l0 0 1200 rfl (by decide) rfl (lk_n kw_239 rfl) hf dX11_livingWriters_17 (fun r5 hf => ?_)
      refine v_iload_n (x := l2) dX11_livingWriters_20 rfl 2 rfl ?_
      obtain ⟨a6, rfl, hf⟩ := nn_of hf
      obtain ⟨hk_a6, hf⟩ := gt_of hf
      obtain ⟨r7, s8, hcs8, hf⟩ := bd_of hf
      have hts8 := c_Jx4a65c_get_915e3 (l := l) (D := D) (cy := cy) (ka := ka) hcs8
      refine v_callV cb_0 hk_a6 (As := [.int l2]) (rest := [.int l1]) hts8 yb_Jx4a65c_get_915e3 kw_407 kw_408 kw_409 rfl ⟨Nat.le_of_ble_eq_true rfl, Nat.le_of_ble_eq_true rfl⟩ rfl (cat_len (Nat.le_of_ble_eq_true rfl)) dX11_livingWriters_21 ?_
      have hk_l0 := tk_ hts8.1 hk_l0
      show v_ l D cy ka cX11_livingWriters RX11 3 (some FieldType.int) "livingWriters" 3 64 (qf_ D cy σ0 z (some (.int r))) σ0 z _ 24 [(0, va_rf (some l0)), (1, .int l1), (2, .int l2)] [va_rf r7, .int l1]
      refine v_cast cb_11 12 rfl kw_315 hf dX11_livingWriters_24 (fun hf => ?_)
      obtain ⟨a9, rfl, hf⟩ := nn_of hf
      obtain ⟨hk_a9, hf⟩ := gt_of hf
      refine v_geti cb_11 hk_a9 1 1101 rfl (by decide) rfl (lk_n kw_324 rfl) hf dX11_livingWriters_27 (fun x10 hf => ?_)
      obtain ⟨x11, s12, hcs12, hf⟩ := bd_of hf
      have hts12 := c_X11_asNumber (l := l) (D := D) (cy := cy) (ka := ka) hcs12
      refine v_callS (As := [.int x10]) (rest := [.int l1]) hts12 yb_X11_asNumber kw_442 kw_443 rfl ⟨Nat.le_of_ble_eq_true rfl, Nat.le_of_ble_eq_true rfl⟩ rfl (cat_len (Nat.le_of_ble_eq_true rfl)) dX11_livingWriters_30 ?_
      have hk_l0 := tk_ hts12.1 hk_l0
      show v_ l D cy ka cX11_livingWriters RX11 3 (some FieldType.int) "livingWriters" 3 64 (qf_ D cy σ0 z (some (.int r))) σ0 z _ 33 [(0, va_rf (some l0)), (1, .int l1), (2, .int l2)] [.int x11, .int l1]
      refine v_iadd dX11_livingWriters_33 ?_
      obtain ⟨x13, ex13⟩ : ∃ y : Int32, y = l1 + x11 := ⟨_, rfl⟩
      rw [lt_e, ← ex13] at hf
      rw [← ex13]
      refine v_istore_n [(1, .int x13), (0, va_rf (some l0)), (2, .int l2)] dX11_livingWriters_34 rfl (by decide) rfl ?_
      obtain ⟨x14, ex14⟩ : ∃ y : Int32, y = l2 + 1 := ⟨_, rfl⟩
      rw [lt_e, ← ex14] at hf
      refine v_iinc (v := x14) [(2, .int x14), (1, .int x13), (0, va_rf (some l0))] dX11_livingWriters_35 2 rfl (by rw [ex14]; rfl) (by decide) rfl ?_
      refine v_goto (tgt := 4) dX11_livingWriters_38 (by decide) ?_
      refine v_sub [2, 1, 0] (L2 := [(0, va_rf (some l0)), (1, .int x13), (2, .int x14)]) rfl ?_
      exact hrec_4 _ _ _ _ hf
/-- LivesAhead.livingWriters()I -/
def f_X11_livingWriters (σ : TH) (p0 : Nat) : Option (Int32 × TH) :=
  f_X11_livingWriters_b4 fu_ σ p0 (0 : Int32) (0 : Int32)
set_option maxHeartbeats 4000000 in
set_option maxRecDepth 100000 in
theorem c_X11_livingWriters {l : Launch} {D : va_G} {cy : Nat → ClassId} {ka : Nat → Nat} {σ z : TH} {p0 : Nat} {r : Int32} (hf : f_X11_livingWriters σ p0 = some (r, z)) : ct_ l D cy ka yX11_livingWriters 3 64 [va_rf (some p0)] σ (some (.int r)) z := by
  unfold f_X11_livingWriters at hf
  refine v_start (cc := cX11_livingWriters) (own := RX11) (maxL := 3) (ret := (some FieldType.int)) (nm := "livingWriters") (by decide +kernel) kw_1338 rfl rfl (by simp [lg_sl, va_rf_cat, cat_i, cat_l]) ?_
  refine v_eqL (L2 := [(0, va_rf (some p0))]) (by simp [lv_args, va_rf_cat, cat_i, cat_l]) ?_
  refine v_iconst (v := 0) dX11_livingWriters_0 (by decide) ?_
  refine v_istore_n [(1, .int (0 : Int32)), (0, va_rf (some p0))] dX11_livingWriters_1 rfl (by decide) rfl ?_
  refine v_iconst (v := 0) dX11_livingWriters_2 (by decide) ?_
  refine v_istore_n [(2, .int (0 : Int32)), (1, .int (0 : Int32)), (0, va_rf (some p0))] dX11_livingWriters_3 rfl (by decide) rfl ?_
  refine v_sub [2, 1, 0] (L2 := [(0, va_rf (some p0)), (1, .int (0 : Int32)), (2, .int (0 : Int32))]) rfl ?_
  exact t_X11_livingWriters_b4  _ _ _ _ _ hf
theorem dX11_count_0 : decode cX11_count 0 = .ok (.iload_n 1, 1) := by decide +kernel
theorem dX11_count_1 : decode cX11_count 1 = .ok (.tableswitch 157 0 12 #[67, 75, 80, 85, 90, 95, 103, 111, 119, 127, 135, 140, 149], 67) := by decide +kernel
theorem dX11_count_68 : decode cX11_count 68 = .ok (.aload_n 0, 1) := by decide +kernel
theorem dX11_count_69 : decode cX11_count 69 = .ok (.getfield 16, 3) := by decide +kernel
theorem dX11_count_72 : decode cX11_count 72 = .ok (.invokevirtual 101, 3) := by decide +kernel
theorem dX11_count_75 : decode cX11_count 75 = .ok (.ireturn, 1) := by decide +kernel
theorem dX11_count_76 : decode cX11_count 76 = .ok (.aload_n 0, 1) := by decide +kernel
theorem dX11_count_77 : decode cX11_count 77 = .ok (.invokevirtual 461, 3) := by decide +kernel
theorem dX11_count_80 : decode cX11_count 80 = .ok (.ireturn, 1) := by decide +kernel
theorem dX11_count_81 : decode cX11_count 81 = .ok (.aload_n 0, 1) := by decide +kernel
theorem dX11_count_82 : decode cX11_count 82 = .ok (.invokevirtual 464, 3) := by decide +kernel
theorem dX11_count_85 : decode cX11_count 85 = .ok (.ireturn, 1) := by decide +kernel
theorem dX11_count_86 : decode cX11_count 86 = .ok (.aload_n 0, 1) := by decide +kernel
theorem dX11_count_87 : decode cX11_count 87 = .ok (.getfield 59, 3) := by decide +kernel
theorem dX11_count_90 : decode cX11_count 90 = .ok (.ireturn, 1) := by decide +kernel
theorem dX11_count_91 : decode cX11_count 91 = .ok (.aload_n 0, 1) := by decide +kernel
theorem dX11_count_92 : decode cX11_count 92 = .ok (.getfield 63, 3) := by decide +kernel
theorem dX11_count_95 : decode cX11_count 95 = .ok (.ireturn, 1) := by decide +kernel
theorem dX11_count_96 : decode cX11_count 96 = .ok (.aload_n 0, 1) := by decide +kernel
theorem dX11_count_97 : decode cX11_count 97 = .ok (.getfield 22, 3) := by decide +kernel
theorem dX11_count_100 : decode cX11_count 100 = .ok (.invokevirtual 101, 3) := by decide +kernel
theorem dX11_count_103 : decode cX11_count 103 = .ok (.ireturn, 1) := by decide +kernel
theorem dX11_count_104 : decode cX11_count 104 = .ok (.aload_n 0, 1) := by decide +kernel
theorem dX11_count_105 : decode cX11_count 105 = .ok (.getfield 19, 3) := by decide +kernel
theorem dX11_count_108 : decode cX11_count 108 = .ok (.invokevirtual 101, 3) := by decide +kernel
theorem dX11_count_111 : decode cX11_count 111 = .ok (.ireturn, 1) := by decide +kernel
theorem dX11_count_112 : decode cX11_count 112 = .ok (.aload_n 0, 1) := by decide +kernel
theorem dX11_count_113 : decode cX11_count 113 = .ok (.getfield 25, 3) := by decide +kernel
theorem dX11_count_116 : decode cX11_count 116 = .ok (.invokevirtual 101, 3) := by decide +kernel
theorem dX11_count_119 : decode cX11_count 119 = .ok (.ireturn, 1) := by decide +kernel
theorem dX11_count_120 : decode cX11_count 120 = .ok (.aload_n 0, 1) := by decide +kernel
theorem dX11_count_121 : decode cX11_count 121 = .ok (.getfield 28, 3) := by decide +kernel
theorem dX11_count_124 : decode cX11_count 124 = .ok (.invokevirtual 101, 3) := by decide +kernel
theorem dX11_count_127 : decode cX11_count 127 = .ok (.ireturn, 1) := by decide +kernel
theorem dX11_count_128 : decode cX11_count 128 = .ok (.aload_n 0, 1) := by decide +kernel
theorem dX11_count_129 : decode cX11_count 129 = .ok (.getfield 31, 3) := by decide +kernel
theorem dX11_count_132 : decode cX11_count 132 = .ok (.invokevirtual 101, 3) := by decide +kernel
theorem dX11_count_135 : decode cX11_count 135 = .ok (.ireturn, 1) := by decide +kernel
theorem dX11_count_136 : decode cX11_count 136 = .ok (.aload_n 0, 1) := by decide +kernel
theorem dX11_count_137 : decode cX11_count 137 = .ok (.invokevirtual 188, 3) := by decide +kernel
theorem dX11_count_140 : decode cX11_count 140 = .ok (.ireturn, 1) := by decide +kernel
theorem dX11_count_141 : decode cX11_count 141 = .ok (.aload_n 0, 1) := by decide +kernel
theorem dX11_count_142 : decode cX11_count 142 = .ok (.getfield 66, 3) := by decide +kernel
theorem dX11_count_145 : decode cX11_count 145 = .ok (.sipush 1440, 3) := by decide +kernel
theorem dX11_count_148 : decode cX11_count 148 = .ok (.irem, 1) := by decide +kernel
theorem dX11_count_149 : decode cX11_count 149 = .ok (.ireturn, 1) := by decide +kernel
theorem dX11_count_150 : decode cX11_count 150 = .ok (.aload_n 0, 1) := by decide +kernel
theorem dX11_count_151 : decode cX11_count 151 = .ok (.getfield 41, 3) := by decide +kernel
theorem dX11_count_154 : decode cX11_count 154 = .ok (.getfield 248, 3) := by decide +kernel
theorem dX11_count_157 : decode cX11_count 157 = .ok (.ireturn, 1) := by decide +kernel
theorem dX11_count_158 : decode cX11_count 158 = .ok (.iconst (-1), 1) := by decide +kernel
theorem dX11_count_159 : decode cX11_count 159 = .ok (.ireturn, 1) := by decide +kernel
/-- LivesAhead.count(I)I -/
def f_X11_count (σ : TH) (p0 : Nat) (p1 : Int32) : Option (Int32 × TH) :=
  if p1 = 0 then (gt_ (kd_ σ p0 = 13) <| lt_ (fr_ σ 1201 p0) fun r1 => nn_ r1 fun a2 => gt_ (kd_ σ a2 = 1) <| bd_ (f_Jx4a65c_size_8abf5 σ a2) fun x3 s4 => some (x3, s4)) else if p1 = 1 then (gt_ (kd_ σ p0 = 13) <| bd_ (f_X11_deadPeople σ p0) fun x5 s6 => some (x5, s6)) else if p1 = 2 then (gt_ (kd_ σ p0 = 13) <| bd_ (f_X11_livingWriters σ p0) fun x7 s8 => some (x7, s8)) else if p1 = 3 then (gt_ (kd_ σ p0 = 13) <| lt_ (fi_ σ 1211 p0) fun x9 => some (x9, σ)) else if p1 = 4 then (gt_ (kd_ σ p0 = 13) <| lt_ (fi_ σ 1212 p0) fun x10 => some (x10, σ)) else if p1 = 5 then (gt_ (kd_ σ p0 = 13) <| lt_ (fr_ σ 1203 p0) fun r11 => nn_ r11 fun a12 => gt_ (kd_ σ a12 = 1) <| bd_ (f_Jx4a65c_size_8abf5 σ a12) fun x13 s14 => some (x13, s14)) else if p1 = 6 then (gt_ (kd_ σ p0 = 13) <| lt_ (fr_ σ 1202 p0) fun r15 => nn_ r15 fun a16 => gt_ (kd_ σ a16 = 1) <| bd_ (f_Jx4a65c_size_8abf5 σ a16) fun x17 s18 => some (x17, s18)) else if p1 = 7 then (gt_ (kd_ σ p0 = 13) <| lt_ (fr_ σ 1204 p0) fun r19 => nn_ r19 fun a20 => gt_ (kd_ σ a20 = 1) <| bd_ (f_Jx4a65c_size_8abf5 σ a20) fun x21 s22 => some (x21, s22)) else if p1 = 8 then (gt_ (kd_ σ p0 = 13) <| lt_ (fr_ σ 1205 p0) fun r23 => nn_ r23 fun a24 => gt_ (kd_ σ a24 = 1) <| bd_ (f_Jx4a65c_size_8abf5 σ a24) fun x25 s26 => some (x25, s26)) else if p1 = 9 then (gt_ (kd_ σ p0 = 13) <| lt_ (fr_ σ 1206 p0) fun r27 => nn_ r27 fun a28 => gt_ (kd_ σ a28 = 1) <| bd_ (f_Jx4a65c_size_8abf5 σ a28) fun x29 s30 => some (x29, s30)) else if p1 = 10 then (gt_ (kd_ σ p0 = 13) <| bd_ (f_X11_today σ p0) fun x31 s32 => some (x31, s32)) else if p1 = 11 then (gt_ (kd_ σ p0 = 13) <| lt_ (fi_ σ 1213 p0) fun x33 => gt_ (¬ (1440 : Int32) = 0) <| some (x33 - x33 / (1440 : Int32) * (1440 : Int32), σ)) else if p1 = 12 then (gt_ (kd_ σ p0 = 13) <| lt_ (fr_ σ 1208 p0) fun r34 => nn_ r34 fun a35 => gt_ (kd_ σ a35 = 8) <| lt_ (fi_ σ 701 a35) fun x36 => some (x36, σ)) else (some ((-1 : Int32), σ))
set_option maxHeartbeats 4000000 in
set_option maxRecDepth 100000 in
theorem c_X11_count {l : Launch} {D : va_G} {cy : Nat → ClassId} {ka : Nat → Nat} {σ z : TH} {p0 : Nat} {p1 : Int32} {r : Int32} (hf : f_X11_count σ p0 p1 = some (r, z)) : ct_ l D cy ka yX11_count 4 86 [va_rf (some p0), .int p1] σ (some (.int r)) z := by
  unfold f_X11_count at hf
  refine v_start (cc := cX11_count) (own := RX11) (maxL := 2) (ret := (some FieldType.int)) (nm := "count") (by decide +kernel) kw_1330 rfl rfl (by simp [lg_sl, va_rf_cat, cat_i, cat_l]) ?_
  refine v_eqL (L2 := [(0, va_rf (some p0)), (1, .int p1)]) (by simp [lv_args, va_rf_cat, cat_i, cat_l]) ?_
  refine v_iload_n (x := p1) dX11_count_0 rfl 1 rfl ?_
  by_cases hq0 : p1 = 0
  · rw [if_pos hq0] at hf
    refine v_tswIn (tgt := 68) (c9 := 0) hq0 dX11_count_1 (by decide) (by decide) rfl (by decide) ?_
    refine v_aload_n (x := (some p0)) dX11_count_68 rfl 0 rfl ?_
    obtain ⟨hk_p0, hf⟩ := gt_of hf
    refine v_getr cb_12 hk_p0 1 1201 rfl (by decide) rfl (lk_n kw_240 rfl) hf dX11_count_69 (fun r1 hf => ?_)
    obtain ⟨a2, rfl, hf⟩ := nn_of hf
    obtain ⟨hk_a2, hf⟩ := gt_of hf
    obtain ⟨x3, s4, hcs4, hf⟩ := bd_of hf
    have hts4 := c_Jx4a65c_size_8abf5 (l := l) (D := D) (cy := cy) (ka := ka) hcs4
    refine v_callV cb_0 hk_a2 (As := []) (rest := []) hts4 yb_Jx4a65c_size_8abf5 kw_311 kw_312 kw_313 rfl ⟨Nat.le_of_ble_eq_true rfl, Nat.le_of_ble_eq_true rfl⟩ rfl (cat_len (Nat.le_of_ble_eq_true rfl)) dX11_count_72 ?_
    have hk_p0 := tk_ hts4.1 hk_p0
    show v_ l D cy ka cX11_count RX11 2 (some FieldType.int) "count" 4 86 (qf_ D cy σ z (some (.int r))) σ z _ 75 [(0, va_rf (some p0)), (1, .int p1)] [.int x3]
    exact v_iret hf dX11_count_75
  rw [if_neg hq0] at hf
  by_cases hq1 : p1 = 1
  · rw [if_pos hq1] at hf
    refine v_tswIn (tgt := 76) (c9 := 1) hq1 dX11_count_1 (by decide) (by decide) rfl (by decide) ?_
    refine v_aload_n (x := (some p0)) dX11_count_76 rfl 0 rfl ?_
    obtain ⟨hk_p0, hf⟩ := gt_of hf
    obtain ⟨x5, s6, hcs6, hf⟩ := bd_of hf
    have hts6 := c_X11_deadPeople (l := l) (D := D) (cy := cy) (ka := ka) hcs6
    refine v_callV cb_12 hk_p0 (As := []) (rest := []) hts6 yb_X11_deadPeople kw_1331 kw_1333 kp_74 rfl ⟨Nat.le_of_ble_eq_true rfl, Nat.le_of_ble_eq_true rfl⟩ rfl (cat_len (Nat.le_of_ble_eq_true rfl)) dX11_count_77 ?_
    have hk_p0 := tk_ hts6.1 hk_p0
    show v_ l D cy ka cX11_count RX11 2 (some FieldType.int) "count" 4 86 (qf_ D cy σ z (some (.int r))) σ z _ 80 [(0, va_rf (some p0)), (1, .int p1)] [.int x5]
    exact v_iret hf dX11_count_80
  rw [if_neg hq1] at hf
  by_cases hq2 : p1 = 2
  · rw [if_pos hq2] at hf
    refine v_tswIn (tgt := 81) (c9 := 2) hq2 dX11_count_1 (by decide) (by decide) rfl (by decide) ?_
    refine v_aload_n (x := (some p0)) dX11_count_81 rfl 0 rfl ?_
    obtain ⟨hk_p0, hf⟩ := gt_of hf
    obtain ⟨x7, s8, hcs8, hf⟩ := bd_of hf
    have hts8 := c_X11_livingWriters (l := l) (D := D) (cy := cy) (ka := ka) hcs8
    refine v_callV cb_12 hk_p0 (As := []) (rest := []) hts8 yb_X11_livingWriters kw_1335 kw_1337 kp_75 rfl ⟨Nat.le_of_ble_eq_true rfl, Nat.le_of_ble_eq_true rfl⟩ rfl (cat_len (Nat.le_of_ble_eq_true rfl)) dX11_count_82 ?_
    have hk_p0 := tk_ hts8.1 hk_p0
    show v_ l D cy ka cX11_count RX11 2 (some FieldType.int) "count" 4 86 (qf_ D cy σ z (some (.int r))) σ z _ 85 [(0, va_rf (some p0)), (1, .int p1)] [.int x7]
    exact v_iret hf dX11_count_85
  rw [if_neg hq2] at hf
  by_cases hq3 : p1 = 3
  · rw [if_pos hq3] at hf
    refine v_tswIn (tgt := 86) (c9 := 3) hq3 dX11_count_1 (by decide) (by decide) rfl (by decide) ?_
    refine v_aload_n (x := (some p0)) dX11_count_86 rfl 0 rfl ?_
    obtain ⟨hk_p0, hf⟩ := gt_of hf
    refine v_geti cb_12 hk_p0 11 1211 rfl (by decide) rfl (lk_n kw_250 rfl) hf dX11_count_87 (fun x9 hf => ?_)
    exact v_iret hf dX11_count_90
  rw [if_neg hq3] at hf
  by_cases hq4 : p1 = 4
  · rw [if_pos hq4] at hf
    refine v_tswIn (tgt := 91) (c9 := 4) hq4 dX11_count_1 (by decide) (by decide) rfl (by decide) ?_
    refine v_aload_n (x := (some p0)) dX11_count_91 rfl 0 rfl ?_
    obtain ⟨hk_p0, hf⟩ := gt_of hf
    refine v_geti cb_12 hk_p0 12 1212 rfl (by decide) rfl (lk_n kw_251 rfl) hf dX11_count_92 (fun x10 hf => ?_)
    exact v_iret hf dX11_count_95
  rw [if_neg hq4] at hf
  by_cases hq5 : p1 = 5
  · rw [if_pos hq5] at hf
    refine v_tswIn (tgt := 96) (c9 := 5) hq5 dX11_count_1 (by decide) (by decide) rfl (by decide) ?_
    refine v_aload_n (x := (some p0)) dX11_count_96 rfl 0 rfl ?_
    obtain ⟨hk_p0, hf⟩ := gt_of hf
    refine v_getr cb_12 hk_p0 3 1203 rfl (by decide) rfl (lk_n kw_242 rfl) hf dX11_count_97 (fun r11 hf => ?_)
    obtain ⟨a12, rfl, hf⟩ := nn_of hf
    obtain ⟨hk_a12, hf⟩ := gt_of hf
    obtain ⟨x13, s14, hcs14, hf⟩ := bd_of hf
    have hts14 := c_Jx4a65c_size_8abf5 (l := l) (D := D) (cy := cy) (ka := ka) hcs14
    refine v_callV cb_0 hk_a12 (As := []) (rest := []) hts14 yb_Jx4a65c_size_8abf5 kw_311 kw_312 kw_313 rfl ⟨Nat.le_of_ble_eq_true rfl, Nat.le_of_ble_eq_true rfl⟩ rfl (cat_len (Nat.le_of_ble_eq_true rfl)) dX11_count_100 ?_
    have hk_p0 := tk_ hts14.1 hk_p0
    show v_ l D cy ka cX11_count RX11 2 (some FieldType.int) "count" 4 86 (qf_ D cy σ z (some (.int r))) σ z _ 103 [(0, va_rf (some p0)), (1, .int p1)] [.int x13]
    exact v_iret hf dX11_count_103
  rw [if_neg hq5] at hf
  by_cases hq6 : p1 = 6
  · rw [if_pos hq6] at hf
    refine v_tswIn (tgt := 104) (c9 := 6) hq6 dX11_count_1 (by decide) (by decide) rfl (by decide) ?_
    refine v_aload_n (x := (some p0)) dX11_count_104 rfl 0 rfl ?_
    obtain ⟨hk_p0, hf⟩ := gt_of hf
    refine v_getr cb_12 hk_p0 2 1202 rfl (by decide) rfl (lk_n kw_241 rfl) hf dX11_count_105 (fun r15 hf => ?_)
    obtain ⟨a16, rfl, hf⟩ := nn_of hf
    obtain ⟨hk_a16, hf⟩ := gt_of hf
    obtain ⟨x17, s18, hcs18, hf⟩ := bd_of hf
    have hts18 := c_Jx4a65c_size_8abf5 (l := l) (D := D) (cy := cy) (ka := ka) hcs18
    refine v_callV cb_0 hk_a16 (As := []) (rest := []) hts18 yb_Jx4a65c_size_8abf5 kw_311 kw_312 kw_313 rfl ⟨Nat.le_of_ble_eq_true rfl, Nat.le_of_ble_eq_true rfl⟩ rfl (cat_len (Nat.le_of_ble_eq_true rfl)) dX11_count_108 ?_
    have hk_p0 := tk_ hts18.1 hk_p0
    show v_ l D cy ka cX11_count RX11 2 (some FieldType.int) "count" 4 86 (qf_ D cy σ z (some (.int r))) σ z _ 111 [(0, va_rf (some p0)), (1, .int p1)] [.int x17]
    exact v_iret hf dX11_count_111
  rw [if_neg hq6] at hf
  by_cases hq7 : p1 = 7
  · rw [if_pos hq7] at hf
    refine v_tswIn (tgt := 112) (c9 := 7) hq7 dX11_count_1 (by decide) (by decide) rfl (by decide) ?_
    refine v_aload_n (x := (some p0)) dX11_count_112 rfl 0 rfl ?_
    obtain ⟨hk_p0, hf⟩ := gt_of hf
    refine v_getr cb_12 hk_p0 4 1204 rfl (by decide) rfl (lk_n kw_243 rfl) hf dX11_count_113 (fun r19 hf => ?_)
    obtain ⟨a20, rfl, hf⟩ := nn_of hf
    obtain ⟨hk_a20, hf⟩ := gt_of hf
    obtain ⟨x21, s22, hcs22, hf⟩ := bd_of hf
    have hts22 := c_Jx4a65c_size_8abf5 (l := l) (D := D) (cy := cy) (ka := ka) hcs22
    refine v_callV cb_0 hk_a20 (As := []) (rest := []) hts22 yb_Jx4a65c_size_8abf5 kw_311 kw_312 kw_313 rfl ⟨Nat.le_of_ble_eq_true rfl, Nat.le_of_ble_eq_true rfl⟩ rfl (cat_len (Nat.le_of_ble_eq_true rfl)) dX11_count_116 ?_
    have hk_p0 := tk_ hts22.1 hk_p0
    show v_ l D cy ka cX11_count RX11 2 (some FieldType.int) "count" 4 86 (qf_ D cy σ z (some (.int r))) σ z _ 119 [(0, va_rf (some p0)), (1, .int p1)] [.int x21]
    exact v_iret hf dX11_count_119
  rw [if_neg hq7] at hf
  by_cases hq8 : p1 = 8
  · rw [if_pos hq8] at hf
    refine v_tswIn (tgt := 120) (c9 := 8) hq8 dX11_count_1 (by decide) (by decide) rfl (by decide) ?_
    refine v_aload_n (x := (some p0)) dX11_count_120 rfl 0 rfl ?_
    obtain ⟨hk_p0, hf⟩ := gt_of hf
    refine v_getr cb_12 hk_p0 5 1205 rfl (by decide) rfl (lk_n kw_244 rfl) hf dX11_count_121 (fun r23 hf => ?_)
    obtain ⟨a24, rfl, hf⟩ := nn_of hf
    obtain ⟨hk_a24, hf⟩ := gt_of hf
    obtain ⟨x25, s26, hcs26, hf⟩ := bd_of hf
    have hts26 := c_Jx4a65c_size_8abf5 (l := l) (D := D) (cy := cy) (ka := ka) hcs26
    refine v_callV cb_0 hk_a24 (As := []) (rest := []) hts26 yb_Jx4a65c_size_8abf5 kw_311 kw_312 kw_313 rfl ⟨Nat.le_of_ble_eq_true rfl, Nat.le_of_ble_eq_true rfl⟩ rfl (cat_len (Nat.le_of_ble_eq_true rfl)) dX11_count_124 ?_
    have hk_p0 := tk_ hts26.1 hk_p0
    show v_ l D cy ka cX11_count RX11 2 (some FieldType.int) "count" 4 86 (qf_ D cy σ z (some (.int r))) σ z _ 127 [(0, va_rf (some p0)), (1, .int p1)] [.int x25]
    exact v_iret hf dX11_count_127
  rw [if_neg hq8] at hf
  by_cases hq9 : p1 = 9
  · rw [if_pos hq9] at hf
    refine v_tswIn (tgt := 128) (c9 := 9) hq9 dX11_count_1 (by decide) (by decide) rfl (by decide) ?_
    refine v_aload_n (x := (some p0)) dX11_count_128 rfl 0 rfl ?_
    obtain ⟨hk_p0, hf⟩ := gt_of hf
    refine v_getr cb_12 hk_p0 6 1206 rfl (by decide) rfl (lk_n kw_245 rfl) hf dX11_count_129 (fun r27 hf => ?_)
    obtain ⟨a28, rfl, hf⟩ := nn_of hf
    obtain ⟨hk_a28, hf⟩ := gt_of hf
    obtain ⟨x29, s30, hcs30, hf⟩ := bd_of hf
    have hts30 := c_Jx4a65c_size_8abf5 (l := l) (D := D) (cy := cy) (ka := ka) hcs30
    refine v_callV cb_0 hk_a28 (As := []) (rest := []) hts30 yb_Jx4a65c_size_8abf5 kw_311 kw_312 kw_313 rfl ⟨Nat.le_of_ble_eq_true rfl, Nat.le_of_ble_eq_true rfl⟩ rfl (cat_len (Nat.le_of_ble_eq_true rfl)) dX11_count_132 ?_
    have hk_p0 := tk_ hts30.1 hk_p0
    show v_ l D cy ka cX11_count RX11 2 (some FieldType.int) "count" 4 86 (qf_ D cy σ z (some (.int r))) σ z _ 135 [(0, va_rf (some p0)), (1, .int p1)] [.int x29]
    exact v_iret hf dX11_count_135
  rw [if_neg hq9] at hf
  by_cases hq10 : p1 = 10
  · rw [if_pos hq10] at hf
    refine v_tswIn (tgt := 136) (c9 := 10) hq10 dX11_count_1 (by decide) (by decide) rfl (by decide) ?_
    refine v_aload_n (x := (some p0)) dX11_count_136 rfl 0 rfl ?_
    obtain ⟨hk_p0, hf⟩ := gt_of hf
    obtain ⟨x31, s32, hcs32, hf⟩ := bd_of hf
    have hts32 := c_X11_today (l := l) (D := D) (cy := cy) (ka := ka) hcs32
    refine v_callV cb_12 hk_p0 (As := []) (rest := []) hts32 yb_X11_today kw_538 kw_540 kp_13 rfl ⟨Nat.le_of_ble_eq_true rfl, Nat.le_of_ble_eq_true rfl⟩ rfl (cat_len (Nat.le_of_ble_eq_true rfl)) dX11_count_137 ?_
    have hk_p0 := tk_ hts32.1 hk_p0
    show v_ l D cy ka cX11_count RX11 2 (some FieldType.int) "count" 4 86 (qf_ D cy σ z (some (.int r))) σ z _ 140 [(0, va_rf (some p0)), (1, .int p1)] [.int x31]
    exact v_iret hf dX11_count_140
  rw [if_neg hq10] at hf
  by_cases hq11 : p1 = 11
  · rw [if_pos hq11] at hf
    refine v_tswIn (tgt := 141) (c9 := 11) hq11 dX11_count_1 (by decide) (by decide) rfl (by decide) ?_
    refine v_aload_n (x := (some p0)) dX11_count_141 rfl 0 rfl ?_
    obtain ⟨hk_p0, hf⟩ := gt_of hf
    refine v_geti cb_12 hk_p0 13 1213 rfl (by decide) rfl (lk_n kw_252 rfl) hf dX11_count_142 (fun x33 hf => ?_)
    refine v_sipush (v := 1440) dX11_count_145 (by decide) ?_
    refine v_irem hf dX11_count_148 (fun hf => ?_)
    exact v_iret hf dX11_count_149
  rw [if_neg hq11] at hf
  by_cases hq12 : p1 = 12
  · rw [if_pos hq12] at hf
    refine v_tswIn (tgt := 150) (c9 := 12) hq12 dX11_count_1 (by decide) (by decide) rfl (by decide) ?_
    refine v_aload_n (x := (some p0)) dX11_count_150 rfl 0 rfl ?_
    obtain ⟨hk_p0, hf⟩ := gt_of hf
    refine v_getr cb_12 hk_p0 8 1208 rfl (by decide) rfl (lk_n kw_247 rfl) hf dX11_count_151 (fun r34 hf => ?_)
    obtain ⟨a35, rfl, hf⟩ := nn_of hf
    obtain ⟨hk_a35, hf⟩ := gt_of hf
    refine v_geti cb_7 hk_a35 1 701 rfl (by decide) rfl (lk_n kw_76 rfl) hf dX11_count_154 (fun x36 hf => ?_)
    exact v_iret hf dX11_count_157
  rw [if_neg hq12] at hf
  refine v_tswOut (tgt := 158) 13 0 (by decide) (by decide) (fun j hj => ?_) (by decide) (by decide) dX11_count_1 (by decide) ?_
  · match j, hj with
    | 0, _ => exact hq0
    | 1, _ => exact hq1
    | 2, _ => exact hq2
    | 3, _ => exact hq3
    | 4, _ => exact hq4
    | 5, _ => exact hq5
    | 6, _ => exact hq6
    | 7, _ => exact hq7
    | 8, _ => exact hq8
    | 9, _ => exact hq9
    | 10, _ => exact hq10
    | 11, _ => exact hq11
    | 12, _ => exact hq12
    | j + 13, hj => exact absurd hj (by omega)
  · refine v_iconst (v := (-1)) dX11_count_158 (by decide) ?_
    exact v_iret hf dX11_count_159
theorem dX11_layPicture_0 : decode cX11_layPicture 0 = .ok (.aconst_null, 1) := by decide +kernel
theorem dX11_layPicture_1 : decode cX11_layPicture 1 = .ok (.astore_n 3, 1) := by decide +kernel
theorem dX11_layPicture_2 : decode cX11_layPicture 2 = .ok (.iconst 0, 1) := by decide +kernel
theorem dX11_layPicture_3 : decode cX11_layPicture 3 = .ok (.istore 4, 2) := by decide +kernel
theorem dX11_layPicture_5 : decode cX11_layPicture 5 = .ok (.iload 4, 2) := by decide +kernel
theorem dX11_layPicture_7 : decode cX11_layPicture 7 = .ok (.aload_n 0, 1) := by decide +kernel
theorem dX11_layPicture_8 : decode cX11_layPicture 8 = .ok (.getfield 25, 3) := by decide +kernel
theorem dX11_layPicture_11 : decode cX11_layPicture 11 = .ok (.invokevirtual 101, 3) := by decide +kernel
theorem dX11_layPicture_14 : decode cX11_layPicture 14 = .ok (.if_icmp .ge 91, 3) := by decide +kernel
theorem dX11_layPicture_17 : decode cX11_layPicture 17 = .ok (.iload_n 2, 1) := by decide +kernel
theorem dX11_layPicture_18 : decode cX11_layPicture 18 = .ok (.sipush 200, 3) := by decide +kernel
theorem dX11_layPicture_21 : decode cX11_layPicture 21 = .ok (.if_icmp .lt 84, 3) := by decide +kernel
theorem dX11_layPicture_24 : decode cX11_layPicture 24 = .ok (.aload_n 0, 1) := by decide +kernel
theorem dX11_layPicture_25 : decode cX11_layPicture 25 = .ok (.getfield 25, 3) := by decide +kernel
theorem dX11_layPicture_28 : decode cX11_layPicture 28 = .ok (.iload 4, 2) := by decide +kernel
theorem dX11_layPicture_30 : decode cX11_layPicture 30 = .ok (.invokevirtual 238, 3) := by decide +kernel
theorem dX11_layPicture_33 : decode cX11_layPicture 33 = .ok (.checkcast 359, 3) := by decide +kernel
theorem dX11_layPicture_36 : decode cX11_layPicture 36 = .ok (.astore 5, 2) := by decide +kernel
theorem dX11_layPicture_38 : decode cX11_layPicture 38 = .ok (.aload 5, 2) := by decide +kernel
theorem dX11_layPicture_40 : decode cX11_layPicture 40 = .ok (.getfield 509, 3) := by decide +kernel
theorem dX11_layPicture_43 : decode cX11_layPicture 43 = .ok (.aload_n 1, 1) := by decide +kernel
theorem dX11_layPicture_44 : decode cX11_layPicture 44 = .ok (.getfield 401, 3) := by decide +kernel
theorem dX11_layPicture_47 : decode cX11_layPicture 47 = .ok (.if_icmp .ne 19, 3) := by decide +kernel
theorem dX11_layPicture_50 : decode cX11_layPicture 50 = .ok (.aload 5, 2) := by decide +kernel
theorem dX11_layPicture_52 : decode cX11_layPicture 52 = .ok (.aload_n 1, 1) := by decide +kernel
theorem dX11_layPicture_53 : decode cX11_layPicture 53 = .ok (.getfield 404, 3) := by decide +kernel
theorem dX11_layPicture_56 : decode cX11_layPicture 56 = .ok (.invokevirtual 510, 3) := by decide +kernel
theorem dX11_layPicture_59 : decode cX11_layPicture 59 = .ok (.ifCond .eq 7, 3) := by decide +kernel
theorem dX11_layPicture_62 : decode cX11_layPicture 62 = .ok (.iconst 1, 1) := by decide +kernel
theorem dX11_layPicture_63 : decode cX11_layPicture 63 = .ok (.goto 4, 3) := by decide +kernel
theorem dX11_layPicture_66 : decode cX11_layPicture 66 = .ok (.iconst 0, 1) := by decide +kernel
theorem dX11_layPicture_67 : decode cX11_layPicture 67 = .ok (.istore 6, 2) := by decide +kernel
theorem dX11_layPicture_69 : decode cX11_layPicture 69 = .ok (.iload 6, 2) := by decide +kernel
theorem dX11_layPicture_71 : decode cX11_layPicture 71 = .ok (.ifCond .eq 28, 3) := by decide +kernel
theorem dX11_layPicture_74 : decode cX11_layPicture 74 = .ok (.aload_n 3, 1) := by decide +kernel
theorem dX11_layPicture_75 : decode cX11_layPicture 75 = .ok (.ifnull 15, 3) := by decide +kernel
theorem dX11_layPicture_78 : decode cX11_layPicture 78 = .ok (.aload 5, 2) := by decide +kernel
theorem dX11_layPicture_80 : decode cX11_layPicture 80 = .ok (.getfield 513, 3) := by decide +kernel
theorem dX11_layPicture_83 : decode cX11_layPicture 83 = .ok (.aload_n 3, 1) := by decide +kernel
theorem dX11_layPicture_84 : decode cX11_layPicture 84 = .ok (.getfield 513, 3) := by decide +kernel
theorem dX11_layPicture_87 : decode cX11_layPicture 87 = .ok (.if_icmp .le 12, 3) := by decide +kernel
theorem dX11_layPicture_90 : decode cX11_layPicture 90 = .ok (.aload 5, 2) := by decide +kernel
theorem dX11_layPicture_92 : decode cX11_layPicture 92 = .ok (.astore_n 3, 1) := by decide +kernel
theorem dX11_layPicture_93 : decode cX11_layPicture 93 = .ok (.aload_n 1, 1) := by decide +kernel
theorem dX11_layPicture_94 : decode cX11_layPicture 94 = .ok (.iload 4, 2) := by decide +kernel
theorem dX11_layPicture_96 : decode cX11_layPicture 96 = .ok (.putfield 405, 3) := by decide +kernel
theorem dX11_layPicture_99 : decode cX11_layPicture 99 = .ok (.iinc 4 1, 3) := by decide +kernel
theorem dX11_layPicture_102 : decode cX11_layPicture 102 = .ok (.goto (-97), 3) := by decide +kernel
theorem dX11_layPicture_105 : decode cX11_layPicture 105 = .ok (.aload_n 3, 1) := by decide +kernel
theorem dX11_layPicture_106 : decode cX11_layPicture 106 = .ok (.ifnull 20, 3) := by decide +kernel
theorem dX11_layPicture_109 : decode cX11_layPicture 109 = .ok (.aload_n 3, 1) := by decide +kernel
theorem dX11_layPicture_110 : decode cX11_layPicture 110 = .ok (.dup, 1) := by decide +kernel
theorem dX11_layPicture_111 : decode cX11_layPicture 111 = .ok (.getfield 362, 3) := by decide +kernel
theorem dX11_layPicture_114 : decode cX11_layPicture 114 = .ok (.iconst 1, 1) := by decide +kernel
theorem dX11_layPicture_115 : decode cX11_layPicture 115 = .ok (.iadd, 1) := by decide +kernel
theorem dX11_layPicture_116 : decode cX11_layPicture 116 = .ok (.putfield 362, 3) := by decide +kernel
theorem dX11_layPicture_119 : decode cX11_layPicture 119 = .ok (.aload_n 1, 1) := by decide +kernel
theorem dX11_layPicture_120 : decode cX11_layPicture 120 = .ok (.sipush 200, 3) := by decide +kernel
theorem dX11_layPicture_123 : decode cX11_layPicture 123 = .ok (.putfield 391, 3) := by decide +kernel
theorem dX11_layPicture_126 : decode cX11_layPicture 126 = .ok (.return_, 1) := by decide +kernel
def f_X11_layPicture_b126 (σ : TH) : Option (Unit × TH) :=
  some ((), σ)
set_option maxHeartbeats 4000000 in
set_option maxRecDepth 100000 in
theorem t_X11_layPicture_b126 {l : Launch} {D : va_G} {cy : Nat → ClassId} {ka : Nat → Nat} {σ0 z : TH} {r : Unit}  {σ : TH}  (hf : f_X11_layPicture_b126 σ  = some (r, z)) : v_ l D cy ka cX11_layPicture RX11 7 none "layPicture" 3 64 (qf_ D cy σ0 z none) σ0 z σ 126 [] [] := by
  unfold f_X11_layPicture_b126 at hf
  exact v_vret hf dX11_layPicture_126
def f_X11_layPicture_b105 (σ : TH) (l1 : Option Nat) (l3 : Option Nat) : Option (Unit × TH) :=
  oc_ l3 (f_X11_layPicture_b126 σ ) (fun a5 => gt_ (kd_ σ a5 = 5) <| lt_ (fi_ σ 405 a5) fun x6 => lt_ (si_ σ 405 a5 (x6 + (1 : Int32))) fun s7 => nn_ l1 fun a8 => gt_ (kd_ s7 a8 = 3) <| lt_ (si_ s7 202 a8 (200 : Int32)) fun s9 => f_X11_layPicture_b126 s9 )
set_option maxHeartbeats 4000000 in
set_option maxRecDepth 100000 in
theorem t_X11_layPicture_b105 {l : Launch} {D : va_G} {cy : Nat → ClassId} {ka : Nat → Nat} {σ0 z : TH} {r : Unit}  {σ : TH} {l1 : Option Nat} {l3 : Option Nat} (hf : f_X11_layPicture_b105 σ l1 l3 = some (r, z)) : v_ l D cy ka cX11_layPicture RX11 7 none "layPicture" 3 64 (qf_ D cy σ0 z none) σ0 z σ 105 [(1, va_rf l1), (3, va_rf l3)] [] := by
  unfold f_X11_layPicture_b105 at hf
  refine v_aload_n (x := l3) dX11_layPicture_105 rfl 1 rfl ?_
  refine v_ifnull2 (tgt := 126) hf dX11_layPicture_106 (by decide) (fun e9 hf9 => ?_) (fun a5 e9 hf9 => ?_)
  · subst e9
    replace hf := hf9
    clear hf9
    refine v_sub [] (L2 := []) rfl ?_
    exact t_X11_layPicture_b126  hf
  · subst e9
    replace hf := hf9
    clear hf9
    refine v_aload_n (x := (some a5)) dX11_layPicture_109 rfl 1 rfl ?_
    refine v_dup dX11_layPicture_110 (va_rf_cat _) ?_
    obtain ⟨hk_a5, hf⟩ := gt_of hf
    refine v_geti cb_4 hk_a5 5 405 rfl (by decide) rfl (lk_n kw_1115 rfl) hf dX11_layPicture_111 (fun x6 hf => ?_)
    refine v_iconst (v := 1) dX11_layPicture_114 (by decide) ?_
    refine v_iadd dX11_layPicture_115 ?_
    refine v_puti2 cb_4 hk_a5 5 405 rfl (by decide) rfl (lk_n kw_1115 rfl) (Or.inl rfl) rfl rfl hf dX11_layPicture_116 (fun s7 hts7 hf => ?_)
    have hk_a5 := tk_ hts7 hk_a5
    refine v_aload_n (x := l1) dX11_layPicture_119 rfl 0 rfl ?_
    refine v_sipush (v := 200) dX11_layPicture_120 (by decide) ?_
    obtain ⟨a8, rfl, hf⟩ := nn_of hf
    obtain ⟨hk_a8, hf⟩ := gt_of hf
    refine v_puti2 cb_2 hk_a8 2 202 rfl (by decide) rfl (lk_n kw_1183 rfl) (Or.inl rfl) rfl rfl hf dX11_layPicture_123 (fun s9 hts9 hf => ?_)
    have hk_a5 := tk_ hts9 hk_a5
    have hk_a8 := tk_ hts9 hk_a8
    refine v_sub [] (L2 := []) rfl ?_
    exact t_X11_layPicture_b126  hf
def f_X11_layPicture_b99 (rec_5 : TH → Nat → Option Nat → Int32 → Option Nat → Int32 → Option (Unit × TH)) (σ : TH) (l0 : Nat) (l1 : Option Nat) (l2 : Int32) (l3 : Option Nat) (l4 : Int32) : Option (Unit × TH) :=
  lt_ (l4 + 1) fun x21 => rec_5 σ l0 l1 l2 l3 x21
set_option maxHeartbeats 4000000 in
set_option maxRecDepth 100000 in
theorem t_X11_layPicture_b99 {l : Launch} {D : va_G} {cy : Nat → ClassId} {ka : Nat → Nat} {σ0 z : TH} {r : Unit} {rec_5 : TH → Nat → Option Nat → Int32 → Option Nat → Int32 → Option (Unit × TH)} (hrec_5 : ∀ (σ : TH) (l0 : Nat) (l1 : Option Nat) (l2 : Int32) (l3 : Option Nat) (l4 : Int32), rec_5 σ l0 l1 l2 l3 l4 = some (r, z) → v_ l D cy ka cX11_layPicture RX11 7 none "layPicture" 3 64 (qf_ D cy σ0 z none) σ0 z σ 5 [(0, va_rf (some l0)), (1, va_rf l1), (2, .int l2), (3, va_rf l3), (4, .int l4)] []) {σ : TH} {l0 : Nat} {l1 : Option Nat} {l2 : Int32} {l3 : Option Nat} {l4 : Int32} (hf : f_X11_layPicture_b99 rec_5 σ l0 l1 l2 l3 l4 = some (r, z)) : v_ l D cy ka cX11_layPicture RX11 7 none "layPicture" 3 64 (qf_ D cy σ0 z none) σ0 z σ 99 [(0, va_rf (some l0)), (1, va_rf l1), (2, .int l2), (3, va_rf l3), (4, .int l4)] [] := by
  unfold f_X11_layPicture_b99 at hf
  obtain ⟨x21, ex21⟩ : ∃ y : Int32, y = l4 + 1 := ⟨_, rfl⟩
  rw [lt_e, ← ex21] at hf
  refine v_iinc (v := x21) [(4, .int x21), (0, va_rf (some l0)), (1, va_rf l1), (2, .int l2), (3, va_rf l3)] dX11_layPicture_99 4 rfl (by rw [ex21]; rfl) (by decide) (by simp [va_rf_cat, cat_i, cat_l]) ?_
  refine v_goto (tgt := 5) dX11_layPicture_102 (by decide) ?_
  refine v_sub [1, 2, 3, 4, 0] (L2 := [(0, va_rf (some l0)), (1, va_rf l1), (2, .int l2), (3, va_rf l3), (4, .int x21)]) rfl ?_
  exact hrec_5 _ _ _ _ _ _ hf
def f_X11_layPicture_b90 (rec_5 : TH → Nat → Option Nat → Int32 → Option Nat → Int32 → Option (Unit × TH)) (σ : TH) (l0 : Nat) (l1 : Option Nat) (l2 : Int32) (l4 : Int32) (l5 : Option Nat) : Option (Unit × TH) :=
  nn_ l1 fun a23 => gt_ (kd_ σ a23 = 3) <| lt_ (si_ σ 204 a23 l4) fun s24 => f_X11_layPicture_b99 rec_5 s24 l0 (some a23) l2 l5 l4
set_option maxHeartbeats 4000000 in
set_option maxRecDepth 100000 in
theorem t_X11_layPicture_b90 {l : Launch} {D : va_G} {cy : Nat → ClassId} {ka : Nat → Nat} {σ0 z : TH} {r : Unit} {rec_5 : TH → Nat → Option Nat → Int32 → Option Nat → Int32 → Option (Unit × TH)} (hrec_5 : ∀ (σ : TH) (l0 : Nat) (l1 : Option Nat) (l2 : Int32) (l3 : Option Nat) (l4 : Int32), rec_5 σ l0 l1 l2 l3 l4 = some (r, z) → v_ l D cy ka cX11_layPicture RX11 7 none "layPicture" 3 64 (qf_ D cy σ0 z none) σ0 z σ 5 [(0, va_rf (some l0)), (1, va_rf l1), (2, .int l2), (3, va_rf l3), (4, .int l4)] []) {σ : TH} {l0 : Nat} {l1 : Option Nat} {l2 : Int32} {l4 : Int32} {l5 : Option Nat} (hf : f_X11_layPicture_b90 rec_5 σ l0 l1 l2 l4 l5 = some (r, z)) : v_ l D cy ka cX11_layPicture RX11 7 none "layPicture" 3 64 (qf_ D cy σ0 z none) σ0 z σ 90 [(0, va_rf (some l0)), (1, va_rf l1), (2, .int l2), (4, .int l4), (5, va_rf l5)] [] := by
  unfold f_X11_layPicture_b90 at hf
  refine v_aload (x := l5) dX11_layPicture_90 4 rfl ?_
  refine v_astore_n [(3, va_rf l5), (0, va_rf (some l0)), (1, va_rf l1), (2, .int l2), (4, .int l4), (5, va_rf l5)] dX11_layPicture_92 rfl (by decide) rfl ?_
  refine v_aload_n (x := l1) dX11_layPicture_93 rfl 2 rfl ?_
  refine v_iload (x := l4) dX11_layPicture_94 4 rfl ?_
  obtain ⟨a23, rfl, hf⟩ := nn_of hf
  obtain ⟨hk_a23, hf⟩ := gt_of hf
  refine v_puti2 cb_2 hk_a23 4 204 rfl (by decide) rfl (lk_n kw_1187 rfl) (Or.inl rfl) rfl rfl hf dX11_layPicture_96 (fun s24 hts24 hf => ?_)
  have hk_a23 := tk_ hts24 hk_a23
  refine v_sub [1, 2, 3, 0, 4] (L2 := [(0, va_rf (some l0)), (1, va_rf (some a23)), (2, .int l2), (3, va_rf l5), (4, .int l4)]) rfl ?_
  exact t_X11_layPicture_b99 hrec_5 hf
def f_X11_layPicture_b67 (rec_5 : TH → Nat → Option Nat → Int32 → Option Nat → Int32 → Option (Unit × TH)) (σ : TH) (l0 : Nat) (l1 : Option Nat) (l2 : Int32) (l3 : Option Nat) (l4 : Int32) (l5 : Option Nat) (t0 : Int32) : Option (Unit × TH) :=
  if t0 = 0 then (f_X11_layPicture_b99 rec_5 σ l0 l1 l2 l3 l4) else (oc_ l3 (f_X11_layPicture_b90 rec_5 σ l0 l1 l2 l4 l5) (fun a22 => nn_ l5 fun a25 => gt_ (kd_ σ a25 = 5) <| lt_ (fi_ σ 401 a25) fun x26 => gt_ (kd_ σ a22 = 5) <| lt_ (fi_ σ 401 a22) fun x27 => if x26 ≤ x27 then (f_X11_layPicture_b99 rec_5 σ l0 l1 l2 (some a22) l4) else (f_X11_layPicture_b90 rec_5 σ l0 l1 l2 l4 (some a25))))
set_option maxHeartbeats 4000000 in
set_option maxRecDepth 100000 in
theorem t_X11_layPicture_b67 {l : Launch} {D : va_G} {cy : Nat → ClassId} {ka : Nat → Nat} {σ0 z : TH} {r : Unit} {rec_5 : TH → Nat → Option Nat → Int32 → Option Nat → Int32 → Option (Unit × TH)} (hrec_5 : ∀ (σ : TH) (l0 : Nat) (l1 : Option Nat) (l2 : Int32) (l3 : Option Nat) (l4 : Int32), rec_5 σ l0 l1 l2 l3 l4 = some (r, z) → v_ l D cy ka cX11_layPicture RX11 7 none "layPicture" 3 64 (qf_ D cy σ0 z none) σ0 z σ 5 [(0, va_rf (some l0)), (1, va_rf l1), (2, .int l2), (3, va_rf l3), (4, .int l4)] []) {σ : TH} {l0 : Nat} {l1 : Option Nat} {l2 : Int32} {l3 : Option Nat} {l4 : Int32} {l5 : Option Nat} {t0 : Int32} (hf : f_X11_layPicture_b67 rec_5 σ l0 l1 l2 l3 l4 l5 t0 = some (r, z)) : v_ l D cy ka cX11_layPicture RX11 7 none "layPicture" 3 64 (qf_ D cy σ0 z none) σ0 z σ 67 [(0, va_rf (some l0)), (1, va_rf l1), (2, .int l2), (3, va_rf l3), (4, .int l4), (5, va_rf l5)] [.int t0] := by
  unfold f_X11_layPicture_b67 at hf
  refine v_istore [(6, .int t0), (0, va_rf (some l0)), (1, va_rf l1), (2, .int l2), (3, va_rf l3), (4, .int l4), (5, va_rf l5)] dX11_layPicture_67 (by decide) (by simp [va_rf_cat, cat_i, cat_l]) ?_
  refine v_iload (x := t0) dX11_layPicture_69 0 rfl ?_
  refine v_if_eq (tgt := 99) hf dX11_layPicture_71 (by decide) (fun hq hf => ?_) (fun hq hf => ?_)
  · refine v_sub [1, 2, 3, 4, 5] (L2 := [(0, va_rf (some l0)), (1, va_rf l1), (2, .int l2), (3, va_rf l3), (4, .int l4)]) rfl ?_
    exact t_X11_layPicture_b99 hrec_5 hf
  · refine v_aload_n (x := l3) dX11_layPicture_74 rfl 4 rfl ?_
    refine v_ifnull2 (tgt := 90) hf dX11_layPicture_75 (by decide) (fun e9 hf9 => ?_) (fun a22 e9 hf9 => ?_)
    · subst e9
      replace hf := hf9
      clear hf9
      refine v_sub [1, 2, 3, 5, 6] (L2 := [(0, va_rf (some l0)), (1, va_rf l1), (2, .int l2), (4, .int l4), (5, va_rf l5)]) rfl ?_
      exact t_X11_layPicture_b90 hrec_5 hf
    · subst e9
      replace hf := hf9
      clear hf9
      refine v_aload (x := l5) dX11_layPicture_78 6 rfl ?_
      obtain ⟨a25, rfl, hf⟩ := nn_of hf
      obtain ⟨hk_a25, hf⟩ := gt_of hf
      refine v_geti cb_4 hk_a25 1 401 rfl (by decide) rfl (lk_n kw_1110 rfl) hf dX11_layPicture_80 (fun x26 hf => ?_)
      refine v_aload_n (x := (some a22)) dX11_layPicture_83 rfl 4 rfl ?_
      obtain ⟨hk_a22, hf⟩ := gt_of hf
      refine v_geti cb_4 hk_a22 1 401 rfl (by decide) rfl (lk_n kw_1110 rfl) hf dX11_layPicture_84 (fun x27 hf => ?_)
      refine v_icmp_le (tgt := 99) hf dX11_layPicture_87 (by decide) (fun hq hf => ?_) (fun hq hf => ?_)
      · refine v_sub [1, 2, 3, 4, 5] (L2 := [(0, va_rf (some l0)), (1, va_rf l1), (2, .int l2), (3, va_rf (some a22)), (4, .int l4)]) rfl ?_
        exact t_X11_layPicture_b99 hrec_5 hf
      · refine v_sub [1, 2, 3, 5, 6] (L2 := [(0, va_rf (some l0)), (1, va_rf l1), (2, .int l2), (4, .int l4), (5, va_rf (some a25))]) rfl ?_
        exact t_X11_layPicture_b90 hrec_5 hf
def f_X11_layPicture_b66 (rec_5 : TH → Nat → Option Nat → Int32 → Option Nat → Int32 → Option (Unit × TH)) (σ : TH) (l0 : Nat) (l1 : Option Nat) (l2 : Int32) (l3 : Option Nat) (l4 : Int32) (l5 : Option Nat) : Option (Unit × TH) :=
  f_X11_layPicture_b67 rec_5 σ l0 l1 l2 l3 l4 l5 (0 : Int32)
set_option maxHeartbeats 4000000 in
set_option maxRecDepth 100000 in
theorem t_X11_layPicture_b66 {l : Launch} {D : va_G} {cy : Nat → ClassId} {ka : Nat → Nat} {σ0 z : TH} {r : Unit} {rec_5 : TH → Nat → Option Nat → Int32 → Option Nat → Int32 → Option (Unit × TH)} (hrec_5 : ∀ (σ : TH) (l0 : Nat) (l1 : Option Nat) (l2 : Int32) (l3 : Option Nat) (l4 : Int32), rec_5 σ l0 l1 l2 l3 l4 = some (r, z) → v_ l D cy ka cX11_layPicture RX11 7 none "layPicture" 3 64 (qf_ D cy σ0 z none) σ0 z σ 5 [(0, va_rf (some l0)), (1, va_rf l1), (2, .int l2), (3, va_rf l3), (4, .int l4)] []) {σ : TH} {l0 : Nat} {l1 : Option Nat} {l2 : Int32} {l3 : Option Nat} {l4 : Int32} {l5 : Option Nat} (hf : f_X11_layPicture_b66 rec_5 σ l0 l1 l2 l3 l4 l5 = some (r, z)) : v_ l D cy ka cX11_layPicture RX11 7 none "layPicture" 3 64 (qf_ D cy σ0 z none) σ0 z σ 66 [(0, va_rf (some l0)), (1, va_rf l1), (2, .int l2), (3, va_rf l3), (4, .int l4), (5, va_rf l5)] [] := by
  unfold f_X11_layPicture_b66 at hf
  refine v_iconst (v := 0) dX11_layPicture_66 (by decide) ?_
  refine v_sub [0, 1, 2, 3, 4, 5] (L2 := [(0, va_rf (some l0)), (1, va_rf l1), (2, .int l2), (3, va_rf l3), (4, .int l4), (5, va_rf l5)]) rfl ?_
  exact t_X11_layPicture_b67 hrec_5 hf
def f_X11_layPicture_b5 : Nat → TH → Nat → Option Nat → Int32 → Option Nat → Int32 → Option (Unit × TH)
  | 0, _, _, _, _, _, _ => none
  | n + 1, σ, l0, l1, l2, l3, l4 => gt_ (kd_ σ l0 = 13) <| lt_ (fr_ σ 1204 l0) fun r1 => nn_ r1 fun a2 => gt_ (kd_ σ a2 = 1) <| bd_ (f_Jx4a65c_size_8abf5 σ a2) fun x3 s4 => if x3 ≤ l4 then (f_X11_layPicture_b105 s4 l1 l3) else (if l2 < (200 : Int32) then (f_X11_layPicture_b105 s4 l1 l3) else (lt_ (fr_ s4 1204 l0) fun r10 => nn_ r10 fun a11 => gt_ (kd_ s4 a11 = 1) <| bd_ (f_Jx4a65c_get_915e3 s4 a11 l4) fun r12 s13 => gt_ (Option.elim r12 5 (kd_ s13) = 5) <| nn_ r12 fun a14 => gt_ (kd_ s13 a14 = 5) <| lt_ (fi_ s13 400 a14) fun x15 => nn_ l1 fun a16 => gt_ (kd_ s13 a16 = 3) <| lt_ (fi_ s13 200 a16) fun x17 => if x15 = x17 then (lt_ (fi_ s13 201 a16) fun x18 => bd_ (f_X3_isFree s13 a14 x18) fun x19 s20 => if x19 = 0 then (f_X11_layPicture_b66 (f_X11_layPicture_b5 n) s20 l0 (some a16) l2 l3 l4 (some a14)) else (f_X11_layPicture_b67 (f_X11_layPicture_b5 n) s20 l0 (some a16) l2 l3 l4 (some a14) (1 : Int32))) else (f_X11_layPicture_b66 (f_X11_layPicture_b5 n) s13 l0 (some a16) l2 l3 l4 (some a14))))
set_option maxHeartbeats 4000000 in
set_option maxRecDepth 100000 in
theorem t_X11_layPicture_b5 {l : Launch} {D : va_G} {cy : Nat → ClassId} {ka : Nat → Nat} {σ0 z : TH} {r : Unit}  : ∀ (n : Nat) (σ : TH) (l0 : Nat) (l1 : Option Nat) (l2 : Int32) (l3 : Option Nat) (l4 : Int32), f_X11_layPicture_b5 n σ l0 l1 l2 l3 l4 = some (r, z) → v_ l D cy ka cX11_layPicture RX11 7 none "layPicture" 3 64 (qf_ D cy σ0 z none) σ0 z σ 5 [(0, va_rf (some l0)), (1, va_rf l1), (2, .int l2), (3, va_rf l3), (4, .int l4)] [] := by
  intro n
  induction n with
  | zero => intro σ l0 l1 l2 l3 l4 hf; unfold f_X11_layPicture_b5 at hf; cases hf
  | succ n ih =>
    intro σ l0 l1 l2 l3 l4 hf
    unfold f_X11_layPicture_b5 at hf
    have hrec_5 := ih
    refine v_iload (x := l4) dX11_layPicture_5 4 rfl ?_
    refine v_aload_n (x := (some l0)) dX11_layPicture_7 rfl 0 rfl ?_
    obtain ⟨hk_l0, hf⟩ := gt_of hf
    refine v_getr cb_12 hk_l0 4 1204 rfl (by decide) rfl (lk_n kw_243 rfl) hf dX11_layPicture_8 (fun r1 hf => ?_)
    obtain ⟨a2, rfl, hf⟩ := nn_of hf
    obtain ⟨hk_a2, hf⟩ := gt_of hf
    obtain ⟨x3, s4, hcs4, hf⟩ := bd_of hf
    have hts4 := c_Jx4a65c_size_8abf5 (l := l) (D := D) (cy := cy) (ka := ka) hcs4
    refine v_callV cb_0 hk_a2 (As := []) (rest := [.int l4]) hts4 yb_Jx4a65c_size_8abf5 kw_311 kw_312 kw_313 rfl ⟨Nat.le_of_ble_eq_true rfl, Nat.le_of_ble_eq_true rfl⟩ rfl (cat_len (Nat.le_of_ble_eq_true rfl)) dX11_layPicture_11 ?_
    have hk_l0 := tk_ hts4.1 hk_l0
    show v_ l D cy ka cX11_layPicture RX11 7 none "layPicture" 3 64 (qf_ D cy σ0 z none) σ0 z _ 14 [(0, va_rf (some l0)), (1, va_rf l1), (2, .int l2), (3, va_rf l3), (4, .int l4)] [.int x3, .int l4]
    refine v_icmp_ge (tgt := 105) hf dX11_layPicture_14 (by decide) (fun hq hf => ?_) (fun hq hf => ?_)
    · refine v_sub [1, 3] (L2 := [(1, va_rf l1), (3, va_rf l3)]) rfl ?_
      exact t_X11_layPicture_b105  hf
    · refine v_iload_n (x := l2) dX11_layPicture_17 rfl 2 rfl ?_
      refine v_sipush (v := 200) dX11_layPicture_18 (by decide) ?_
      refine v_icmp_lt (tgt := 105) hf dX11_layPicture_21 (by decide) (fun hq hf => ?_) (fun hq hf => ?_)
      · refine v_sub [1, 3] (L2 := [(1, va_rf l1), (3, va_rf l3)]) rfl ?_
        exact t_X11_layPicture_b105  hf
      · refine v_aload_n (x := (some l0)) dX11_layPicture_24 rfl 0 rfl ?_
        refine v_getr cb_12 hk_l0 4 1204 rfl (by decide) rfl (lk_n kw_243 rfl) hf dX11_layPicture_25 (fun r10 hf => ?_)
        refine v_iload (x := l4) dX11_layPicture_28 4 rfl ?_
        obtain ⟨a11, rfl, hf⟩ := nn_of hf
        obtain ⟨hk_a11, hf⟩ := gt_of hf
        obtain ⟨r12, s13, hcs13, hf⟩ := bd_of hf
        have hts13 := c_Jx4a65c_get_915e3 (l := l) (D := D) (cy := cy) (ka := ka) hcs13
        refine v_callV cb_0 hk_a11 (As := [.int l4]) (rest := []) hts13 yb_Jx4a65c_get_915e3 kw_407 kw_408 kw_409 rfl ⟨Nat.le_of_ble_eq_true rfl, Nat.le_of_ble_eq_true rfl⟩ rfl (cat_len (Nat.le_of_ble_eq_true rfl)) dX11_layPicture_30 ?_
        have hk_l0 := tk_ hts13.1 hk_l0
        show v_ l D cy ka cX11_layPicture RX11 7 none "layPicture" 3 64 (qf_ D cy σ0 z none) σ0 z _ 33 [(0, va_rf (some l0)), (1, va_rf l1), (2, .int l2), (3, va_rf l3), (4, .int l4)] [va_rf r12]
        refine v_cast cb_4 5 rfl kw_1101 hf dX11_layPicture_33 (fun hf => ?_)
        refine v_astore [(5, va_rf r12), (0, va_rf (some l0)), (1, va_rf l1), (2, .int l2), (3, va_rf l3), (4, .int l4)] dX11_layPicture_36 (by decide) rfl ?_
        refine v_aload (x := r12) dX11_layPicture_38 0 rfl ?_
        obtain ⟨a14, rfl, hf⟩ := nn_of hf
        obtain ⟨hk_a14, hf⟩ := gt_of hf
        refine v_geti cb_4 hk_a14 0 400 rfl (by decide) rfl (lk_n kw_1108 rfl) hf dX11_layPicture_40 (fun x15 hf => ?_)
        refine v_aload_n (x := l1) dX11_layPicture_43 rfl 2 rfl ?_
        obtain ⟨a16, rfl, hf⟩ := nn_of hf
        obtain ⟨hk_a16, hf⟩ := gt_of hf
        refine v_geti cb_2 hk_a16 0 200 rfl (by decide) rfl (lk_n kw_1179 rfl) hf dX11_layPicture_44 (fun x17 hf => ?_)
        refine v_icmp_ne (tgt := 66) hf dX11_layPicture_47 (by decide) (fun hq hf => ?_) (fun hq hf => ?_)
        · refine v_aload (x := (some a14)) dX11_layPicture_50 0 rfl ?_
          refine v_aload_n (x := (some a16)) dX11_layPicture_52 rfl 2 rfl ?_
          refine v_geti cb_2 hk_a16 1 201 rfl (by decide) rfl (lk_n kw_1181 rfl) hf dX11_layPicture_53 (fun x18 hf => ?_)
          obtain ⟨x19, s20, hcs20, hf⟩ := bd_of hf
          have hts20 := c_X3_isFree (l := l) (D := D) (cy := cy) (ka := ka) hcs20
          refine v_callV cb_4 hk_a14 (As := [.int x18]) (rest := []) hts20 yb_X3_isFree kw_1223 kw_1224 kw_1225 rfl ⟨Nat.le_of_ble_eq_true rfl, Nat.le_of_ble_eq_true rfl⟩ rfl (cat_len (Nat.le_of_ble_eq_true rfl)) dX11_layPicture_56 ?_
          have hk_l0 := tk_ hts20.1 hk_l0
          have hk_a14 := tk_ hts20.1 hk_a14
          have hk_a16 := tk_ hts20.1 hk_a16
          show v_ l D cy ka cX11_layPicture RX11 7 none "layPicture" 3 64 (qf_ D cy σ0 z none) σ0 z _ 59 [(5, va_rf (some a14)), (0, va_rf (some l0)), (1, va_rf (some a16)), (2, .int l2), (3, va_rf l3), (4, .int l4)] [.int x19]
          refine v_if_eq (tgt := 66) hf dX11_layPicture_59 (by decide) (fun hq hf => ?_) (fun hq hf => ?_)
          · refine v_sub [1, 2, 3, 4, 5, 0] (L2 := [(0, va_rf (some l0)), (1, va_rf (some a16)), (2, .int l2), (3, va_rf l3), (4, .int l4), (5, va_rf (some a14))]) rfl ?_
            exact t_X11_layPicture_b66 hrec_5 hf
          · refine v_iconst (v := 1) dX11_layPicture_62 (by decide) ?_
            refine v_goto (tgt := 67) dX11_layPicture_63 (by decide) ?_
            refine v_sub [1, 2, 3, 4, 5, 0] (L2 := [(0, va_rf (some l0)), (1, va_rf (some a16)), (2, .int l2), (3, va_rf l3), (4, .int l4), (5, va_rf (some a14))]) rfl ?_
            exact t_X11_layPicture_b67 hrec_5 hf
        · refine v_sub [1, 2, 3, 4, 5, 0] (L2 := [(0, va_rf (some l0)), (1, va_rf (some a16)), (2, .int l2), (3, va_rf l3), (4, .int l4), (5, va_rf (some a14))]) rfl ?_
          exact t_X11_layPicture_b66 hrec_5 hf
/-- LivesAhead.layPicture(LLivesAhead$Edition;I)V -/
def f_X11_layPicture (σ : TH) (p0 : Nat) (p1 : Option Nat) (p2 : Int32) : Option (Unit × TH) :=
  f_X11_layPicture_b5 fu_ σ p0 p1 p2 none (0 : Int32)
set_option maxHeartbeats 4000000 in
set_option maxRecDepth 100000 in
theorem c_X11_layPicture {l : Launch} {D : va_G} {cy : Nat → ClassId} {ka : Nat → Nat} {σ z : TH} {p0 : Nat} {p1 : Option Nat} {p2 : Int32} {r : Unit} (hf : f_X11_layPicture σ p0 p1 p2 = some (r, z)) : ct_ l D cy ka yX11_layPicture 3 64 [va_rf (some p0), va_rf p1, .int p2] σ none z := by
  unfold f_X11_layPicture at hf
  refine v_start (cc := cX11_layPicture) (own := RX11) (maxL := 7) (ret := none) (nm := "layPicture") (by decide +kernel) kw_1222 rfl rfl (by simp [lg_sl, va_rf_cat, cat_i, cat_l]) ?_
  refine v_eqL (L2 := [(0, va_rf (some p0)), (1, va_rf p1), (2, .int p2)]) (by simp [lv_args, va_rf_cat, cat_i, cat_l]) ?_
  refine v_null dX11_layPicture_0 ?_
  refine v_astore_n [(3, va_rf none), (0, va_rf (some p0)), (1, va_rf p1), (2, .int p2)] dX11_layPicture_1 rfl (by decide) rfl ?_
  refine v_iconst (v := 0) dX11_layPicture_2 (by decide) ?_
  refine v_istore [(4, .int (0 : Int32)), (3, va_rf none), (0, va_rf (some p0)), (1, va_rf p1), (2, .int p2)] dX11_layPicture_3 (by decide) rfl ?_
  refine v_sub [2, 3, 4, 1, 0] (L2 := [(0, va_rf (some p0)), (1, va_rf p1), (2, .int p2), (3, va_rf none), (4, .int (0 : Int32))]) rfl ?_
  exact t_X11_layPicture_b5  _ _ _ _ _ _ _ hf
theorem dX11_layQuotes_0 : decode cX11_layQuotes 0 = .ok (.iconst 0, 1) := by decide +kernel
theorem dX11_layQuotes_1 : decode cX11_layQuotes 1 = .ok (.istore_n 3, 1) := by decide +kernel
theorem dX11_layQuotes_2 : decode cX11_layQuotes 2 = .ok (.iload_n 3, 1) := by decide +kernel
theorem dX11_layQuotes_3 : decode cX11_layQuotes 3 = .ok (.aload_n 0, 1) := by decide +kernel
theorem dX11_layQuotes_4 : decode cX11_layQuotes 4 = .ok (.getfield 28, 3) := by decide +kernel
theorem dX11_layQuotes_7 : decode cX11_layQuotes 7 = .ok (.invokevirtual 101, 3) := by decide +kernel
theorem dX11_layQuotes_10 : decode cX11_layQuotes 10 = .ok (.if_icmp .ge 84, 3) := by decide +kernel
theorem dX11_layQuotes_13 : decode cX11_layQuotes 13 = .ok (.aload_n 0, 1) := by decide +kernel
theorem dX11_layQuotes_14 : decode cX11_layQuotes 14 = .ok (.getfield 28, 3) := by decide +kernel
theorem dX11_layQuotes_17 : decode cX11_layQuotes 17 = .ok (.iload_n 3, 1) := by decide +kernel
theorem dX11_layQuotes_18 : decode cX11_layQuotes 18 = .ok (.invokevirtual 238, 3) := by decide +kernel
theorem dX11_layQuotes_21 : decode cX11_layQuotes 21 = .ok (.checkcast 365, 3) := by decide +kernel
theorem dX11_layQuotes_24 : decode cX11_layQuotes 24 = .ok (.astore 4, 2) := by decide +kernel
theorem dX11_layQuotes_26 : decode cX11_layQuotes 26 = .ok (.aload 4, 2) := by decide +kernel
theorem dX11_layQuotes_28 : decode cX11_layQuotes 28 = .ok (.getfield 514, 3) := by decide +kernel
theorem dX11_layQuotes_31 : decode cX11_layQuotes 31 = .ok (.aload_n 1, 1) := by decide +kernel
theorem dX11_layQuotes_32 : decode cX11_layQuotes 32 = .ok (.getfield 401, 3) := by decide +kernel
theorem dX11_layQuotes_35 : decode cX11_layQuotes 35 = .ok (.if_icmp .ne 53, 3) := by decide +kernel
theorem dX11_layQuotes_38 : decode cX11_layQuotes 38 = .ok (.aload 4, 2) := by decide +kernel
theorem dX11_layQuotes_40 : decode cX11_layQuotes 40 = .ok (.getfield 375, 3) := by decide +kernel
theorem dX11_layQuotes_43 : decode cX11_layQuotes 43 = .ok (.ifCond .ne 6, 3) := by decide +kernel
theorem dX11_layQuotes_46 : decode cX11_layQuotes 46 = .ok (.goto 42, 3) := by decide +kernel
theorem dX11_layQuotes_49 : decode cX11_layQuotes 49 = .ok (.aload 4, 2) := by decide +kernel
theorem dX11_layQuotes_51 : decode cX11_layQuotes 51 = .ok (.getfield 370, 3) := by decide +kernel
theorem dX11_layQuotes_54 : decode cX11_layQuotes 54 = .ok (.iload_n 2, 1) := by decide +kernel
theorem dX11_layQuotes_55 : decode cX11_layQuotes 55 = .ok (.aload_n 1, 1) := by decide +kernel
theorem dX11_layQuotes_56 : decode cX11_layQuotes 56 = .ok (.getfield 391, 3) := by decide +kernel
theorem dX11_layQuotes_59 : decode cX11_layQuotes 59 = .ok (.isub, 1) := by decide +kernel
theorem dX11_layQuotes_60 : decode cX11_layQuotes 60 = .ok (.if_icmp .le 4, 3) := by decide +kernel
theorem dX11_layQuotes_63 : decode cX11_layQuotes 63 = .ok (.return_, 1) := by decide +kernel
theorem dX11_layQuotes_64 : decode cX11_layQuotes 64 = .ok (.aload_n 1, 1) := by decide +kernel
theorem dX11_layQuotes_65 : decode cX11_layQuotes 65 = .ok (.dup, 1) := by decide +kernel
theorem dX11_layQuotes_66 : decode cX11_layQuotes 66 = .ok (.getfield 391, 3) := by decide +kernel
theorem dX11_layQuotes_69 : decode cX11_layQuotes 69 = .ok (.aload 4, 2) := by decide +kernel
theorem dX11_layQuotes_71 : decode cX11_layQuotes 71 = .ok (.getfield 370, 3) := by decide +kernel
theorem dX11_layQuotes_74 : decode cX11_layQuotes 74 = .ok (.iadd, 1) := by decide +kernel
theorem dX11_layQuotes_75 : decode cX11_layQuotes 75 = .ok (.putfield 391, 3) := by decide +kernel
theorem dX11_layQuotes_78 : decode cX11_layQuotes 78 = .ok (.aload_n 1, 1) := by decide +kernel
theorem dX11_layQuotes_79 : decode cX11_layQuotes 79 = .ok (.dup, 1) := by decide +kernel
theorem dX11_layQuotes_80 : decode cX11_layQuotes 80 = .ok (.getfield 408, 3) := by decide +kernel
theorem dX11_layQuotes_83 : decode cX11_layQuotes 83 = .ok (.iconst 1, 1) := by decide +kernel
theorem dX11_layQuotes_84 : decode cX11_layQuotes 84 = .ok (.iadd, 1) := by decide +kernel
theorem dX11_layQuotes_85 : decode cX11_layQuotes 85 = .ok (.putfield 408, 3) := by decide +kernel
theorem dX11_layQuotes_88 : decode cX11_layQuotes 88 = .ok (.iinc 3 1, 3) := by decide +kernel
theorem dX11_layQuotes_91 : decode cX11_layQuotes 91 = .ok (.goto (-89), 3) := by decide +kernel
theorem dX11_layQuotes_94 : decode cX11_layQuotes 94 = .ok (.return_, 1) := by decide +kernel
def f_X11_layQuotes_b88 (rec_2 : TH → Nat → Option Nat → Int32 → Int32 → Option (Unit × TH)) (σ : TH) (l0 : Nat) (l1 : Option Nat) (l2 : Int32) (l3 : Int32) : Option (Unit × TH) :=
  lt_ (l3 + 1) fun x14 => rec_2 σ l0 l1 l2 x14
set_option maxHeartbeats 4000000 in
set_option maxRecDepth 100000 in
theorem t_X11_layQuotes_b88 {l : Launch} {D : va_G} {cy : Nat → ClassId} {ka : Nat → Nat} {σ0 z : TH} {r : Unit} {rec_2 : TH → Nat → Option Nat → Int32 → Int32 → Option (Unit × TH)} (hrec_2 : ∀ (σ : TH) (l0 : Nat) (l1 : Option Nat) (l2 : Int32) (l3 : Int32), rec_2 σ l0 l1 l2 l3 = some (r, z) → v_ l D cy ka cX11_layQuotes RX11 5 none "layQuotes" 3 64 (qf_ D cy σ0 z none) σ0 z σ 2 [(0, va_rf (some l0)), (1, va_rf l1), (2, .int l2), (3, .int l3)] []) {σ : TH} {l0 : Nat} {l1 : Option Nat} {l2 : Int32} {l3 : Int32} (hf : f_X11_layQuotes_b88 rec_2 σ l0 l1 l2 l3 = some (r, z)) : v_ l D cy ka cX11_layQuotes RX11 5 none "layQuotes" 3 64 (qf_ D cy σ0 z none) σ0 z σ 88 [(0, va_rf (some l0)), (1, va_rf l1), (2, .int l2), (3, .int l3)] [] := by
  unfold f_X11_layQuotes_b88 at hf
  obtain ⟨x14, ex14⟩ : ∃ y : Int32, y = l3 + 1 := ⟨_, rfl⟩
  rw [lt_e, ← ex14] at hf
  refine v_iinc (v := x14) [(3, .int x14), (0, va_rf (some l0)), (1, va_rf l1), (2, .int l2)] dX11_layQuotes_88 3 rfl (by rw [ex14]; rfl) (by decide) rfl ?_
  refine v_goto (tgt := 2) dX11_layQuotes_91 (by decide) ?_
  refine v_sub [1, 2, 3, 0] (L2 := [(0, va_rf (some l0)), (1, va_rf l1), (2, .int l2), (3, .int x14)]) rfl ?_
  exact hrec_2 _ _ _ _ _ hf
def f_X11_layQuotes_b2 : Nat → TH → Nat → Option Nat → Int32 → Int32 → Option (Unit × TH)
  | 0, _, _, _, _, _ => none
  | n + 1, σ, l0, l1, l2, l3 => gt_ (kd_ σ l0 = 13) <| lt_ (fr_ σ 1205 l0) fun r1 => nn_ r1 fun a2 => gt_ (kd_ σ a2 = 1) <| bd_ (f_Jx4a65c_size_8abf5 σ a2) fun x3 s4 => if x3 ≤ l3 then (some ((), s4)) else (lt_ (fr_ s4 1205 l0) fun r5 => nn_ r5 fun a6 => gt_ (kd_ s4 a6 = 1) <| bd_ (f_Jx4a65c_get_915e3 s4 a6 l3) fun r7 s8 => gt_ (Option.elim r7 7 (kd_ s8) = 7) <| nn_ r7 fun a9 => gt_ (kd_ s8 a9 = 7) <| lt_ (fi_ s8 600 a9) fun x10 => nn_ l1 fun a11 => gt_ (kd_ s8 a11 = 3) <| lt_ (fi_ s8 200 a11) fun x12 => if x10 = x12 then (lt_ (fi_ s8 603 a9) fun x13 => if x13 = 0 then (f_X11_layQuotes_b88 (f_X11_layQuotes_b2 n) s8 l0 (some a11) l2 l3) else (lt_ (fi_ s8 602 a9) fun x15 => lt_ (fi_ s8 202 a11) fun x16 => if x15 ≤ (l2 - x16) then (lt_ (fi_ s8 202 a11) fun x17 => lt_ (fi_ s8 602 a9) fun x18 => lt_ (si_ s8 202 a11 (x17 + x18)) fun s19 => lt_ (fi_ s19 205 a11) fun x20 => lt_ (si_ s19 205 a11 (x20 + (1 : Int32))) fun s21 => f_X11_layQuotes_b88 (f_X11_layQuotes_b2 n) s21 l0 (some a11) l2 l3) else (some ((), s8)))) else (f_X11_layQuotes_b88 (f_X11_layQuotes_b2 n) s8 l0 (some a11) l2 l3))
set_option maxHeartbeats 4000000 in
set_option maxRecDepth 100000 in
theorem t_X11_layQuotes_b2 {l : Launch} {D : va_G} {cy : Nat → ClassId} {ka : Nat → Nat} {σ0 z : TH} {r : Unit}  : ∀ (n : Nat) (σ : TH) (l0 : Nat) (l1 : Option Nat) (l2 : Int32) (l3 : Int32), f_X11_layQuotes_b2 n σ l0 l1 l2 l3 = some (r, z) → v_ l D cy ka cX11_layQuotes RX11 5 none "layQuotes" 3 64 (qf_ D cy σ0 z none) σ0 z σ 2 [(0, va_rf (some l0)), (1, va_rf l1), (2, .int l2), (3, .int l3)] [] := by
  intro n
  induction n with
  | zero => intro σ l0 l1 l2 l3 hf; unfold f_X11_layQuotes_b2 at hf; cases hf
  | succ n ih =>
    intro σ l0 l1 l2 l3 hf
    unfold f_X11_layQuotes_b2 at hf
    have hrec_2 := ih
    refine v_iload_n (x := l3) dX11_layQuotes_2 rfl 3 rfl ?_
    refine v_aload_n (x := (some l0)) dX11_layQuotes_3 rfl 0 rfl ?_
    obtain ⟨hk_l0, hf⟩ := gt_of hf
    refine v_getr cb_12 hk_l0 5 1205 rfl (by decide) rfl (lk_n kw_244 rfl) hf dX11_layQuotes_4 (fun r1 hf => ?_)
    obtain ⟨a2, rfl, hf⟩ := nn_of hf
    obtain ⟨hk_a2, hf⟩ := gt_of hf
    obtain ⟨x3, s4, hcs4, hf⟩ := bd_of hf
    have hts4 := c_Jx4a65c_size_8abf5 (l := l) (D := D) (cy := cy) (ka := ka) hcs4
    refine v_callV cb_0 hk_a2 (As := []) (rest := [.int l3]) hts4 yb_Jx4a65c_size_8abf5 kw_311 kw_312 kw_313 rfl ⟨Nat.le_of_ble_eq_true rfl, Nat.le_of_ble_eq_true rfl⟩ rfl (cat_len (Nat.le_of_ble_eq_true rfl)) dX11_layQuotes_7 ?_
    have hk_l0 := tk_ hts4.1 hk_l0
    show v_ l D cy ka cX11_layQuotes RX11 5 none "layQuotes" 3 64 (qf_ D cy σ0 z none) σ0 z _ 10 [(0, va_rf (some l0)), (1, va_rf l1), (2, .int l2), (3, .int l3)] [.int x3, .int l3]
    refine v_icmp_ge (tgt := 94) hf dX11_layQuotes_10 (by decide) (fun hq hf => ?_) (fun hq hf => ?_)
    · exact v_vret hf dX11_layQuotes_94
    · refine v_aload_n (x := (some l0)) dX11_layQuotes_13 rfl 0 rfl ?_
      refine v_getr cb_12 hk_l0 5 1205 rfl (by decide) rfl (lk_n kw_244 rfl) hf dX11_layQuotes_14 (fun r5 hf => ?_)
      refine v_iload_n (x := l3) dX11_layQuotes_17 rfl 3 rfl ?_
      obtain ⟨a6, rfl, hf⟩ := nn_of hf
      obtain ⟨hk_a6, hf⟩ := gt_of hf
      obtain ⟨r7, s8, hcs8, hf⟩ := bd_of hf
      have hts8 := c_Jx4a65c_get_915e3 (l := l) (D := D) (cy := cy) (ka := ka) hcs8
      refine v_callV cb_0 hk_a6 (As := [.int l3]) (rest := []) hts8 yb_Jx4a65c_get_915e3 kw_407 kw_408 kw_409 rfl ⟨Nat.le_of_ble_eq_true rfl, Nat.le_of_ble_eq_true rfl⟩ rfl (cat_len (Nat.le_of_ble_eq_true rfl)) dX11_layQuotes_18 ?_
      have hk_l0 := tk_ hts8.1 hk_l0
      show v_ l D cy ka cX11_layQuotes RX11 5 none "layQuotes" 3 64 (qf_ D cy σ0 z none) σ0 z _ 21 [(0, va_rf (some l0)), (1, va_rf l1), (2, .int l2), (3, .int l3)] [va_rf r7]
      refine v_cast cb_6 7 rfl kw_1137 hf dX11_layQuotes_21 (fun hf => ?_)
      refine v_astore [(4, va_rf r7), (0, va_rf (some l0)), (1, va_rf l1), (2, .int l2), (3, .int l3)] dX11_layQuotes_24 (by decide) rfl ?_
      refine v_aload (x := r7) dX11_layQuotes_26 0 rfl ?_
      obtain ⟨a9, rfl, hf⟩ := nn_of hf
      obtain ⟨hk_a9, hf⟩ := gt_of hf
      refine v_geti cb_6 hk_a9 0 600 rfl (by decide) rfl (lk_n kw_1144 rfl) hf dX11_layQuotes_28 (fun x10 hf => ?_)
      refine v_aload_n (x := l1) dX11_layQuotes_31 rfl 2 rfl ?_
      obtain ⟨a11, rfl, hf⟩ := nn_of hf
      obtain ⟨hk_a11, hf⟩ := gt_of hf
      refine v_geti cb_2 hk_a11 0 200 rfl (by decide) rfl (lk_n kw_1179 rfl) hf dX11_layQuotes_32 (fun x12 hf => ?_)
      refine v_icmp_ne (tgt := 88) hf dX11_layQuotes_35 (by decide) (fun hq hf => ?_) (fun hq hf => ?_)
      · refine v_aload (x := (some a9)) dX11_layQuotes_38 0 rfl ?_
        refine v_geti cb_6 hk_a9 3 603 rfl (by decide) rfl (lk_n kw_1150 rfl) hf dX11_layQuotes_40 (fun x13 hf => ?_)
        refine v_if_ne (tgt := 49) hf dX11_layQuotes_43 (by decide) (fun hq hf => ?_) (fun hq hf => ?_)
        · refine v_goto (tgt := 88) dX11_layQuotes_46 (by decide) ?_
          refine v_sub [1, 2, 3, 4] (L2 := [(0, va_rf (some l0)), (1, va_rf (some a11)), (2, .int l2), (3, .int l3)]) rfl ?_
          exact t_X11_layQuotes_b88 hrec_2 hf
        · refine v_aload (x := (some a9)) dX11_layQuotes_49 0 rfl ?_
          refine v_geti cb_6 hk_a9 2 602 rfl (by decide) rfl (lk_n kw_1148 rfl) hf dX11_layQuotes_51 (fun x15 hf => ?_)
          refine v_iload_n (x := l2) dX11_layQuotes_54 rfl 3 rfl ?_
          refine v_aload_n (x := (some a11)) dX11_layQuotes_55 rfl 2 rfl ?_
          refine v_geti cb_2 hk_a11 2 202 rfl (by decide) rfl (lk_n kw_1183 rfl) hf dX11_layQuotes_56 (fun x16 hf => ?_)
          refine v_isub dX11_layQuotes_59 ?_
          refine v_icmp_le (tgt := 64) hf dX11_layQuotes_60 (by decide) (fun hq hf => ?_) (fun hq hf => ?_)
          · refine v_aload_n (x := (some a11)) dX11_layQuotes_64 rfl 2 rfl ?_
            refine v_dup dX11_layQuotes_65 (va_rf_cat _) ?_
            refine v_geti cb_2 hk_a11 2 202 rfl (by decide) rfl (lk_n kw_1183 rfl) hf dX11_layQuotes_66 (fun x17 hf => ?_)
            refine v_aload (x := (some a9)) dX11_layQuotes_69 0 rfl ?_
            refine v_geti cb_6 hk_a9 2 602 rfl (by decide) rfl (lk_n kw_1148 rfl) hf dX11_layQuotes_71 (fun x18 hf => ?_)
            refine v_iadd dX11_layQuotes_74 ?_
            refine v_puti2 cb_2 hk_a11 2 202 rfl (by decide) rfl (lk_n kw_1183 rfl) (Or.inl rfl) rfl rfl hf dX11_layQuotes_75 (fun s19 hts19 hf => ?_)
            have hk_l0 := tk_ hts19 hk_l0
            have hk_a9 := tk_ hts19 hk_a9
            have hk_a11 := tk_ hts19 hk_a11
            refine v_aload_n (x := (some a11)) dX11_layQuotes_78 rfl 2 rfl ?_
            refine v_dup dX11_layQuotes_79 (va_rf_cat _) ?_
            refine v_geti cb_2 hk_a11 5 205 rfl (by decide) rfl (lk_n kw_1189 rfl) hf dX11_layQuotes_80 (fun x20 hf => ?_)
            refine v_iconst (v := 1) dX11_layQuotes_83 (by decide) ?_
            refine v_iadd dX11_layQuotes_84 ?_
            refine v_puti2 cb_2 hk_a11 5 205 rfl (by decide) rfl (lk_n kw_1189 rfl) (Or.inl rfl) rfl rfl hf dX11_layQuotes_85 (fun s21 hts21 hf => ?_)
            have hk_l0 := tk_ hts21 hk_l0
            have hk_a9 := tk_ hts21 hk_a9
            have hk_a11 := tk_ hts21 hk_a11
            refine v_sub [1, 2, 3, 4] (L2 := [(0, va_rf (some l0)), (1, va_rf (some a11)), (2, .int l2), (3, .int l3)]) rfl ?_
            exact t_X11_layQuotes_b88 hrec_2 hf
          · exact v_vret hf dX11_layQuotes_63
      · refine v_sub [1, 2, 3, 4] (L2 := [(0, va_rf (some l0)), (1, va_rf (some a11)), (2, .int l2), (3, .int l3)]) rfl ?_
        exact t_X11_layQuotes_b88 hrec_2 hf
/-- LivesAhead.layQuotes(LLivesAhead$Edition;I)V -/
def f_X11_layQuotes (σ : TH) (p0 : Nat) (p1 : Option Nat) (p2 : Int32) : Option (Unit × TH) :=
  f_X11_layQuotes_b2 fu_ σ p0 p1 p2 (0 : Int32)
set_option maxHeartbeats 4000000 in
set_option maxRecDepth 100000 in
theorem c_X11_layQuotes {l : Launch} {D : va_G} {cy : Nat → ClassId} {ka : Nat → Nat} {σ z : TH} {p0 : Nat} {p1 : Option Nat} {p2 : Int32} {r : Unit} (hf : f_X11_layQuotes σ p0 p1 p2 = some (r, z)) : ct_ l D cy ka yX11_layQuotes 3 64 [va_rf (some p0), va_rf p1, .int p2] σ none z := by
  unfold f_X11_layQuotes at hf
  refine v_start (cc := cX11_layQuotes) (own := RX11) (maxL := 5) (ret := none) (nm := "layQuotes") (by decide +kernel) kw_1230 rfl rfl (by simp [lg_sl, va_rf_cat, cat_i, cat_l]) ?_
  refine v_eqL (L2 := [(0, va_rf (some p0)), (1, va_rf p1), (2, .int p2)]) (by simp [lv_args, va_rf_cat, cat_i, cat_l]) ?_
  refine v_iconst (v := 0) dX11_layQuotes_0 (by decide) ?_
  refine v_istore_n [(3, .int (0 : Int32)), (0, va_rf (some p0)), (1, va_rf p1), (2, .int p2)] dX11_layQuotes_1 rfl (by decide) rfl ?_
  refine v_sub [1, 2, 3, 0] (L2 := [(0, va_rf (some p0)), (1, va_rf p1), (2, .int p2), (3, .int (0 : Int32))]) rfl ?_
  exact t_X11_layQuotes_b2  _ _ _ _ _ _ hf
theorem dX11_editionOf_0 : decode cX11_editionOf 0 = .ok (.aload_n 0, 1) := by decide +kernel
theorem dX11_editionOf_1 : decode cX11_editionOf 1 = .ok (.iload_n 1, 1) := by decide +kernel
theorem dX11_editionOf_2 : decode cX11_editionOf 2 = .ok (.invokevirtual 397, 3) := by decide +kernel
theorem dX11_editionOf_5 : decode cX11_editionOf 5 = .ok (.astore_n 3, 1) := by decide +kernel
theorem dX11_editionOf_6 : decode cX11_editionOf 6 = .ok (.aload_n 3, 1) := by decide +kernel
theorem dX11_editionOf_7 : decode cX11_editionOf 7 = .ok (.ifnonnull 5, 3) := by decide +kernel
theorem dX11_editionOf_10 : decode cX11_editionOf 10 = .ok (.iconst (-1), 1) := by decide +kernel
theorem dX11_editionOf_11 : decode cX11_editionOf 11 = .ok (.ireturn, 1) := by decide +kernel
theorem dX11_editionOf_12 : decode cX11_editionOf 12 = .ok (.iload_n 2, 1) := by decide +kernel
theorem dX11_editionOf_13 : decode cX11_editionOf 13 = .ok (.tableswitch 87 0 7 #[47, 52, 57, 62, 67, 72, 77, 82], 47) := by decide +kernel
theorem dX11_editionOf_60 : decode cX11_editionOf 60 = .ok (.aload_n 3, 1) := by decide +kernel
theorem dX11_editionOf_61 : decode cX11_editionOf 61 = .ok (.getfield 401, 3) := by decide +kernel
theorem dX11_editionOf_64 : decode cX11_editionOf 64 = .ok (.ireturn, 1) := by decide +kernel
theorem dX11_editionOf_65 : decode cX11_editionOf 65 = .ok (.aload_n 3, 1) := by decide +kernel
theorem dX11_editionOf_66 : decode cX11_editionOf 66 = .ok (.getfield 404, 3) := by decide +kernel
theorem dX11_editionOf_69 : decode cX11_editionOf 69 = .ok (.ireturn, 1) := by decide +kernel
theorem dX11_editionOf_70 : decode cX11_editionOf 70 = .ok (.aload_n 3, 1) := by decide +kernel
theorem dX11_editionOf_71 : decode cX11_editionOf 71 = .ok (.getfield 391, 3) := by decide +kernel
theorem dX11_editionOf_74 : decode cX11_editionOf 74 = .ok (.ireturn, 1) := by decide +kernel
theorem dX11_editionOf_75 : decode cX11_editionOf 75 = .ok (.aload_n 3, 1) := by decide +kernel
theorem dX11_editionOf_76 : decode cX11_editionOf 76 = .ok (.getfield 392, 3) := by decide +kernel
theorem dX11_editionOf_79 : decode cX11_editionOf 79 = .ok (.ireturn, 1) := by decide +kernel
theorem dX11_editionOf_80 : decode cX11_editionOf 80 = .ok (.aload_n 3, 1) := by decide +kernel
theorem dX11_editionOf_81 : decode cX11_editionOf 81 = .ok (.getfield 405, 3) := by decide +kernel
theorem dX11_editionOf_84 : decode cX11_editionOf 84 = .ok (.ireturn, 1) := by decide +kernel
theorem dX11_editionOf_85 : decode cX11_editionOf 85 = .ok (.aload_n 3, 1) := by decide +kernel
theorem dX11_editionOf_86 : decode cX11_editionOf 86 = .ok (.getfield 408, 3) := by decide +kernel
theorem dX11_editionOf_89 : decode cX11_editionOf 89 = .ok (.ireturn, 1) := by decide +kernel
theorem dX11_editionOf_90 : decode cX11_editionOf 90 = .ok (.aload_n 3, 1) := by decide +kernel
theorem dX11_editionOf_91 : decode cX11_editionOf 91 = .ok (.getfield 410, 3) := by decide +kernel
theorem dX11_editionOf_94 : decode cX11_editionOf 94 = .ok (.ireturn, 1) := by decide +kernel
theorem dX11_editionOf_95 : decode cX11_editionOf 95 = .ok (.aload_n 3, 1) := by decide +kernel
theorem dX11_editionOf_96 : decode cX11_editionOf 96 = .ok (.getfield 411, 3) := by decide +kernel
theorem dX11_editionOf_99 : decode cX11_editionOf 99 = .ok (.ireturn, 1) := by decide +kernel
theorem dX11_editionOf_100 : decode cX11_editionOf 100 = .ok (.iconst (-1), 1) := by decide +kernel
theorem dX11_editionOf_101 : decode cX11_editionOf 101 = .ok (.ireturn, 1) := by decide +kernel
/-- LivesAhead.editionOf(II)I -/
def f_X11_editionOf (σ : TH) (p0 : Nat) (p1 : Int32) (p2 : Int32) : Option (Int32 × TH) :=
  gt_ (kd_ σ p0 = 13) <| bd_ (f_X11_editionAt σ p0 p1) fun r1 s2 => oc_ r1 (some ((-1 : Int32), s2)) (fun a3 => if p2 = 0 then (gt_ (kd_ s2 a3 = 3) <| lt_ (fi_ s2 200 a3) fun x4 => some (x4, s2)) else if p2 = 1 then (gt_ (kd_ s2 a3 = 3) <| lt_ (fi_ s2 201 a3) fun x5 => some (x5, s2)) else if p2 = 2 then (gt_ (kd_ s2 a3 = 3) <| lt_ (fi_ s2 202 a3) fun x6 => some (x6, s2)) else if p2 = 3 then (gt_ (kd_ s2 a3 = 3) <| lt_ (fi_ s2 203 a3) fun x7 => some (x7, s2)) else if p2 = 4 then (gt_ (kd_ s2 a3 = 3) <| lt_ (fi_ s2 204 a3) fun x8 => some (x8, s2)) else if p2 = 5 then (gt_ (kd_ s2 a3 = 3) <| lt_ (fi_ s2 205 a3) fun x9 => some (x9, s2)) else if p2 = 6 then (gt_ (kd_ s2 a3 = 3) <| lt_ (fi_ s2 206 a3) fun x10 => some (x10, s2)) else if p2 = 7 then (gt_ (kd_ s2 a3 = 3) <| lt_ (fi_ s2 207 a3) fun x11 => some (x11, s2)) else (some ((-1 : Int32), s2)))
set_option maxHeartbeats 4000000 in
set_option maxRecDepth 100000 in
theorem c_X11_editionOf {l : Launch} {D : va_G} {cy : Nat → ClassId} {ka : Nat → Nat} {σ z : TH} {p0 : Nat} {p1 : Int32} {p2 : Int32} {r : Int32} (hf : f_X11_editionOf σ p0 p1 p2 = some (r, z)) : ct_ l D cy ka yX11_editionOf 4 85 [va_rf (some p0), .int p1, .int p2] σ (some (.int r)) z := by
  unfold f_X11_editionOf at hf
  refine v_start (cc := cX11_editionOf) (own := RX11) (maxL := 4) (ret := (some FieldType.int)) (nm := "editionOf") (by decide +kernel) kw_1242 rfl rfl (by simp [lg_sl, va_rf_cat, cat_i, cat_l]) ?_
  refine v_eqL (L2 := [(0, va_rf (some p0)), (1, .int p1), (2, .int p2)]) (by simp [lv_args, va_rf_cat, cat_i, cat_l]) ?_
  refine v_aload_n (x := (some p0)) dX11_editionOf_0 rfl 0 rfl ?_
  refine v_iload_n (x := p1) dX11_editionOf_1 rfl 1 rfl ?_
  obtain ⟨hk_p0, hf⟩ := gt_of hf
  obtain ⟨r1, s2, hcs2, hf⟩ := bd_of hf
  have hts2 := c_X11_editionAt (l := l) (D := D) (cy := cy) (ka := ka) hcs2
  refine v_callV cb_12 hk_p0 (As := [.int p1]) (rest := []) hts2 yb_X11_editionAt kw_1243 kw_1245 kp_65 rfl ⟨Nat.le_of_ble_eq_true rfl, Nat.le_of_ble_eq_true rfl⟩ rfl (cat_len (Nat.le_of_ble_eq_true rfl)) dX11_editionOf_2 ?_
  have hk_p0 := tk_ hts2.1 hk_p0
  show v_ l D cy ka cX11_editionOf RX11 4 (some FieldType.int) "editionOf" 4 85 (qf_ D cy σ z (some (.int r))) σ z _ 5 [(0, va_rf (some p0)), (1, .int p1), (2, .int p2)] [va_rf r1]
  refine v_astore_n [(3, va_rf r1), (0, va_rf (some p0)), (1, .int p1), (2, .int p2)] dX11_editionOf_5 rfl (by decide) rfl ?_
  refine v_aload_n (x := r1) dX11_editionOf_6 rfl 0 rfl ?_
  refine v_ifnonnull2 (tgt := 12) hf dX11_editionOf_7 (by decide) (fun e9 hf9 => ?_) (fun a3 e9 hf9 => ?_)
  · subst e9
    replace hf := hf9
    clear hf9
    refine v_iconst (v := (-1)) dX11_editionOf_10 (by decide) ?_
    exact v_iret hf dX11_editionOf_11
  · subst e9
    replace hf := hf9
    clear hf9
    refine v_iload_n (x := p2) dX11_editionOf_12 rfl 3 rfl ?_
    try dsimp only [oc_] at hf
    by_cases hq0 : p2 = 0
    · rw [if_pos hq0] at hf
      refine v_tswIn (tgt := 60) (c9 := 0) hq0 dX11_editionOf_13 (by decide) (by decide) rfl (by decide) ?_
      refine v_aload_n (x := (some a3)) dX11_editionOf_60 rfl 0 rfl ?_
      obtain ⟨hk_a3, hf⟩ := gt_of hf
      refine v_geti cb_2 hk_a3 0 200 rfl (by decide) rfl (lk_n kw_1179 rfl) hf dX11_editionOf_61 (fun x4 hf => ?_)
      exact v_iret hf dX11_editionOf_64
    rw [if_neg hq0] at hf
    by_cases hq1 : p2 = 1
    · rw [if_pos hq1] at hf
      refine v_tswIn (tgt := 65) (c9 := 1) hq1 dX11_editionOf_13 (by decide) (by decide) rfl (by decide) ?_
      refine v_aload_n (x := (some a3)) dX11_editionOf_65 rfl 0 rfl ?_
      obtain ⟨hk_a3, hf⟩ := gt_of hf
      refine v_geti cb_2 hk_a3 1 201 rfl (by decide) rfl (lk_n kw_1181 rfl) hf dX11_editionOf_66 (fun x5 hf => ?_)
      exact v_iret hf dX11_editionOf_69
    rw [if_neg hq1] at hf
    by_cases hq2 : p2 = 2
    · rw [if_pos hq2] at hf
      refine v_tswIn (tgt := 70) (c9 := 2) hq2 dX11_editionOf_13 (by decide) (by decide) rfl (by decide) ?_
      refine v_aload_n (x := (some a3)) dX11_editionOf_70 rfl 0 rfl ?_
      obtain ⟨hk_a3, hf⟩ := gt_of hf
      refine v_geti cb_2 hk_a3 2 202 rfl (by decide) rfl (lk_n kw_1183 rfl) hf dX11_editionOf_71 (fun x6 hf => ?_)
      exact v_iret hf dX11_editionOf_74
    rw [if_neg hq2] at hf
    by_cases hq3 : p2 = 3
    · rw [if_pos hq3] at hf
      refine v_tswIn (tgt := 75) (c9 := 3) hq3 dX11_editionOf_13 (by decide) (by decide) rfl (by decide) ?_
      refine v_aload_n (x := (some a3)) dX11_editionOf_75 rfl 0 rfl ?_
      obtain ⟨hk_a3, hf⟩ := gt_of hf
      refine v_geti cb_2 hk_a3 3 203 rfl (by decide) rfl (lk_n kw_1185 rfl) hf dX11_editionOf_76 (fun x7 hf => ?_)
      exact v_iret hf dX11_editionOf_79
    rw [if_neg hq3] at hf
    by_cases hq4 : p2 = 4
    · rw [if_pos hq4] at hf
      refine v_tswIn (tgt := 80) (c9 := 4) hq4 dX11_editionOf_13 (by decide) (by decide) rfl (by decide) ?_
      refine v_aload_n (x := (some a3)) dX11_editionOf_80 rfl 0 rfl ?_
      obtain ⟨hk_a3, hf⟩ := gt_of hf
      refine v_geti cb_2 hk_a3 4 204 rfl (by decide) rfl (lk_n kw_1187 rfl) hf dX11_editionOf_81 (fun x8 hf => ?_)
      exact v_iret hf dX11_editionOf_84
    rw [if_neg hq4] at hf
    by_cases hq5 : p2 = 5
    · rw [if_pos hq5] at hf
      refine v_tswIn (tgt := 85) (c9 := 5) hq5 dX11_editionOf_13 (by decide) (by decide) rfl (by decide) ?_
      refine v_aload_n (x := (some a3)) dX11_editionOf_85 rfl 0 rfl ?_
      obtain ⟨hk_a3, hf⟩ := gt_of hf
      refine v_geti cb_2 hk_a3 5 205 rfl (by decide) rfl (lk_n kw_1189 rfl) hf dX11_editionOf_86 (fun x9 hf => ?_)
      exact v_iret hf dX11_editionOf_89
    rw [if_neg hq5] at hf
    by_cases hq6 : p2 = 6
    · rw [if_pos hq6] at hf
      refine v_tswIn (tgt := 90) (c9 := 6) hq6 dX11_editionOf_13 (by decide) (by decide) rfl (by decide) ?_
      refine v_aload_n (x := (some a3)) dX11_editionOf_90 rfl 0 rfl ?_
      obtain ⟨hk_a3, hf⟩ := gt_of hf
      refine v_geti cb_2 hk_a3 6 206 rfl (by decide) rfl (lk_n kw_1191 rfl) hf dX11_editionOf_91 (fun x10 hf => ?_)
      exact v_iret hf dX11_editionOf_94
    rw [if_neg hq6] at hf
    by_cases hq7 : p2 = 7
    · rw [if_pos hq7] at hf
      refine v_tswIn (tgt := 95) (c9 := 7) hq7 dX11_editionOf_13 (by decide) (by decide) rfl (by decide) ?_
      refine v_aload_n (x := (some a3)) dX11_editionOf_95 rfl 0 rfl ?_
      obtain ⟨hk_a3, hf⟩ := gt_of hf
      refine v_geti cb_2 hk_a3 7 207 rfl (by decide) rfl (lk_n kw_1193 rfl) hf dX11_editionOf_96 (fun x11 hf => ?_)
      exact v_iret hf dX11_editionOf_99
    rw [if_neg hq7] at hf
    refine v_tswOut (tgt := 100) 8 0 (by decide) (by decide) (fun j hj => ?_) (by decide) (by decide) dX11_editionOf_13 (by decide) ?_
    · match j, hj with
      | 0, _ => exact hq0
      | 1, _ => exact hq1
      | 2, _ => exact hq2
      | 3, _ => exact hq3
      | 4, _ => exact hq4
      | 5, _ => exact hq5
      | 6, _ => exact hq6
      | 7, _ => exact hq7
      | j + 8, hj => exact absurd hj (by omega)
    · refine v_iconst (v := (-1)) dX11_editionOf_100 (by decide) ?_
      exact v_iret hf dX11_editionOf_101
theorem dX11_embargo_0 : decode cX11_embargo 0 = .ok (.aload_n 0, 1) := by decide +kernel
theorem dX11_embargo_1 : decode cX11_embargo 1 = .ok (.iload_n 1, 1) := by decide +kernel
theorem dX11_embargo_2 : decode cX11_embargo 2 = .ok (.invokevirtual 149, 3) := by decide +kernel
theorem dX11_embargo_5 : decode cX11_embargo 5 = .ok (.astore 4, 2) := by decide +kernel
theorem dX11_embargo_7 : decode cX11_embargo 7 = .ok (.aload 4, 2) := by decide +kernel
theorem dX11_embargo_9 : decode cX11_embargo 9 = .ok (.ifnonnull 9, 3) := by decide +kernel
theorem dX11_embargo_12 : decode cX11_embargo 12 = .ok (.aload_n 0, 1) := by decide +kernel
theorem dX11_embargo_13 : decode cX11_embargo 13 = .ok (.iconst 1, 1) := by decide +kernel
theorem dX11_embargo_14 : decode cX11_embargo 14 = .ok (.invokevirtual 121, 3) := by decide +kernel
theorem dX11_embargo_17 : decode cX11_embargo 17 = .ok (.ireturn, 1) := by decide +kernel
theorem dX11_embargo_18 : decode cX11_embargo 18 = .ok (.iload_n 2, 1) := by decide +kernel
theorem dX11_embargo_19 : decode cX11_embargo 19 = .ok (.iconst 0, 1) := by decide +kernel
theorem dX11_embargo_20 : decode cX11_embargo 20 = .ok (.sipush 3650, 3) := by decide +kernel
theorem dX11_embargo_23 : decode cX11_embargo 23 = .ok (.invokestatic 93, 3) := by decide +kernel
theorem dX11_embargo_26 : decode cX11_embargo 26 = .ok (.ifCond .eq 14, 3) := by decide +kernel
theorem dX11_embargo_29 : decode cX11_embargo 29 = .ok (.iload_n 3, 1) := by decide +kernel
theorem dX11_embargo_30 : decode cX11_embargo 30 = .ok (.iconst 0, 1) := by decide +kernel
theorem dX11_embargo_31 : decode cX11_embargo 31 = .ok (.sipush 1439, 3) := by decide +kernel
theorem dX11_embargo_34 : decode cX11_embargo 34 = .ok (.invokestatic 93, 3) := by decide +kernel
theorem dX11_embargo_37 : decode cX11_embargo 37 = .ok (.ifCond .ne 9, 3) := by decide +kernel
theorem dX11_embargo_40 : decode cX11_embargo 40 = .ok (.aload_n 0, 1) := by decide +kernel
theorem dX11_embargo_41 : decode cX11_embargo 41 = .ok (.iconst 2, 1) := by decide +kernel
theorem dX11_embargo_42 : decode cX11_embargo 42 = .ok (.invokevirtual 121, 3) := by decide +kernel
theorem dX11_embargo_45 : decode cX11_embargo 45 = .ok (.ireturn, 1) := by decide +kernel
theorem dX11_embargo_46 : decode cX11_embargo 46 = .ok (.aload 4, 2) := by decide +kernel
theorem dX11_embargo_48 : decode cX11_embargo 48 = .ok (.iload_n 2, 1) := by decide +kernel
theorem dX11_embargo_49 : decode cX11_embargo 49 = .ok (.sipush 1440, 3) := by decide +kernel
theorem dX11_embargo_52 : decode cX11_embargo 52 = .ok (.imul, 1) := by decide +kernel
theorem dX11_embargo_53 : decode cX11_embargo 53 = .ok (.iload_n 3, 1) := by decide +kernel
theorem dX11_embargo_54 : decode cX11_embargo 54 = .ok (.iadd, 1) := by decide +kernel
theorem dX11_embargo_55 : decode cX11_embargo 55 = .ok (.putfield 378, 3) := by decide +kernel
theorem dX11_embargo_58 : decode cX11_embargo 58 = .ok (.aload_n 0, 1) := by decide +kernel
theorem dX11_embargo_59 : decode cX11_embargo 59 = .ok (.invokevirtual 128, 3) := by decide +kernel
theorem dX11_embargo_62 : decode cX11_embargo 62 = .ok (.ireturn, 1) := by decide +kernel
def f_X11_embargo_b40 (σ : TH) (l0 : Nat) : Option (Int32 × TH) :=
  gt_ (kd_ σ l0 = 13) <| bd_ (f_X11_denied σ l0 (2 : Int32)) fun x8 s9 => gt_ (x8 = 0 ∨ x8 = 1) <| some (x8, s9)
set_option maxHeartbeats 4000000 in
set_option maxRecDepth 100000 in
theorem t_X11_embargo_b40 {l : Launch} {D : va_G} {cy : Nat → ClassId} {ka : Nat → Nat} {σ0 z : TH} {r : Int32}  {σ : TH} {l0 : Nat} (hf : f_X11_embargo_b40 σ l0 = some (r, z)) : v_ l D cy ka cX11_embargo RX11 5 (some FieldType.boolean) "embargo" 4 85 (qf_ D cy σ0 z (some (.int r))) σ0 z σ 40 [(0, va_rf (some l0))] [] := by
  unfold f_X11_embargo_b40 at hf
  refine v_aload_n (x := (some l0)) dX11_embargo_40 rfl 0 rfl ?_
  refine v_iconst (v := 2) dX11_embargo_41 (by decide) ?_
  obtain ⟨hk_l0, hf⟩ := gt_of hf
  obtain ⟨x8, s9, hcs9, hf⟩ := bd_of hf
  have hts9 := c_X11_denied (l := l) (D := D) (cy := cy) (ka := ka) hcs9
  refine v_callV cb_12 hk_l0 (As := [.int (2 : Int32)]) (rest := []) hts9 yb_X11_denied kw_421 kw_423 kp_6 rfl ⟨Nat.le_of_ble_eq_true rfl, Nat.le_of_ble_eq_true rfl⟩ rfl (cat_len (Nat.le_of_ble_eq_true rfl)) dX11_embargo_42 ?_
  have hk_l0 := tk_ hts9.1 hk_l0
  show v_ l D cy ka cX11_embargo RX11 5 (some FieldType.boolean) "embargo" 4 85 (qf_ D cy σ0 z (some (.int r))) σ0 z _ 45 [(0, va_rf (some l0))] [.int x8]
  obtain ⟨hb9, hf⟩ := gt_of hf
  exact v_zret hf (nz_ hb9) dX11_embargo_45
/-- LivesAhead.embargo(III)Z -/
def f_X11_embargo (σ : TH) (p0 : Nat) (p1 : Int32) (p2 : Int32) (p3 : Int32) : Option (Int32 × TH) :=
  gt_ (kd_ σ p0 = 13) <| bd_ (f_X11_personAt σ p0 p1) fun r1 s2 => oc_ r1 (bd_ (f_X11_denied s2 p0 (1 : Int32)) fun x4 s5 => gt_ (x4 = 0 ∨ x4 = 1) <| some (x4, s5)) (fun a3 => bd_ (f_X11_within s2 p2 (0 : Int32) (3650 : Int32)) fun x6 s7 => if x6 = 0 then (f_X11_embargo_b40 s7 p0) else (bd_ (f_X11_within s7 p3 (0 : Int32) (1439 : Int32)) fun x10 s11 => if x10 = 0 then (f_X11_embargo_b40 s11 p0) else (gt_ (kd_ s11 a3 = 4) <| lt_ (si_ s11 307 a3 ((p2 * (1440 : Int32)) + p3)) fun s12 => bd_ (f_X11_allowed s12 p0) fun x13 s14 => gt_ (x13 = 0 ∨ x13 = 1) <| some (x13, s14))))
set_option maxHeartbeats 4000000 in
set_option maxRecDepth 100000 in
theorem c_X11_embargo {l : Launch} {D : va_G} {cy : Nat → ClassId} {ka : Nat → Nat} {σ z : TH} {p0 : Nat} {p1 : Int32} {p2 : Int32} {p3 : Int32} {r : Int32} (hf : f_X11_embargo σ p0 p1 p2 p3 = some (r, z)) : ct_ l D cy ka yX11_embargo 4 85 [va_rf (some p0), .int p1, .int p2, .int p3] σ (some (.int r)) z := by
  unfold f_X11_embargo at hf
  refine v_start (cc := cX11_embargo) (own := RX11) (maxL := 5) (ret := (some FieldType.boolean)) (nm := "embargo") (by decide +kernel) kw_1167 rfl rfl (by simp [lg_sl, va_rf_cat, cat_i, cat_l]) ?_
  refine v_eqL (L2 := [(0, va_rf (some p0)), (1, .int p1), (2, .int p2), (3, .int p3)]) (by simp [lv_args, va_rf_cat, cat_i, cat_l]) ?_
  refine v_aload_n (x := (some p0)) dX11_embargo_0 rfl 0 rfl ?_
  refine v_iload_n (x := p1) dX11_embargo_1 rfl 1 rfl ?_
  obtain ⟨hk_p0, hf⟩ := gt_of hf
  obtain ⟨r1, s2, hcs2, hf⟩ := bd_of hf
  have hts2 := c_X11_personAt (l := l) (D := D) (cy := cy) (ka := ka) hcs2
  refine v_callV cb_12 hk_p0 (As := [.int p1]) (rest := []) hts2 yb_X11_personAt kw_526 kw_528 kp_11 rfl ⟨Nat.le_of_ble_eq_true rfl, Nat.le_of_ble_eq_true rfl⟩ rfl (cat_len (Nat.le_of_ble_eq_true rfl)) dX11_embargo_2 ?_
  have hk_p0 := tk_ hts2.1 hk_p0
  show v_ l D cy ka cX11_embargo RX11 5 (some FieldType.boolean) "embargo" 4 85 (qf_ D cy σ z (some (.int r))) σ z _ 5 [(0, va_rf (some p0)), (1, .int p1), (2, .int p2), (3, .int p3)] [va_rf r1]
  refine v_astore [(4, va_rf r1), (0, va_rf (some p0)), (1, .int p1), (2, .int p2), (3, .int p3)] dX11_embargo_5 (by decide) rfl ?_
  refine v_aload (x := r1) dX11_embargo_7 0 rfl ?_
  refine v_ifnonnull2 (tgt := 18) hf dX11_embargo_9 (by decide) (fun e9 hf9 => ?_) (fun a3 e9 hf9 => ?_)
  · subst e9
    replace hf := hf9
    clear hf9
    refine v_aload_n (x := (some p0)) dX11_embargo_12 rfl 1 rfl ?_
    refine v_iconst (v := 1) dX11_embargo_13 (by decide) ?_
    obtain ⟨x4, s5, hcs5, hf⟩ := bd_of hf
    have hts5 := c_X11_denied (l := l) (D := D) (cy := cy) (ka := ka) hcs5
    refine v_callV cb_12 hk_p0 (As := [.int (1 : Int32)]) (rest := []) hts5 yb_X11_denied kw_421 kw_423 kp_6 rfl ⟨Nat.le_of_ble_eq_true rfl, Nat.le_of_ble_eq_true rfl⟩ rfl (cat_len (Nat.le_of_ble_eq_true rfl)) dX11_embargo_14 ?_
    have hk_p0 := tk_ hts5.1 hk_p0
    show v_ l D cy ka cX11_embargo RX11 5 (some FieldType.boolean) "embargo" 4 85 (qf_ D cy σ z (some (.int r))) σ z _ 17 [(4, va_rf none), (0, va_rf (some p0)), (1, .int p1), (2, .int p2), (3, .int p3)] [.int x4]
    obtain ⟨hb9, hf⟩ := gt_of hf
    exact v_zret hf (nz_ hb9) dX11_embargo_17
  · subst e9
    replace hf := hf9
    clear hf9
    refine v_iload_n (x := p2) dX11_embargo_18 rfl 3 rfl ?_
    refine v_iconst (v := 0) dX11_embargo_19 (by decide) ?_
    refine v_sipush (v := 3650) dX11_embargo_20 (by decide) ?_
    obtain ⟨x6, s7, hcs7, hf⟩ := bd_of hf
    have hts7 := c_X11_within (l := l) (D := D) (cy := cy) (ka := ka) hcs7
    refine v_callS (As := [.int p2, .int (0 : Int32), .int (3650 : Int32)]) (rest := []) hts7 yb_X11_within kw_304 kw_305 rfl ⟨Nat.le_of_ble_eq_true rfl, Nat.le_of_ble_eq_true rfl⟩ rfl (cat_len (Nat.le_of_ble_eq_true rfl)) dX11_embargo_23 ?_
    have hk_p0 := tk_ hts7.1 hk_p0
    show v_ l D cy ka cX11_embargo RX11 5 (some FieldType.boolean) "embargo" 4 85 (qf_ D cy σ z (some (.int r))) σ z _ 26 [(4, va_rf (some a3)), (0, va_rf (some p0)), (1, .int p1), (2, .int p2), (3, .int p3)] [.int x6]
    refine v_if_eq (tgt := 40) hf dX11_embargo_26 (by decide) (fun hq hf => ?_) (fun hq hf => ?_)
    · refine v_sub [1] (L2 := [(0, va_rf (some p0))]) rfl ?_
      exact t_X11_embargo_b40  hf
    · refine v_iload_n (x := p3) dX11_embargo_29 rfl 4 rfl ?_
      refine v_iconst (v := 0) dX11_embargo_30 (by decide) ?_
      refine v_sipush (v := 1439) dX11_embargo_31 (by decide) ?_
      obtain ⟨x10, s11, hcs11, hf⟩ := bd_of hf
      have hts11 := c_X11_within (l := l) (D := D) (cy := cy) (ka := ka) hcs11
      refine v_callS (As := [.int p3, .int (0 : Int32), .int (1439 : Int32)]) (rest := []) hts11 yb_X11_within kw_304 kw_305 rfl ⟨Nat.le_of_ble_eq_true rfl, Nat.le_of_ble_eq_true rfl⟩ rfl (cat_len (Nat.le_of_ble_eq_true rfl)) dX11_embargo_34 ?_
      have hk_p0 := tk_ hts11.1 hk_p0
      show v_ l D cy ka cX11_embargo RX11 5 (some FieldType.boolean) "embargo" 4 85 (qf_ D cy σ z (some (.int r))) σ z _ 37 [(4, va_rf (some a3)), (0, va_rf (some p0)), (1, .int p1), (2, .int p2), (3, .int p3)] [.int x10]
      refine v_if_ne (tgt := 46) hf dX11_embargo_37 (by decide) (fun hq hf => ?_) (fun hq hf => ?_)
      · refine v_sub [1] (L2 := [(0, va_rf (some p0))]) rfl ?_
        exact t_X11_embargo_b40  hf
      · refine v_aload (x := (some a3)) dX11_embargo_46 0 rfl ?_
        refine v_iload_n (x := p2) dX11_embargo_48 rfl 3 rfl ?_
        refine v_sipush (v := 1440) dX11_embargo_49 (by decide) ?_
        refine v_imul dX11_embargo_52 ?_
        refine v_iload_n (x := p3) dX11_embargo_53 rfl 4 rfl ?_
        refine v_iadd dX11_embargo_54 ?_
        obtain ⟨hk_a3, hf⟩ := gt_of hf
        refine v_puti2 cb_3 hk_a3 7 307 rfl (by decide) rfl (lk_n kw_479 rfl) (Or.inl rfl) rfl rfl hf dX11_embargo_55 (fun s12 hts12 hf => ?_)
        have hk_p0 := tk_ hts12 hk_p0
        have hk_a3 := tk_ hts12 hk_a3
        refine v_aload_n (x := (some p0)) dX11_embargo_58 rfl 1 rfl ?_
        obtain ⟨x13, s14, hcs14, hf⟩ := bd_of hf
        have hts14 := c_X11_allowed (l := l) (D := D) (cy := cy) (ka := ka) hcs14
        refine v_callV cb_12 hk_p0 (As := []) (rest := []) hts14 yb_X11_allowed kw_425 kw_427 kp_7 rfl ⟨Nat.le_of_ble_eq_true rfl, Nat.le_of_ble_eq_true rfl⟩ rfl (cat_len (Nat.le_of_ble_eq_true rfl)) dX11_embargo_59 ?_
        have hk_p0 := tk_ hts14.1 hk_p0
        have hk_a3 := tk_ hts14.1 hk_a3
        show v_ l D cy ka cX11_embargo RX11 5 (some FieldType.boolean) "embargo" 4 85 (qf_ D cy σ z (some (.int r))) σ z _ 62 [(4, va_rf (some a3)), (0, va_rf (some p0)), (1, .int p1), (2, .int p2), (3, .int p3)] [.int x13]
        obtain ⟨hb9, hf⟩ := gt_of hf
        exact v_zret hf (nz_ hb9) dX11_embargo_62
theorem dX11_fact_0 : decode cX11_fact 0 = .ok (.aload_n 0, 1) := by decide +kernel
theorem dX11_fact_1 : decode cX11_fact 1 = .ok (.iload_n 1, 1) := by decide +kernel
theorem dX11_fact_2 : decode cX11_fact 2 = .ok (.invokevirtual 149, 3) := by decide +kernel
theorem dX11_fact_5 : decode cX11_fact 5 = .ok (.astore 5, 2) := by decide +kernel
theorem dX11_fact_7 : decode cX11_fact 7 = .ok (.aload 5, 2) := by decide +kernel
theorem dX11_fact_9 : decode cX11_fact 9 = .ok (.ifnonnull 9, 3) := by decide +kernel
theorem dX11_fact_12 : decode cX11_fact 12 = .ok (.aload_n 0, 1) := by decide +kernel
theorem dX11_fact_13 : decode cX11_fact 13 = .ok (.iconst 1, 1) := by decide +kernel
theorem dX11_fact_14 : decode cX11_fact 14 = .ok (.invokevirtual 97, 3) := by decide +kernel
theorem dX11_fact_17 : decode cX11_fact 17 = .ok (.ireturn, 1) := by decide +kernel
theorem dX11_fact_18 : decode cX11_fact 18 = .ok (.iload_n 2, 1) := by decide +kernel
theorem dX11_fact_19 : decode cX11_fact 19 = .ok (.invokestatic 195, 3) := by decide +kernel
theorem dX11_fact_22 : decode cX11_fact 22 = .ok (.ifCond .eq 10, 3) := by decide +kernel
theorem dX11_fact_25 : decode cX11_fact 25 = .ok (.iload_n 3, 1) := by decide +kernel
theorem dX11_fact_26 : decode cX11_fact 26 = .ok (.invokestatic 198, 3) := by decide +kernel
theorem dX11_fact_29 : decode cX11_fact 29 = .ok (.ifCond .ne 9, 3) := by decide +kernel
theorem dX11_fact_32 : decode cX11_fact 32 = .ok (.aload_n 0, 1) := by decide +kernel
theorem dX11_fact_33 : decode cX11_fact 33 = .ok (.iconst 2, 1) := by decide +kernel
theorem dX11_fact_34 : decode cX11_fact 34 = .ok (.invokevirtual 97, 3) := by decide +kernel
theorem dX11_fact_37 : decode cX11_fact 37 = .ok (.ireturn, 1) := by decide +kernel
theorem dX11_fact_38 : decode cX11_fact 38 = .ok (.aload_n 0, 1) := by decide +kernel
theorem dX11_fact_39 : decode cX11_fact 39 = .ok (.getfield 59, 3) := by decide +kernel
theorem dX11_fact_42 : decode cX11_fact 42 = .ok (.sipush 240, 3) := by decide +kernel
theorem dX11_fact_45 : decode cX11_fact 45 = .ok (.if_icmp .lt 9, 3) := by decide +kernel
theorem dX11_fact_48 : decode cX11_fact 48 = .ok (.aload_n 0, 1) := by decide +kernel
theorem dX11_fact_49 : decode cX11_fact 49 = .ok (.iconst 3, 1) := by decide +kernel
theorem dX11_fact_50 : decode cX11_fact 50 = .ok (.invokevirtual 97, 3) := by decide +kernel
theorem dX11_fact_53 : decode cX11_fact 53 = .ok (.ireturn, 1) := by decide +kernel
theorem dX11_fact_54 : decode cX11_fact 54 = .ok (.aload_n 0, 1) := by decide +kernel
theorem dX11_fact_55 : decode cX11_fact 55 = .ok (.dup, 1) := by decide +kernel
theorem dX11_fact_56 : decode cX11_fact 56 = .ok (.getfield 59, 3) := by decide +kernel
theorem dX11_fact_59 : decode cX11_fact 59 = .ok (.iconst 1, 1) := by decide +kernel
theorem dX11_fact_60 : decode cX11_fact 60 = .ok (.iadd, 1) := by decide +kernel
theorem dX11_fact_61 : decode cX11_fact 61 = .ok (.putfield 59, 3) := by decide +kernel
theorem dX11_fact_64 : decode cX11_fact 64 = .ok (.new 201, 3) := by decide +kernel
theorem dX11_fact_67 : decode cX11_fact 67 = .ok (.dup, 1) := by decide +kernel
theorem dX11_fact_68 : decode cX11_fact 68 = .ok (.iload_n 3, 1) := by decide +kernel
theorem dX11_fact_69 : decode cX11_fact 69 = .ok (.iload 4, 2) := by decide +kernel
theorem dX11_fact_71 : decode cX11_fact 71 = .ok (.aload_n 0, 1) := by decide +kernel
theorem dX11_fact_72 : decode cX11_fact 72 = .ok (.invokevirtual 188, 3) := by decide +kernel
theorem dX11_fact_75 : decode cX11_fact 75 = .ok (.aload 5, 2) := by decide +kernel
theorem dX11_fact_77 : decode cX11_fact 77 = .ok (.getfield 203, 3) := by decide +kernel
theorem dX11_fact_80 : decode cX11_fact 80 = .ok (.iload_n 2, 1) := by decide +kernel
theorem dX11_fact_81 : decode cX11_fact 81 = .ok (.aaload, 1) := by decide +kernel
theorem dX11_fact_82 : decode cX11_fact 82 = .ok (.invokespecial 207, 3) := by decide +kernel
theorem dX11_fact_85 : decode cX11_fact 85 = .ok (.astore 6, 2) := by decide +kernel
theorem dX11_fact_87 : decode cX11_fact 87 = .ok (.aload 5, 2) := by decide +kernel
theorem dX11_fact_89 : decode cX11_fact 89 = .ok (.getfield 203, 3) := by decide +kernel
theorem dX11_fact_92 : decode cX11_fact 92 = .ok (.iload_n 2, 1) := by decide +kernel
theorem dX11_fact_93 : decode cX11_fact 93 = .ok (.aload 6, 2) := by decide +kernel
theorem dX11_fact_95 : decode cX11_fact 95 = .ok (.aastore, 1) := by decide +kernel
theorem dX11_fact_96 : decode cX11_fact 96 = .ok (.aload_n 0, 1) := by decide +kernel
theorem dX11_fact_97 : decode cX11_fact 97 = .ok (.aload 6, 2) := by decide +kernel
theorem dX11_fact_99 : decode cX11_fact 99 = .ok (.getfield 210, 3) := by decide +kernel
theorem dX11_fact_102 : decode cX11_fact 102 = .ok (.invokevirtual 114, 3) := by decide +kernel
theorem dX11_fact_105 : decode cX11_fact 105 = .ok (.ireturn, 1) := by decide +kernel
def f_X11_fact_b32 (σ : TH) (l0 : Nat) : Option (Int32 × TH) :=
  gt_ (kd_ σ l0 = 13) <| bd_ (f_X11_refused σ l0 (2 : Int32)) fun x8 s9 => some (x8, s9)
set_option maxHeartbeats 4000000 in
set_option maxRecDepth 100000 in
theorem t_X11_fact_b32 {l : Launch} {D : va_G} {cy : Nat → ClassId} {ka : Nat → Nat} {σ0 z : TH} {r : Int32}  {σ : TH} {l0 : Nat} (hf : f_X11_fact_b32 σ l0 = some (r, z)) : v_ l D cy ka cX11_fact RX11 7 (some FieldType.int) "fact" 4 85 (qf_ D cy σ0 z (some (.int r))) σ0 z σ 32 [(0, va_rf (some l0))] [] := by
  unfold f_X11_fact_b32 at hf
  refine v_aload_n (x := (some l0)) dX11_fact_32 rfl 0 rfl ?_
  refine v_iconst (v := 2) dX11_fact_33 (by decide) ?_
  obtain ⟨hk_l0, hf⟩ := gt_of hf
  obtain ⟨x8, s9, hcs9, hf⟩ := bd_of hf
  have hts9 := c_X11_refused (l := l) (D := D) (cy := cy) (ka := ka) hcs9
  refine v_callV cb_12 hk_l0 (As := [.int (2 : Int32)]) (rest := []) hts9 yb_X11_refused kw_307 kw_309 kp_0 rfl ⟨Nat.le_of_ble_eq_true rfl, Nat.le_of_ble_eq_true rfl⟩ rfl (cat_len (Nat.le_of_ble_eq_true rfl)) dX11_fact_34 ?_
  have hk_l0 := tk_ hts9.1 hk_l0
  show v_ l D cy ka cX11_fact RX11 7 (some FieldType.int) "fact" 4 85 (qf_ D cy σ0 z (some (.int r))) σ0 z _ 37 [(0, va_rf (some l0))] [.int x8]
  exact v_iret hf dX11_fact_37
/-- LivesAhead.fact(IIIZ)I -/
def f_X11_fact (σ : TH) (p0 : Nat) (p1 : Int32) (p2 : Int32) (p3 : Int32) (p4 : Int32) : Option (Int32 × TH) :=
  gt_ (kd_ σ p0 = 13) <| bd_ (f_X11_personAt σ p0 p1) fun r1 s2 => oc_ r1 (bd_ (f_X11_refused s2 p0 (1 : Int32)) fun x4 s5 => some (x4, s5)) (fun a3 => bd_ (f_X11_isKind s2 p2) fun x6 s7 => if x6 = 0 then (f_X11_fact_b32 s7 p0) else (bd_ (f_X11_isValue s7 p3) fun x10 s11 => if x10 = 0 then (f_X11_fact_b32 s11 p0) else (lt_ (fi_ s11 1211 p0) fun x12 => if x12 < (240 : Int32) then (lt_ (fi_ s11 1211 p0) fun x13 => lt_ (si_ s11 1211 p0 (x13 + (1 : Int32))) fun s14 => gt_ (kd_ s14 (nx_ s14) = 0) <| lt_ (nx_ s14) fun a15 => lt_ (nw_ s14 10 0 6) fun s16 => bd_ (f_X11_today s16 p0) fun x17 s18 => gt_ (kd_ s18 a3 = 4) <| lt_ (fr_ s18 309 a3) fun r19 => nn_ r19 fun a20 => gt_ (kd_ s18 a20 = 25) <| gt_ (¬ (p2 < 0 ∨ ln_ s18 a20 ≤ p2.toNatClampNeg)) <| lt_ (ar_ s18 a20 p2.toNatClampNeg) fun r21 => bd_ (f_X8_init s18 a15 p3 p4 x17 r21) fun x22 s23 => lt_ (fr_ s23 309 a3) fun r24 => nn_ r24 fun a25 => gt_ (kd_ s23 a25 = 25) <| gt_ (¬ (p2 < 0 ∨ ln_ s23 a25 ≤ p2.toNatClampNeg)) <| lt_ (sq_ s23 a25 p2.toNatClampNeg (some a15)) fun s26 => lt_ (fi_ s26 903 a15) fun x27 => bd_ (f_X11_granted s26 p0 x27) fun x28 s29 => some (x28, s29)) else (bd_ (f_X11_refused s11 p0 (3 : Int32)) fun x30 s31 => some (x30, s31)))))
set_option maxHeartbeats 4000000 in
set_option maxRecDepth 100000 in
theorem c_X11_fact {l : Launch} {D : va_G} {cy : Nat → ClassId} {ka : Nat → Nat} {σ z : TH} {p0 : Nat} {p1 : Int32} {p2 : Int32} {p3 : Int32} {p4 : Int32} {r : Int32} (hf : f_X11_fact σ p0 p1 p2 p3 p4 = some (r, z)) : ct_ l D cy ka yX11_fact 4 85 [va_rf (some p0), .int p1, .int p2, .int p3, .int p4] σ (some (.int r)) z := by
  unfold f_X11_fact at hf
  refine v_start (cc := cX11_fact) (own := RX11) (maxL := 7) (ret := (some FieldType.int)) (nm := "fact") (by decide +kernel) kw_574 rfl rfl (by simp [lg_sl, va_rf_cat, cat_i, cat_l]) ?_
  refine v_eqL (L2 := [(0, va_rf (some p0)), (1, .int p1), (2, .int p2), (3, .int p3), (4, .int p4)]) (by simp [lv_args, va_rf_cat, cat_i, cat_l]) ?_
  refine v_aload_n (x := (some p0)) dX11_fact_0 rfl 0 rfl ?_
  refine v_iload_n (x := p1) dX11_fact_1 rfl 1 rfl ?_
  obtain ⟨hk_p0, hf⟩ := gt_of hf
  obtain ⟨r1, s2, hcs2, hf⟩ := bd_of hf
  have hts2 := c_X11_personAt (l := l) (D := D) (cy := cy) (ka := ka) hcs2
  refine v_callV cb_12 hk_p0 (As := [.int p1]) (rest := []) hts2 yb_X11_personAt kw_526 kw_528 kp_11 rfl ⟨Nat.le_of_ble_eq_true rfl, Nat.le_of_ble_eq_true rfl⟩ rfl (cat_len (Nat.le_of_ble_eq_true rfl)) dX11_fact_2 ?_
  have hk_p0 := tk_ hts2.1 hk_p0
  show v_ l D cy ka cX11_fact RX11 7 (some FieldType.int) "fact" 4 85 (qf_ D cy σ z (some (.int r))) σ z _ 5 [(0, va_rf (some p0)), (1, .int p1), (2, .int p2), (3, .int p3), (4, .int p4)] [va_rf r1]
  refine v_astore [(5, va_rf r1), (0, va_rf (some p0)), (1, .int p1), (2, .int p2), (3, .int p3), (4, .int p4)] dX11_fact_5 (by decide) rfl ?_
  refine v_aload (x := r1) dX11_fact_7 0 rfl ?_
  refine v_ifnonnull2 (tgt := 18) hf dX11_fact_9 (by decide) (fun e9 hf9 => ?_) (fun a3 e9 hf9 => ?_)
  · subst e9
    replace hf := hf9
    clear hf9
    refine v_aload_n (x := (some p0)) dX11_fact_12 rfl 1 rfl ?_
    refine v_iconst (v := 1) dX11_fact_13 (by decide) ?_
    obtain ⟨x4, s5, hcs5, hf⟩ := bd_of hf
    have hts5 := c_X11_refused (l := l) (D := D) (cy := cy) (ka := ka) hcs5
    refine v_callV cb_12 hk_p0 (As := [.int (1 : Int32)]) (rest := []) hts5 yb_X11_refused kw_307 kw_309 kp_0 rfl ⟨Nat.le_of_ble_eq_true rfl, Nat.le_of_ble_eq_true rfl⟩ rfl (cat_len (Nat.le_of_ble_eq_true rfl)) dX11_fact_14 ?_
    have hk_p0 := tk_ hts5.1 hk_p0
    show v_ l D cy ka cX11_fact RX11 7 (some FieldType.int) "fact" 4 85 (qf_ D cy σ z (some (.int r))) σ z _ 17 [(5, va_rf none), (0, va_rf (some p0)), (1, .int p1), (2, .int p2), (3, .int p3), (4, .int p4)] [.int x4]
    exact v_iret hf dX11_fact_17
  · subst e9
    replace hf := hf9
    clear hf9
    refine v_iload_n (x := p2) dX11_fact_18 rfl 3 rfl ?_
    obtain ⟨x6, s7, hcs7, hf⟩ := bd_of hf
    have hts7 := c_X11_isKind (l := l) (D := D) (cy := cy) (ka := ka) hcs7
    refine v_callS (As := [.int p2]) (rest := []) hts7 yb_X11_isKind kw_568 kw_569 rfl ⟨Nat.le_of_ble_eq_true rfl, Nat.le_of_ble_eq_true rfl⟩ rfl (cat_len (Nat.le_of_ble_eq_true rfl)) dX11_fact_19 ?_
    have hk_p0 := tk_ hts7.1 hk_p0
    show v_ l D cy ka cX11_fact RX11 7 (some FieldType.int) "fact" 4 85 (qf_ D cy σ z (some (.int r))) σ z _ 22 [(5, va_rf (some a3)), (0, va_rf (some p0)), (1, .int p1), (2, .int p2), (3, .int p3), (4, .int p4)] [.int x6]
    refine v_if_eq (tgt := 32) hf dX11_fact_22 (by decide) (fun hq hf => ?_) (fun hq hf => ?_)
    · refine v_sub [1] (L2 := [(0, va_rf (some p0))]) rfl ?_
      exact t_X11_fact_b32  hf
    · refine v_iload_n (x := p3) dX11_fact_25 rfl 4 rfl ?_
      obtain ⟨x10, s11, hcs11, hf⟩ := bd_of hf
      have hts11 := c_X11_isValue (l := l) (D := D) (cy := cy) (ka := ka) hcs11
      refine v_callS (As := [.int p3]) (rest := []) hts11 yb_X11_isValue kw_575 kw_576 rfl ⟨Nat.le_of_ble_eq_true rfl, Nat.le_of_ble_eq_true rfl⟩ rfl (cat_len (Nat.le_of_ble_eq_true rfl)) dX11_fact_26 ?_
      have hk_p0 := tk_ hts11.1 hk_p0
      show v_ l D cy ka cX11_fact RX11 7 (some FieldType.int) "fact" 4 85 (qf_ D cy σ z (some (.int r))) σ z _ 29 [(5, va_rf (some a3)), (0, va_rf (some p0)), (1, .int p1), (2, .int p2), (3, .int p3), (4, .int p4)] [.int x10]
      refine v_if_ne (tgt := 38) hf dX11_fact_29 (by decide) (fun hq hf => ?_) (fun hq hf => ?_)
      · refine v_sub [1] (L2 := [(0, va_rf (some p0))]) rfl ?_
        exact t_X11_fact_b32  hf
      · refine v_aload_n (x := (some p0)) dX11_fact_38 rfl 1 rfl ?_
        refine v_geti cb_12 hk_p0 11 1211 rfl (by decide) rfl (lk_n kw_250 rfl) hf dX11_fact_39 (fun x12 hf => ?_)
        refine v_sipush (v := 240) dX11_fact_42 (by decide) ?_
        refine v_icmp_lt (tgt := 54) hf dX11_fact_45 (by decide) (fun hq hf => ?_) (fun hq hf => ?_)
        · refine v_aload_n (x := (some p0)) dX11_fact_54 rfl 1 rfl ?_
          refine v_dup dX11_fact_55 (va_rf_cat _) ?_
          refine v_geti cb_12 hk_p0 11 1211 rfl (by decide) rfl (lk_n kw_250 rfl) hf dX11_fact_56 (fun x13 hf => ?_)
          refine v_iconst (v := 1) dX11_fact_59 (by decide) ?_
          refine v_iadd dX11_fact_60 ?_
          refine v_puti2 cb_12 hk_p0 11 1211 rfl (by decide) rfl (lk_n kw_250 rfl) (Or.inl rfl) rfl rfl hf dX11_fact_61 (fun s14 hts14 hf => ?_)
          have hk_p0 := tk_ hts14 hk_p0
          refine v_new2 cb_9 df_9 kw_578 kw_579 kw_22 10 rfl hf dX11_fact_64 (fun a15 s16 hts16 hk_a15 hf => ?_)
          have hk_p0 := tk_ hts16 hk_p0
          refine v_dup dX11_fact_67 (va_rf_cat _) ?_
          refine v_iload_n (x := p3) dX11_fact_68 rfl 4 rfl ?_
          refine v_iload (x := p4) dX11_fact_69 5 rfl ?_
          refine v_aload_n (x := (some p0)) dX11_fact_71 rfl 1 rfl ?_
          obtain ⟨x17, s18, hcs18, hf⟩ := bd_of hf
          have hts18 := c_X11_today (l := l) (D := D) (cy := cy) (ka := ka) hcs18
          refine v_callV cb_12 hk_p0 (As := []) (rest := [.int p4, .int p3, va_rf (some a15), va_rf (some a15)]) hts18 yb_X11_today kw_538 kw_540 kp_13 rfl ⟨Nat.le_of_ble_eq_true rfl, Nat.le_of_ble_eq_true rfl⟩ rfl (cat_len (Nat.le_of_ble_eq_true rfl)) dX11_fact_72 ?_
          have hk_p0 := tk_ hts18.1 hk_p0
          have hk_a15 := tk_ hts18.1 hk_a15
          show v_ l D cy ka cX11_fact RX11 7 (some FieldType.int) "fact" 4 85 (qf_ D cy σ z (some (.int r))) σ z _ 75 [(5, va_rf (some a3)), (0, va_rf (some p0)), (1, .int p1), (2, .int p2), (3, .int p3), (4, .int p4)] [.int x17, .int p4, .int p3, va_rf (some a15), va_rf (some a15)]
          refine v_aload (x := (some a3)) dX11_fact_75 0 rfl ?_
          obtain ⟨hk_a3, hf⟩ := gt_of hf
          refine v_getr cb_3 hk_a3 9 309 rfl (by decide) rfl (lk_n kw_484 rfl) hf dX11_fact_77 (fun r19 hf => ?_)
          refine v_iload_n (x := p2) dX11_fact_80 rfl 3 rfl ?_
          obtain ⟨a20, rfl, hf⟩ := nn_of hf
          obtain ⟨hk_a20, hf⟩ := gt_of hf
          refine v_aald 24 5 RX8 hk_a20 (by decide) rfl hf dX11_fact_81 (fun r21 hf => ?_)
          obtain ⟨x22, s23, hcs23, hf⟩ := bd_of hf
          have hts23 := c_X8_init (l := l) (D := D) (cy := cy) (ka := ka) hcs23
          refine v_callI (As := [.int p3, .int p4, .int x17, va_rf r21]) (rest := [va_rf (some a15)]) hts23 yb_X8_init kw_580 kw_581 rfl rfl ⟨Nat.le_of_ble_eq_true rfl, Nat.le_of_ble_eq_true rfl⟩ rfl (cat_len (Nat.le_of_ble_eq_true rfl)) dX11_fact_82 ?_
          have hk_p0 := tk_ hts23.1 hk_p0
          have hk_a15 := tk_ hts23.1 hk_a15
          have hk_a3 := tk_ hts23.1 hk_a3
          show v_ l D cy ka cX11_fact RX11 7 (some FieldType.int) "fact" 4 85 (qf_ D cy σ z (some (.int r))) σ z _ 85 [(5, va_rf (some a3)), (0, va_rf (some p0)), (1, .int p1), (2, .int p2), (3, .int p3), (4, .int p4)] [va_rf (some a15)]
          refine v_astore [(6, va_rf (some a15)), (5, va_rf (some a3)), (0, va_rf (some p0)), (1, .int p1), (2, .int p2), (3, .int p3), (4, .int p4)] dX11_fact_85 (by decide) rfl ?_
          refine v_aload (x := (some a3)) dX11_fact_87 1 rfl ?_
          refine v_getr cb_3 hk_a3 9 309 rfl (by decide) rfl (lk_n kw_484 rfl) hf dX11_fact_89 (fun r24 hf => ?_)
          refine v_iload_n (x := p2) dX11_fact_92 rfl 4 rfl ?_
          refine v_aload (x := (some a15)) dX11_fact_93 0 rfl ?_
          obtain ⟨a25, rfl, hf⟩ := nn_of hf
          obtain ⟨hk_a25, hf⟩ := gt_of hf
          refine v_aast2 cb_9 hk_a15 24 5 RX8 hk_a25 (by decide) rfl (Or.inl rfl) hf dX11_fact_95 (fun s26 hts26 hf => ?_)
          have hk_p0 := tk_ hts26 hk_p0
          have hk_a15 := tk_ hts26 hk_a15
          have hk_a3 := tk_ hts26 hk_a3
          refine v_aload_n (x := (some p0)) dX11_fact_96 rfl 2 rfl ?_
          refine v_aload (x := (some a15)) dX11_fact_97 0 rfl ?_
          refine v_geti cb_9 hk_a15 3 903 rfl (by decide) rfl (lk_n kw_592 rfl) hf dX11_fact_99 (fun x27 hf => ?_)
          obtain ⟨x28, s29, hcs29, hf⟩ := bd_of hf
          have hts29 := c_X11_granted (l := l) (D := D) (cy := cy) (ka := ka) hcs29
          refine v_callV cb_12 hk_p0 (As := [.int x27]) (rest := []) hts29 yb_X11_granted kw_395 kw_397 kp_4 rfl ⟨Nat.le_of_ble_eq_true rfl, Nat.le_of_ble_eq_true rfl⟩ rfl (cat_len (Nat.le_of_ble_eq_true rfl)) dX11_fact_102 ?_
          have hk_p0 := tk_ hts29.1 hk_p0
          have hk_a15 := tk_ hts29.1 hk_a15
          have hk_a3 := tk_ hts29.1 hk_a3
          show v_ l D cy ka cX11_fact RX11 7 (some FieldType.int) "fact" 4 85 (qf_ D cy σ z (some (.int r))) σ z _ 105 [(6, va_rf (some a15)), (5, va_rf (some a3)), (0, va_rf (some p0)), (1, .int p1), (2, .int p2), (3, .int p3), (4, .int p4)] [.int x28]
          exact v_iret hf dX11_fact_105
        · refine v_aload_n (x := (some p0)) dX11_fact_48 rfl 1 rfl ?_
          refine v_iconst (v := 3) dX11_fact_49 (by decide) ?_
          obtain ⟨x30, s31, hcs31, hf⟩ := bd_of hf
          have hts31 := c_X11_refused (l := l) (D := D) (cy := cy) (ka := ka) hcs31
          refine v_callV cb_12 hk_p0 (As := [.int (3 : Int32)]) (rest := []) hts31 yb_X11_refused kw_307 kw_309 kp_0 rfl ⟨Nat.le_of_ble_eq_true rfl, Nat.le_of_ble_eq_true rfl⟩ rfl (cat_len (Nat.le_of_ble_eq_true rfl)) dX11_fact_50 ?_
          have hk_p0 := tk_ hts31.1 hk_p0
          show v_ l D cy ka cX11_fact RX11 7 (some FieldType.int) "fact" 4 85 (qf_ D cy σ z (some (.int r))) σ z _ 53 [(5, va_rf (some a3)), (0, va_rf (some p0)), (1, .int p1), (2, .int p2), (3, .int p3), (4, .int p4)] [.int x30]
          exact v_iret hf dX11_fact_53
theorem dX11_personOf_0 : decode cX11_personOf 0 = .ok (.aload_n 1, 1) := by decide +kernel
theorem dX11_personOf_1 : decode cX11_personOf 1 = .ok (.getfield 485, 3) := by decide +kernel
theorem dX11_personOf_4 : decode cX11_personOf 4 = .ok (.iconst (-1), 1) := by decide +kernel
theorem dX11_personOf_5 : decode cX11_personOf 5 = .ok (.if_icmp .eq 8, 3) := by decide +kernel
theorem dX11_personOf_8 : decode cX11_personOf 8 = .ok (.aload_n 1, 1) := by decide +kernel
theorem dX11_personOf_9 : decode cX11_personOf 9 = .ok (.getfield 485, 3) := by decide +kernel
theorem dX11_personOf_12 : decode cX11_personOf 12 = .ok (.ireturn, 1) := by decide +kernel
theorem dX11_personOf_13 : decode cX11_personOf 13 = .ok (.bipush (-2), 2) := by decide +kernel
theorem dX11_personOf_15 : decode cX11_personOf 15 = .ok (.istore_n 2, 1) := by decide +kernel
theorem dX11_personOf_16 : decode cX11_personOf 16 = .ok (.iconst 0, 1) := by decide +kernel
theorem dX11_personOf_17 : decode cX11_personOf 17 = .ok (.istore_n 3, 1) := by decide +kernel
theorem dX11_personOf_18 : decode cX11_personOf 18 = .ok (.iload_n 3, 1) := by decide +kernel
theorem dX11_personOf_19 : decode cX11_personOf 19 = .ok (.aload_n 0, 1) := by decide +kernel
theorem dX11_personOf_20 : decode cX11_personOf 20 = .ok (.getfield 16, 3) := by decide +kernel
theorem dX11_personOf_23 : decode cX11_personOf 23 = .ok (.invokevirtual 101, 3) := by decide +kernel
theorem dX11_personOf_26 : decode cX11_personOf 26 = .ok (.if_icmp .ge 38, 3) := by decide +kernel
theorem dX11_personOf_29 : decode cX11_personOf 29 = .ok (.aload_n 1, 1) := by decide +kernel
theorem dX11_personOf_30 : decode cX11_personOf 30 = .ok (.aload_n 0, 1) := by decide +kernel
theorem dX11_personOf_31 : decode cX11_personOf 31 = .ok (.getfield 16, 3) := by decide +kernel
theorem dX11_personOf_34 : decode cX11_personOf 34 = .ok (.iload_n 3, 1) := by decide +kernel
theorem dX11_personOf_35 : decode cX11_personOf 35 = .ok (.invokevirtual 238, 3) := by decide +kernel
theorem dX11_personOf_38 : decode cX11_personOf 38 = .ok (.checkcast 144, 3) := by decide +kernel
theorem dX11_personOf_41 : decode cX11_personOf 41 = .ok (.invokevirtual 486, 3) := by decide +kernel
theorem dX11_personOf_44 : decode cX11_personOf 44 = .ok (.ifCond .eq 14, 3) := by decide +kernel
theorem dX11_personOf_47 : decode cX11_personOf 47 = .ok (.iload_n 2, 1) := by decide +kernel
theorem dX11_personOf_48 : decode cX11_personOf 48 = .ok (.bipush (-2), 2) := by decide +kernel
theorem dX11_personOf_50 : decode cX11_personOf 50 = .ok (.if_icmp .eq 6, 3) := by decide +kernel
theorem dX11_personOf_53 : decode cX11_personOf 53 = .ok (.bipush (-3), 2) := by decide +kernel
theorem dX11_personOf_55 : decode cX11_personOf 55 = .ok (.ireturn, 1) := by decide +kernel
theorem dX11_personOf_56 : decode cX11_personOf 56 = .ok (.iload_n 3, 1) := by decide +kernel
theorem dX11_personOf_57 : decode cX11_personOf 57 = .ok (.istore_n 2, 1) := by decide +kernel
theorem dX11_personOf_58 : decode cX11_personOf 58 = .ok (.iinc 3 1, 3) := by decide +kernel
theorem dX11_personOf_61 : decode cX11_personOf 61 = .ok (.goto (-43), 3) := by decide +kernel
theorem dX11_personOf_64 : decode cX11_personOf 64 = .ok (.iload_n 2, 1) := by decide +kernel
theorem dX11_personOf_65 : decode cX11_personOf 65 = .ok (.ireturn, 1) := by decide +kernel
def f_X11_personOf_b58 (rec_18 : TH → Nat → Option Nat → Int32 → Int32 → Option (Int32 × TH)) (σ : TH) (l0 : Nat) (l1 : Option Nat) (l2 : Int32) (l3 : Int32) : Option (Int32 × TH) :=
  lt_ (l3 + 1) fun x14 => rec_18 σ l0 l1 l2 x14
set_option maxHeartbeats 4000000 in
set_option maxRecDepth 100000 in
theorem t_X11_personOf_b58 {l : Launch} {D : va_G} {cy : Nat → ClassId} {ka : Nat → Nat} {σ0 z : TH} {r : Int32} {rec_18 : TH → Nat → Option Nat → Int32 → Int32 → Option (Int32 × TH)} (hrec_18 : ∀ (σ : TH) (l0 : Nat) (l1 : Option Nat) (l2 : Int32) (l3 : Int32), rec_18 σ l0 l1 l2 l3 = some (r, z) → v_ l D cy ka cX11_personOf RX11 4 (some FieldType.int) "personOf" 3 64 (qf_ D cy σ0 z (some (.int r))) σ0 z σ 18 [(0, va_rf (some l0)), (1, va_rf l1), (2, .int l2), (3, .int l3)] []) {σ : TH} {l0 : Nat} {l1 : Option Nat} {l2 : Int32} {l3 : Int32} (hf : f_X11_personOf_b58 rec_18 σ l0 l1 l2 l3 = some (r, z)) : v_ l D cy ka cX11_personOf RX11 4 (some FieldType.int) "personOf" 3 64 (qf_ D cy σ0 z (some (.int r))) σ0 z σ 58 [(0, va_rf (some l0)), (1, va_rf l1), (2, .int l2), (3, .int l3)] [] := by
  unfold f_X11_personOf_b58 at hf
  obtain ⟨x14, ex14⟩ : ∃ y : Int32, y = l3 + 1 := ⟨_, rfl⟩
  rw [lt_e, ← ex14] at hf
  refine v_iinc (v := x14) [(3, .int x14), (0, va_rf (some l0)), (1, va_rf l1), (2, .int l2)] dX11_personOf_58 3 rfl (by rw [ex14]; rfl) (by decide) rfl ?_
  refine v_goto (tgt := 18) dX11_personOf_61 (by decide) ?_
  refine v_sub [1, 2, 3, 0] (L2 := [(0, va_rf (some l0)), (1, va_rf l1), (2, .int l2), (3, .int x14)]) rfl ?_
  exact hrec_18 _ _ _ _ _ hf
def f_X11_personOf_b18 : Nat → TH → Nat → Option Nat → Int32 → Int32 → Option (Int32 × TH)
  | 0, _, _, _, _, _ => none
  | n + 1, σ, l0, l1, l2, l3 => gt_ (kd_ σ l0 = 13) <| lt_ (fr_ σ 1201 l0) fun r3 => nn_ r3 fun a4 => gt_ (kd_ σ a4 = 1) <| bd_ (f_Jx4a65c_size_8abf5 σ a4) fun x5 s6 => if x5 ≤ l3 then (some (l2, s6)) else (lt_ (fr_ s6 1201 l0) fun r7 => nn_ r7 fun a8 => gt_ (kd_ s6 a8 = 1) <| bd_ (f_Jx4a65c_get_915e3 s6 a8 l3) fun r9 s10 => gt_ (Option.elim r9 4 (kd_ s10) = 4) <| nn_ l1 fun a11 => gt_ (kd_ s10 a11 = 9) <| bd_ (f_X7_suits s10 a11 r9) fun x12 s13 => if x12 = 0 then (f_X11_personOf_b58 (f_X11_personOf_b18 n) s13 l0 (some a11) l2 l3) else (if l2 = (-2 : Int32) then (f_X11_personOf_b58 (f_X11_personOf_b18 n) s13 l0 (some a11) l3 l3) else (some ((-3 : Int32), s13))))
set_option maxHeartbeats 4000000 in
set_option maxRecDepth 100000 in
theorem t_X11_personOf_b18 {l : Launch} {D : va_G} {cy : Nat → ClassId} {ka : Nat → Nat} {σ0 z : TH} {r : Int32}  : ∀ (n : Nat) (σ : TH) (l0 : Nat) (l1 : Option Nat) (l2 : Int32) (l3 : Int32), f_X11_personOf_b18 n σ l0 l1 l2 l3 = some (r, z) → v_ l D cy ka cX11_personOf RX11 4 (some FieldType.int) "personOf" 3 64 (qf_ D cy σ0 z (some (.int r))) σ0 z σ 18 [(0, va_rf (some l0)), (1, va_rf l1), (2, .int l2), (3, .int l3)] [] := by
  intro n
  induction n with
  | zero => intro σ l0 l1 l2 l3 hf; unfold f_X11_personOf_b18 at hf; cases hf
  | succ n ih =>
    intro σ l0 l1 l2 l3 hf
    unfold f_X11_personOf_b18 at hf
    have hrec_18 := ih
    refine v_iload_n (x := l3) dX11_personOf_18 rfl 3 rfl ?_
    refine v_aload_n (x := (some l0)) dX11_personOf_19 rfl 0 rfl ?_
    obtain ⟨hk_l0, hf⟩ := gt_of hf
    refine v_getr cb_12 hk_l0 1 1201 rfl (by decide) rfl (lk_n kw_240 rfl) hf dX11_personOf_20 (fun r3 hf => ?_)
    obtain ⟨a4, rfl, hf⟩ := nn_of hf
    obtain ⟨hk_a4, hf⟩ := gt_of hf
    obtain ⟨x5, s6, hcs6, hf⟩ := bd_of hf
    have hts6 := c_Jx4a65c_size_8abf5 (l := l) (D := D) (cy := cy) (ka := ka) hcs6
    refine v_callV cb_0 hk_a4 (As := []) (rest := [.int l3]) hts6 yb_Jx4a65c_size_8abf5 kw_311 kw_312 kw_313 rfl ⟨Nat.le_of_ble_eq_true rfl, Nat.le_of_ble_eq_true rfl⟩ rfl (cat_len (Nat.le_of_ble_eq_true rfl)) dX11_personOf_23 ?_
    have hk_l0 := tk_ hts6.1 hk_l0
    show v_ l D cy ka cX11_personOf RX11 4 (some FieldType.int) "personOf" 3 64 (qf_ D cy σ0 z (some (.int r))) σ0 z _ 26 [(0, va_rf (some l0)), (1, va_rf l1), (2, .int l2), (3, .int l3)] [.int x5, .int l3]
    refine v_icmp_ge (tgt := 64) hf dX11_personOf_26 (by decide) (fun hq hf => ?_) (fun hq hf => ?_)
    · refine v_iload_n (x := l2) dX11_personOf_64 rfl 2 rfl ?_
      exact v_iret hf dX11_personOf_65
    · refine v_aload_n (x := l1) dX11_personOf_29 rfl 1 rfl ?_
      refine v_aload_n (x := (some l0)) dX11_personOf_30 rfl 0 rfl ?_
      refine v_getr cb_12 hk_l0 1 1201 rfl (by decide) rfl (lk_n kw_240 rfl) hf dX11_personOf_31 (fun r7 hf => ?_)
      refine v_iload_n (x := l3) dX11_personOf_34 rfl 3 rfl ?_
      obtain ⟨a8, rfl, hf⟩ := nn_of hf
      obtain ⟨hk_a8, hf⟩ := gt_of hf
      obtain ⟨r9, s10, hcs10, hf⟩ := bd_of hf
      have hts10 := c_Jx4a65c_get_915e3 (l := l) (D := D) (cy := cy) (ka := ka) hcs10
      refine v_callV cb_0 hk_a8 (As := [.int l3]) (rest := [va_rf l1]) hts10 yb_Jx4a65c_get_915e3 kw_407 kw_408 kw_409 rfl ⟨Nat.le_of_ble_eq_true rfl, Nat.le_of_ble_eq_true rfl⟩ rfl (cat_len (Nat.le_of_ble_eq_true rfl)) dX11_personOf_35 ?_
      have hk_l0 := tk_ hts10.1 hk_l0
      show v_ l D cy ka cX11_personOf RX11 4 (some FieldType.int) "personOf" 3 64 (qf_ D cy σ0 z (some (.int r))) σ0 z _ 38 [(0, va_rf (some l0)), (1, va_rf l1), (2, .int l2), (3, .int l3)] [va_rf r9, va_rf l1]
      refine v_cast cb_3 4 rfl kw_441 hf dX11_personOf_38 (fun hf => ?_)
      obtain ⟨a11, rfl, hf⟩ := nn_of hf
      obtain ⟨hk_a11, hf⟩ := gt_of hf
      obtain ⟨x12, s13, hcs13, hf⟩ := bd_of hf
      have hts13 := c_X7_suits (l := l) (D := D) (cy := cy) (ka := ka) hcs13
      refine v_callV cb_8 hk_a11 (As := [va_rf r9]) (rest := []) hts13 yb_X7_suits kw_1060 kw_1061 kw_1062 rfl ⟨Nat.le_of_ble_eq_true rfl, Nat.le_of_ble_eq_true rfl⟩ rfl (cat_len (Nat.le_of_ble_eq_true rfl)) dX11_personOf_41 ?_
      have hk_l0 := tk_ hts13.1 hk_l0
      have hk_a11 := tk_ hts13.1 hk_a11
      show v_ l D cy ka cX11_personOf RX11 4 (some FieldType.int) "personOf" 3 64 (qf_ D cy σ0 z (some (.int r))) σ0 z _ 44 [(0, va_rf (some l0)), (1, va_rf (some a11)), (2, .int l2), (3, .int l3)] [.int x12]
      refine v_if_eq (tgt := 58) hf dX11_personOf_44 (by decide) (fun hq hf => ?_) (fun hq hf => ?_)
      · refine v_sub [0, 1, 2, 3] (L2 := [(0, va_rf (some l0)), (1, va_rf (some a11)), (2, .int l2), (3, .int l3)]) rfl ?_
        exact t_X11_personOf_b58 hrec_18 hf
      · refine v_iload_n (x := l2) dX11_personOf_47 rfl 2 rfl ?_
        refine v_bipush (v := (-2)) dX11_personOf_48 (by decide) ?_
        refine v_icmp_eq (tgt := 56) hf dX11_personOf_50 (by decide) (fun hq hf => ?_) (fun hq hf => ?_)
        · refine v_iload_n (x := l3) dX11_personOf_56 rfl 3 rfl ?_
          refine v_istore_n [(2, .int l3), (0, va_rf (some l0)), (1, va_rf (some a11)), (3, .int l3)] dX11_personOf_57 rfl (by decide) rfl ?_
          refine v_sub [1, 2, 0, 3] (L2 := [(0, va_rf (some l0)), (1, va_rf (some a11)), (2, .int l3), (3, .int l3)]) rfl ?_
          exact t_X11_personOf_b58 hrec_18 hf
        · refine v_bipush (v := (-3)) dX11_personOf_53 (by decide) ?_
          exact v_iret hf dX11_personOf_55
/-- LivesAhead.personOf(LLivesAhead$Report;)I -/
def f_X11_personOf (σ : TH) (p0 : Nat) (p1 : Option Nat) : Option (Int32 × TH) :=
  nn_ p1 fun a1 => gt_ (kd_ σ a1 = 9) <| lt_ (fi_ σ 800 a1) fun x2 => if x2 = (-1 : Int32) then (f_X11_personOf_b18 fu_ σ p0 (some a1) (-2 : Int32) (0 : Int32)) else (lt_ (fi_ σ 800 a1) fun x15 => some (x15, σ))
set_option maxHeartbeats 4000000 in
set_option maxRecDepth 100000 in
theorem c_X11_personOf {l : Launch} {D : va_G} {cy : Nat → ClassId} {ka : Nat → Nat} {σ z : TH} {p0 : Nat} {p1 : Option Nat} {r : Int32} (hf : f_X11_personOf σ p0 p1 = some (r, z)) : ct_ l D cy ka yX11_personOf 3 64 [va_rf (some p0), va_rf p1] σ (some (.int r)) z := by
  unfold f_X11_personOf at hf
  refine v_start (cc := cX11_personOf) (own := RX11) (maxL := 4) (ret := (some FieldType.int)) (nm := "personOf") (by decide +kernel) kw_1059 rfl rfl (by simp [lg_sl, va_rf_cat, cat_i, cat_l]) ?_
  refine v_eqL (L2 := [(0, va_rf (some p0)), (1, va_rf p1)]) (by simp [lv_args, va_rf_cat, cat_i, cat_l]) ?_
  refine v_aload_n (x := p1) dX11_personOf_0 rfl 1 rfl ?_
  obtain ⟨a1, rfl, hf⟩ := nn_of hf
  obtain ⟨hk_a1, hf⟩ := gt_of hf
  refine v_geti cb_8 hk_a1 0 800 rfl (by decide) rfl (lk_n kw_1003 rfl) hf dX11_personOf_1 (fun x2 hf => ?_)
  refine v_iconst (v := (-1)) dX11_personOf_4 (by decide) ?_
  refine v_icmp_eq (tgt := 13) hf dX11_personOf_5 (by decide) (fun hq hf => ?_) (fun hq hf => ?_)
  · refine v_bipush (v := (-2)) dX11_personOf_13 (by decide) ?_
    refine v_istore_n [(2, .int (-2 : Int32)), (0, va_rf (some p0)), (1, va_rf (some a1))] dX11_personOf_15 rfl (by decide) rfl ?_
    refine v_iconst (v := 0) dX11_personOf_16 (by decide) ?_
    refine v_istore_n [(3, .int (0 : Int32)), (2, .int (-2 : Int32)), (0, va_rf (some p0)), (1, va_rf (some a1))] dX11_personOf_17 rfl (by decide) rfl ?_
    refine v_sub [2, 3, 1, 0] (L2 := [(0, va_rf (some p0)), (1, va_rf (some a1)), (2, .int (-2 : Int32)), (3, .int (0 : Int32))]) rfl ?_
    exact t_X11_personOf_b18  _ _ _ _ _ _ hf
  · refine v_aload_n (x := (some a1)) dX11_personOf_8 rfl 1 rfl ?_
    refine v_geti cb_8 hk_a1 0 800 rfl (by decide) rfl (lk_n kw_1003 rfl) hf dX11_personOf_9 (fun x15 hf => ?_)
    exact v_iret hf dX11_personOf_12
theorem dX11_fits_0 : decode cX11_fits 0 = .ok (.iload_n 1, 1) := by decide +kernel
theorem dX11_fits_1 : decode cX11_fits 1 = .ok (.iconst 0, 1) := by decide +kernel
theorem dX11_fits_2 : decode cX11_fits 2 = .ok (.aload_n 0, 1) := by decide +kernel
theorem dX11_fits_3 : decode cX11_fits 3 = .ok (.getfield 22, 3) := by decide +kernel
theorem dX11_fits_6 : decode cX11_fits 6 = .ok (.invokevirtual 101, 3) := by decide +kernel
theorem dX11_fits_9 : decode cX11_fits 9 = .ok (.iconst 1, 1) := by decide +kernel
theorem dX11_fits_10 : decode cX11_fits 10 = .ok (.isub, 1) := by decide +kernel
theorem dX11_fits_11 : decode cX11_fits 11 = .ok (.invokestatic 93, 3) := by decide +kernel
theorem dX11_fits_14 : decode cX11_fits 14 = .ok (.ifCond .ne 5, 3) := by decide +kernel
theorem dX11_fits_17 : decode cX11_fits 17 = .ok (.iconst (-1), 1) := by decide +kernel
theorem dX11_fits_18 : decode cX11_fits 18 = .ok (.ireturn, 1) := by decide +kernel
theorem dX11_fits_19 : decode cX11_fits 19 = .ok (.aload_n 0, 1) := by decide +kernel
theorem dX11_fits_20 : decode cX11_fits 20 = .ok (.aload_n 0, 1) := by decide +kernel
theorem dX11_fits_21 : decode cX11_fits 21 = .ok (.getfield 22, 3) := by decide +kernel
theorem dX11_fits_24 : decode cX11_fits 24 = .ok (.iload_n 1, 1) := by decide +kernel
theorem dX11_fits_25 : decode cX11_fits 25 = .ok (.invokevirtual 238, 3) := by decide +kernel
theorem dX11_fits_28 : decode cX11_fits 28 = .ok (.checkcast 331, 3) := by decide +kernel
theorem dX11_fits_31 : decode cX11_fits 31 = .ok (.invokevirtual 341, 3) := by decide +kernel
theorem dX11_fits_34 : decode cX11_fits 34 = .ok (.ireturn, 1) := by decide +kernel
/-- LivesAhead.fits(I)I -/
def f_X11_fits (σ : TH) (p0 : Nat) (p1 : Int32) : Option (Int32 × TH) :=
  gt_ (kd_ σ p0 = 13) <| lt_ (fr_ σ 1203 p0) fun r1 => nn_ r1 fun a2 => gt_ (kd_ σ a2 = 1) <| bd_ (f_Jx4a65c_size_8abf5 σ a2) fun x3 s4 => bd_ (f_X11_within s4 p1 (0 : Int32) (x3 - (1 : Int32))) fun x5 s6 => if x5 = 0 then (some ((-1 : Int32), s6)) else (lt_ (fr_ s6 1203 p0) fun r7 => nn_ r7 fun a8 => gt_ (kd_ s6 a8 = 1) <| bd_ (f_Jx4a65c_get_915e3 s6 a8 p1) fun r9 s10 => gt_ (Option.elim r9 9 (kd_ s10) = 9) <| bd_ (f_X11_personOf s10 p0 r9) fun x11 s12 => some (x11, s12))
set_option maxHeartbeats 4000000 in
set_option maxRecDepth 100000 in
theorem c_X11_fits {l : Launch} {D : va_G} {cy : Nat → ClassId} {ka : Nat → Nat} {σ z : TH} {p0 : Nat} {p1 : Int32} {r : Int32} (hf : f_X11_fits σ p0 p1 = some (r, z)) : ct_ l D cy ka yX11_fits 4 87 [va_rf (some p0), .int p1] σ (some (.int r)) z := by
  unfold f_X11_fits at hf
  refine v_start (cc := cX11_fits) (own := RX11) (maxL := 2) (ret := (some FieldType.int)) (nm := "fits") (by decide +kernel) kw_1055 rfl rfl (by simp [lg_sl, va_rf_cat, cat_i, cat_l]) ?_
  refine v_eqL (L2 := [(0, va_rf (some p0)), (1, .int p1)]) (by simp [lv_args, va_rf_cat, cat_i, cat_l]) ?_
  refine v_iload_n (x := p1) dX11_fits_0 rfl 1 rfl ?_
  refine v_iconst (v := 0) dX11_fits_1 (by decide) ?_
  refine v_aload_n (x := (some p0)) dX11_fits_2 rfl 0 rfl ?_
  obtain ⟨hk_p0, hf⟩ := gt_of hf
  refine v_getr cb_12 hk_p0 3 1203 rfl (by decide) rfl (lk_n kw_242 rfl) hf dX11_fits_3 (fun r1 hf => ?_)
  obtain ⟨a2, rfl, hf⟩ := nn_of hf
  obtain ⟨hk_a2, hf⟩ := gt_of hf
  obtain ⟨x3, s4, hcs4, hf⟩ := bd_of hf
  have hts4 := c_Jx4a65c_size_8abf5 (l := l) (D := D) (cy := cy) (ka := ka) hcs4
  refine v_callV cb_0 hk_a2 (As := []) (rest := [.int (0 : Int32), .int p1]) hts4 yb_Jx4a65c_size_8abf5 kw_311 kw_312 kw_313 rfl ⟨Nat.le_of_ble_eq_true rfl, Nat.le_of_ble_eq_true rfl⟩ rfl (cat_len (Nat.le_of_ble_eq_true rfl)) dX11_fits_6 ?_
  have hk_p0 := tk_ hts4.1 hk_p0
  show v_ l D cy ka cX11_fits RX11 2 (some FieldType.int) "fits" 4 87 (qf_ D cy σ z (some (.int r))) σ z _ 9 [(0, va_rf (some p0)), (1, .int p1)] [.int x3, .int (0 : Int32), .int p1]
  refine v_iconst (v := 1) dX11_fits_9 (by decide) ?_
  refine v_isub dX11_fits_10 ?_
  obtain ⟨x5, s6, hcs6, hf⟩ := bd_of hf
  have hts6 := c_X11_within (l := l) (D := D) (cy := cy) (ka := ka) hcs6
  refine v_callS (As := [.int p1, .int (0 : Int32), .int (x3 - (1 : Int32))]) (rest := []) hts6 yb_X11_within kw_304 kw_305 rfl ⟨Nat.le_of_ble_eq_true rfl, Nat.le_of_ble_eq_true rfl⟩ rfl (cat_len (Nat.le_of_ble_eq_true rfl)) dX11_fits_11 ?_
  have hk_p0 := tk_ hts6.1 hk_p0
  show v_ l D cy ka cX11_fits RX11 2 (some FieldType.int) "fits" 4 87 (qf_ D cy σ z (some (.int r))) σ z _ 14 [(0, va_rf (some p0)), (1, .int p1)] [.int x5]
  refine v_if_ne (tgt := 19) hf dX11_fits_14 (by decide) (fun hq hf => ?_) (fun hq hf => ?_)
  · refine v_iconst (v := (-1)) dX11_fits_17 (by decide) ?_
    exact v_iret hf dX11_fits_18
  · refine v_aload_n (x := (some p0)) dX11_fits_19 rfl 0 rfl ?_
    refine v_aload_n (x := (some p0)) dX11_fits_20 rfl 0 rfl ?_
    refine v_getr cb_12 hk_p0 3 1203 rfl (by decide) rfl (lk_n kw_242 rfl) hf dX11_fits_21 (fun r7 hf => ?_)
    refine v_iload_n (x := p1) dX11_fits_24 rfl 1 rfl ?_
    obtain ⟨a8, rfl, hf⟩ := nn_of hf
    obtain ⟨hk_a8, hf⟩ := gt_of hf
    obtain ⟨r9, s10, hcs10, hf⟩ := bd_of hf
    have hts10 := c_Jx4a65c_get_915e3 (l := l) (D := D) (cy := cy) (ka := ka) hcs10
    refine v_callV cb_0 hk_a8 (As := [.int p1]) (rest := [va_rf (some p0)]) hts10 yb_Jx4a65c_get_915e3 kw_407 kw_408 kw_409 rfl ⟨Nat.le_of_ble_eq_true rfl, Nat.le_of_ble_eq_true rfl⟩ rfl (cat_len (Nat.le_of_ble_eq_true rfl)) dX11_fits_25 ?_
    have hk_p0 := tk_ hts10.1 hk_p0
    show v_ l D cy ka cX11_fits RX11 2 (some FieldType.int) "fits" 4 87 (qf_ D cy σ z (some (.int r))) σ z _ 28 [(0, va_rf (some p0)), (1, .int p1)] [va_rf r9, va_rf (some p0)]
    refine v_cast cb_8 9 rfl kw_996 hf dX11_fits_28 (fun hf => ?_)
    obtain ⟨x11, s12, hcs12, hf⟩ := bd_of hf
    have hts12 := c_X11_personOf (l := l) (D := D) (cy := cy) (ka := ka) hcs12
    refine v_callV cb_12 hk_p0 (As := [va_rf r9]) (rest := []) hts12 yb_X11_personOf kw_1056 kw_1058 kp_59 rfl ⟨Nat.le_of_ble_eq_true rfl, Nat.le_of_ble_eq_true rfl⟩ rfl (cat_len (Nat.le_of_ble_eq_true rfl)) dX11_fits_31 ?_
    have hk_p0 := tk_ hts12.1 hk_p0
    show v_ l D cy ka cX11_fits RX11 2 (some FieldType.int) "fits" 4 87 (qf_ D cy σ z (some (.int r))) σ z _ 34 [(0, va_rf (some p0)), (1, .int p1)] [.int x11]
    exact v_iret hf dX11_fits_34
theorem dX11_fresh_0 : decode cX11_fresh 0 = .ok (.iload_n 1, 1) := by decide +kernel
theorem dX11_fresh_1 : decode cX11_fresh 1 = .ok (.iconst 0, 1) := by decide +kernel
theorem dX11_fresh_2 : decode cX11_fresh 2 = .ok (.aload_n 0, 1) := by decide +kernel
theorem dX11_fresh_3 : decode cX11_fresh 3 = .ok (.getfield 81, 3) := by decide +kernel
theorem dX11_fresh_6 : decode cX11_fresh 6 = .ok (.invokevirtual 101, 3) := by decide +kernel
theorem dX11_fresh_9 : decode cX11_fresh 9 = .ok (.iconst 1, 1) := by decide +kernel
theorem dX11_fresh_10 : decode cX11_fresh 10 = .ok (.isub, 1) := by decide +kernel
theorem dX11_fresh_11 : decode cX11_fresh 11 = .ok (.invokestatic 93, 3) := by decide +kernel
theorem dX11_fresh_14 : decode cX11_fresh 14 = .ok (.ifCond .eq 20, 3) := by decide +kernel
theorem dX11_fresh_17 : decode cX11_fresh 17 = .ok (.aload_n 0, 1) := by decide +kernel
theorem dX11_fresh_18 : decode cX11_fresh 18 = .ok (.getfield 81, 3) := by decide +kernel
theorem dX11_fresh_21 : decode cX11_fresh 21 = .ok (.iload_n 1, 1) := by decide +kernel
theorem dX11_fresh_22 : decode cX11_fresh 22 = .ok (.invokevirtual 238, 3) := by decide +kernel
theorem dX11_fresh_25 : decode cX11_fresh 25 = .ok (.checkcast 144, 3) := by decide +kernel
theorem dX11_fresh_28 : decode cX11_fresh 28 = .ok (.getfield 456, 3) := by decide +kernel
theorem dX11_fresh_31 : decode cX11_fresh 31 = .ok (.goto 4, 3) := by decide +kernel
theorem dX11_fresh_34 : decode cX11_fresh 34 = .ok (.iconst (-1), 1) := by decide +kernel
theorem dX11_fresh_35 : decode cX11_fresh 35 = .ok (.ireturn, 1) := by decide +kernel
def f_X11_fresh_b35 (σ : TH) (t0 : Int32) : Option (Int32 × TH) :=
  some (t0, σ)
set_option maxHeartbeats 4000000 in
set_option maxRecDepth 100000 in
theorem t_X11_fresh_b35 {l : Launch} {D : va_G} {cy : Nat → ClassId} {ka : Nat → Nat} {σ0 z : TH} {r : Int32}  {σ : TH} {t0 : Int32} (hf : f_X11_fresh_b35 σ t0 = some (r, z)) : v_ l D cy ka cX11_fresh RX11 2 (some FieldType.int) "fresh" 3 64 (qf_ D cy σ0 z (some (.int r))) σ0 z σ 35 [] [.int t0] := by
  unfold f_X11_fresh_b35 at hf
  exact v_iret hf dX11_fresh_35
/-- LivesAhead.fresh(I)I -/
def f_X11_fresh (σ : TH) (p0 : Nat) (p1 : Int32) : Option (Int32 × TH) :=
  gt_ (kd_ σ p0 = 13) <| lt_ (fr_ σ 1218 p0) fun r1 => nn_ r1 fun a2 => gt_ (kd_ σ a2 = 1) <| bd_ (f_Jx4a65c_size_8abf5 σ a2) fun x3 s4 => bd_ (f_X11_within s4 p1 (0 : Int32) (x3 - (1 : Int32))) fun x5 s6 => if x5 = 0 then (f_X11_fresh_b35 s6 (-1 : Int32)) else (lt_ (fr_ s6 1218 p0) fun r7 => nn_ r7 fun a8 => gt_ (kd_ s6 a8 = 1) <| bd_ (f_Jx4a65c_get_915e3 s6 a8 p1) fun r9 s10 => gt_ (Option.elim r9 4 (kd_ s10) = 4) <| nn_ r9 fun a11 => gt_ (kd_ s10 a11 = 4) <| lt_ (fi_ s10 300 a11) fun x12 => f_X11_fresh_b35 s10 x12)
set_option maxHeartbeats 4000000 in
set_option maxRecDepth 100000 in
theorem c_X11_fresh {l : Launch} {D : va_G} {cy : Nat → ClassId} {ka : Nat → Nat} {σ z : TH} {p0 : Nat} {p1 : Int32} {r : Int32} (hf : f_X11_fresh σ p0 p1 = some (r, z)) : ct_ l D cy ka yX11_fresh 3 64 [va_rf (some p0), .int p1] σ (some (.int r)) z := by
  unfold f_X11_fresh at hf
  refine v_start (cc := cX11_fresh) (own := RX11) (maxL := 2) (ret := (some FieldType.int)) (nm := "fresh") (by decide +kernel) kw_1309 rfl rfl (by simp [lg_sl, va_rf_cat, cat_i, cat_l]) ?_
  refine v_eqL (L2 := [(0, va_rf (some p0)), (1, .int p1)]) (by simp [lv_args, va_rf_cat, cat_i, cat_l]) ?_
  refine v_iload_n (x := p1) dX11_fresh_0 rfl 1 rfl ?_
  refine v_iconst (v := 0) dX11_fresh_1 (by decide) ?_
  refine v_aload_n (x := (some p0)) dX11_fresh_2 rfl 0 rfl ?_
  obtain ⟨hk_p0, hf⟩ := gt_of hf
  refine v_getr cb_12 hk_p0 18 1218 rfl (by decide) rfl (lk_n kw_257 rfl) hf dX11_fresh_3 (fun r1 hf => ?_)
  obtain ⟨a2, rfl, hf⟩ := nn_of hf
  obtain ⟨hk_a2, hf⟩ := gt_of hf
  obtain ⟨x3, s4, hcs4, hf⟩ := bd_of hf
  have hts4 := c_Jx4a65c_size_8abf5 (l := l) (D := D) (cy := cy) (ka := ka) hcs4
  refine v_callV cb_0 hk_a2 (As := []) (rest := [.int (0 : Int32), .int p1]) hts4 yb_Jx4a65c_size_8abf5 kw_311 kw_312 kw_313 rfl ⟨Nat.le_of_ble_eq_true rfl, Nat.le_of_ble_eq_true rfl⟩ rfl (cat_len (Nat.le_of_ble_eq_true rfl)) dX11_fresh_6 ?_
  have hk_p0 := tk_ hts4.1 hk_p0
  show v_ l D cy ka cX11_fresh RX11 2 (some FieldType.int) "fresh" 3 64 (qf_ D cy σ z (some (.int r))) σ z _ 9 [(0, va_rf (some p0)), (1, .int p1)] [.int x3, .int (0 : Int32), .int p1]
  refine v_iconst (v := 1) dX11_fresh_9 (by decide) ?_
  refine v_isub dX11_fresh_10 ?_
  obtain ⟨x5, s6, hcs6, hf⟩ := bd_of hf
  have hts6 := c_X11_within (l := l) (D := D) (cy := cy) (ka := ka) hcs6
  refine v_callS (As := [.int p1, .int (0 : Int32), .int (x3 - (1 : Int32))]) (rest := []) hts6 yb_X11_within kw_304 kw_305 rfl ⟨Nat.le_of_ble_eq_true rfl, Nat.le_of_ble_eq_true rfl⟩ rfl (cat_len (Nat.le_of_ble_eq_true rfl)) dX11_fresh_11 ?_
  have hk_p0 := tk_ hts6.1 hk_p0
  show v_ l D cy ka cX11_fresh RX11 2 (some FieldType.int) "fresh" 3 64 (qf_ D cy σ z (some (.int r))) σ z _ 14 [(0, va_rf (some p0)), (1, .int p1)] [.int x5]
  refine v_if_eq (tgt := 34) hf dX11_fresh_14 (by decide) (fun hq hf => ?_) (fun hq hf => ?_)
  · refine v_iconst (v := (-1)) dX11_fresh_34 (by decide) ?_
    refine v_sub [] (L2 := []) rfl ?_
    exact t_X11_fresh_b35  hf
  · refine v_aload_n (x := (some p0)) dX11_fresh_17 rfl 0 rfl ?_
    refine v_getr cb_12 hk_p0 18 1218 rfl (by decide) rfl (lk_n kw_257 rfl) hf dX11_fresh_18 (fun r7 hf => ?_)
    refine v_iload_n (x := p1) dX11_fresh_21 rfl 1 rfl ?_
    obtain ⟨a8, rfl, hf⟩ := nn_of hf
    obtain ⟨hk_a8, hf⟩ := gt_of hf
    obtain ⟨r9, s10, hcs10, hf⟩ := bd_of hf
    have hts10 := c_Jx4a65c_get_915e3 (l := l) (D := D) (cy := cy) (ka := ka) hcs10
    refine v_callV cb_0 hk_a8 (As := [.int p1]) (rest := []) hts10 yb_Jx4a65c_get_915e3 kw_407 kw_408 kw_409 rfl ⟨Nat.le_of_ble_eq_true rfl, Nat.le_of_ble_eq_true rfl⟩ rfl (cat_len (Nat.le_of_ble_eq_true rfl)) dX11_fresh_22 ?_
    have hk_p0 := tk_ hts10.1 hk_p0
    show v_ l D cy ka cX11_fresh RX11 2 (some FieldType.int) "fresh" 3 64 (qf_ D cy σ z (some (.int r))) σ z _ 25 [(0, va_rf (some p0)), (1, .int p1)] [va_rf r9]
    refine v_cast cb_3 4 rfl kw_441 hf dX11_fresh_25 (fun hf => ?_)
    obtain ⟨a11, rfl, hf⟩ := nn_of hf
    obtain ⟨hk_a11, hf⟩ := gt_of hf
    refine v_geti cb_3 hk_a11 0 300 rfl (by decide) rfl (lk_n kw_464 rfl) hf dX11_fresh_28 (fun x12 hf => ?_)
    refine v_goto (tgt := 35) dX11_fresh_31 (by decide) ?_
    refine v_sub [] (L2 := []) rfl ?_
    exact t_X11_fresh_b35  hf
theorem dX11_freshen_0 : decode cX11_freshen 0 = .ok (.iconst 0, 1) := by decide +kernel
theorem dX11_freshen_1 : decode cX11_freshen 1 = .ok (.istore_n 1, 1) := by decide +kernel
theorem dX11_freshen_2 : decode cX11_freshen 2 = .ok (.iconst 0, 1) := by decide +kernel
theorem dX11_freshen_3 : decode cX11_freshen 3 = .ok (.istore_n 2, 1) := by decide +kernel
theorem dX11_freshen_4 : decode cX11_freshen 4 = .ok (.iload_n 2, 1) := by decide +kernel
theorem dX11_freshen_5 : decode cX11_freshen 5 = .ok (.aload_n 0, 1) := by decide +kernel
theorem dX11_freshen_6 : decode cX11_freshen 6 = .ok (.getfield 81, 3) := by decide +kernel
theorem dX11_freshen_9 : decode cX11_freshen 9 = .ok (.invokevirtual 101, 3) := by decide +kernel
theorem dX11_freshen_12 : decode cX11_freshen 12 = .ok (.if_icmp .ge 27, 3) := by decide +kernel
theorem dX11_freshen_15 : decode cX11_freshen 15 = .ok (.iload_n 1, 1) := by decide +kernel
theorem dX11_freshen_16 : decode cX11_freshen 16 = .ok (.aload_n 0, 1) := by decide +kernel
theorem dX11_freshen_17 : decode cX11_freshen 17 = .ok (.aload_n 0, 1) := by decide +kernel
theorem dX11_freshen_18 : decode cX11_freshen 18 = .ok (.getfield 81, 3) := by decide +kernel
theorem dX11_freshen_21 : decode cX11_freshen 21 = .ok (.iload_n 2, 1) := by decide +kernel
theorem dX11_freshen_22 : decode cX11_freshen 22 = .ok (.invokevirtual 238, 3) := by decide +kernel
theorem dX11_freshen_25 : decode cX11_freshen 25 = .ok (.checkcast 144, 3) := by decide +kernel
theorem dX11_freshen_28 : decode cX11_freshen 28 = .ok (.invokevirtual 457, 3) := by decide +kernel
theorem dX11_freshen_31 : decode cX11_freshen 31 = .ok (.iadd, 1) := by decide +kernel
theorem dX11_freshen_32 : decode cX11_freshen 32 = .ok (.istore_n 1, 1) := by decide +kernel
theorem dX11_freshen_33 : decode cX11_freshen 33 = .ok (.iinc 2 1, 3) := by decide +kernel
theorem dX11_freshen_36 : decode cX11_freshen 36 = .ok (.goto (-32), 3) := by decide +kernel
theorem dX11_freshen_39 : decode cX11_freshen 39 = .ok (.iload_n 1, 1) := by decide +kernel
theorem dX11_freshen_40 : decode cX11_freshen 40 = .ok (.ireturn, 1) := by decide +kernel
def f_X11_freshen_b4 : Nat → TH → Nat → Int32 → Int32 → Option (Int32 × TH)
  | 0, _, _, _, _ => none
  | n + 1, σ, l0, l1, l2 => gt_ (kd_ σ l0 = 13) <| lt_ (fr_ σ 1218 l0) fun r1 => nn_ r1 fun a2 => gt_ (kd_ σ a2 = 1) <| bd_ (f_Jx4a65c_size_8abf5 σ a2) fun x3 s4 => if x3 ≤ l2 then (some (l1, s4)) else (lt_ (fr_ s4 1218 l0) fun r5 => nn_ r5 fun a6 => gt_ (kd_ s4 a6 = 1) <| bd_ (f_Jx4a65c_get_915e3 s4 a6 l2) fun r7 s8 => gt_ (Option.elim r7 4 (kd_ s8) = 4) <| bd_ (f_X11_checkStale s8 l0 r7) fun x9 s10 => lt_ (l1 + x9) fun x11 => lt_ (l2 + 1) fun x12 => (f_X11_freshen_b4 n) s10 l0 x11 x12)
set_option maxHeartbeats 4000000 in
set_option maxRecDepth 100000 in
theorem t_X11_freshen_b4 {l : Launch} {D : va_G} {cy : Nat → ClassId} {ka : Nat → Nat} {σ0 z : TH} {r : Int32}  : ∀ (n : Nat) (σ : TH) (l0 : Nat) (l1 : Int32) (l2 : Int32), f_X11_freshen_b4 n σ l0 l1 l2 = some (r, z) → v_ l D cy ka cX11_freshen RX11 3 (some FieldType.int) "freshen" 3 72 (qf_ D cy σ0 z (some (.int r))) σ0 z σ 4 [(0, va_rf (some l0)), (1, .int l1), (2, .int l2)] [] := by
  intro n
  induction n with
  | zero => intro σ l0 l1 l2 hf; unfold f_X11_freshen_b4 at hf; cases hf
  | succ n ih =>
    intro σ l0 l1 l2 hf
    unfold f_X11_freshen_b4 at hf
    have hrec_4 := ih
    refine v_iload_n (x := l2) dX11_freshen_4 rfl 2 rfl ?_
    refine v_aload_n (x := (some l0)) dX11_freshen_5 rfl 0 rfl ?_
    obtain ⟨hk_l0, hf⟩ := gt_of hf
    refine v_getr cb_12 hk_l0 18 1218 rfl (by decide) rfl (lk_n kw_257 rfl) hf dX11_freshen_6 (fun r1 hf => ?_)
    obtain ⟨a2, rfl, hf⟩ := nn_of hf
    obtain ⟨hk_a2, hf⟩ := gt_of hf
    obtain ⟨x3, s4, hcs4, hf⟩ := bd_of hf
    have hts4 := c_Jx4a65c_size_8abf5 (l := l) (D := D) (cy := cy) (ka := ka) hcs4
    refine v_callV cb_0 hk_a2 (As := []) (rest := [.int l2]) hts4 yb_Jx4a65c_size_8abf5 kw_311 kw_312 kw_313 rfl ⟨Nat.le_of_ble_eq_true rfl, Nat.le_of_ble_eq_true rfl⟩ rfl (cat_len (Nat.le_of_ble_eq_true rfl)) dX11_freshen_9 ?_
    have hk_l0 := tk_ hts4.1 hk_l0
    show v_ l D cy ka cX11_freshen RX11 3 (some FieldType.int) "freshen" 3 72 (qf_ D cy σ0 z (some (.int r))) σ0 z _ 12 [(0, va_rf (some l0)), (1, .int l1), (2, .int l2)] [.int x3, .int l2]
    refine v_icmp_ge (tgt := 39) hf dX11_freshen_12 (by decide) (fun hq hf => ?_) (fun hq hf => ?_)
    · refine v_iload_n (x := l1) dX11_freshen_39 rfl 1 rfl ?_
      exact v_iret hf dX11_freshen_40
    · refine v_iload_n (x := l1) dX11_freshen_15 rfl 1 rfl ?_
      refine v_aload_n (x := (some l0)) dX11_freshen_16 rfl 0 rfl ?_
      refine v_aload_n (x := (some l0)) dX11_freshen_17 rfl 0 rfl ?_
      refine v_getr cb_12 hk_l0 18 1218 rfl (by decide) rfl (lk_n kw_257 rfl) hf dX11_freshen_18 (fun r5 hf => ?_)
      refine v_iload_n (x := l2) dX11_freshen_21 rfl 2 rfl ?_
      obtain ⟨a6, rfl, hf⟩ := nn_of hf
      obtain ⟨hk_a6, hf⟩ := gt_of hf
      obtain ⟨r7, s8, hcs8, hf⟩ := bd_of hf
      have hts8 := c_Jx4a65c_get_915e3 (l := l) (D := D) (cy := cy) (ka := ka) hcs8
      refine v_callV cb_0 hk_a6 (As := [.int l2]) (rest := [va_rf (some l0), .int l1]) hts8 yb_Jx4a65c_get_915e3 kw_407 kw_408 kw_409 rfl ⟨Nat.le_of_ble_eq_true rfl, Nat.le_of_ble_eq_true rfl⟩ rfl (cat_len (Nat.le_of_ble_eq_true rfl)) dX11_freshen_22 ?_
      have hk_l0 := tk_ hts8.1 hk_l0
      show v_ l D cy ka cX11_freshen RX11 3 (some FieldType.int) "freshen" 3 72 (qf_ D cy σ0 z (some (.int r))) σ0 z _ 25 [(0, va_rf (some l0)), (1, .int l1), (2, .int l2)] [va_rf r7, va_rf (some l0), .int l1]
      refine v_cast cb_3 4 rfl kw_441 hf dX11_freshen_25 (fun hf => ?_)
      obtain ⟨x9, s10, hcs10, hf⟩ := bd_of hf
      have hts10 := c_X11_checkStale (l := l) (D := D) (cy := cy) (ka := ka) hcs10
      refine v_callV cb_12 hk_l0 (As := [va_rf r7]) (rest := [.int l1]) hts10 yb_X11_checkStale kw_1318 kw_1320 kp_73 rfl ⟨Nat.le_of_ble_eq_true rfl, Nat.le_of_ble_eq_true rfl⟩ rfl (cat_len (Nat.le_of_ble_eq_true rfl)) dX11_freshen_28 ?_
      have hk_l0 := tk_ hts10.1 hk_l0
      show v_ l D cy ka cX11_freshen RX11 3 (some FieldType.int) "freshen" 3 72 (qf_ D cy σ0 z (some (.int r))) σ0 z _ 31 [(0, va_rf (some l0)), (1, .int l1), (2, .int l2)] [.int x9, .int l1]
      refine v_iadd dX11_freshen_31 ?_
      obtain ⟨x11, ex11⟩ : ∃ y : Int32, y = l1 + x9 := ⟨_, rfl⟩
      rw [lt_e, ← ex11] at hf
      rw [← ex11]
      refine v_istore_n [(1, .int x11), (0, va_rf (some l0)), (2, .int l2)] dX11_freshen_32 rfl (by decide) rfl ?_
      obtain ⟨x12, ex12⟩ : ∃ y : Int32, y = l2 + 1 := ⟨_, rfl⟩
      rw [lt_e, ← ex12] at hf
      refine v_iinc (v := x12) [(2, .int x12), (1, .int x11), (0, va_rf (some l0))] dX11_freshen_33 2 rfl (by rw [ex12]; rfl) (by decide) rfl ?_
      refine v_goto (tgt := 4) dX11_freshen_36 (by decide) ?_
      refine v_sub [2, 1, 0] (L2 := [(0, va_rf (some l0)), (1, .int x11), (2, .int x12)]) rfl ?_
      exact hrec_4 _ _ _ _ hf
/-- LivesAhead.freshen()I -/
def f_X11_freshen (σ : TH) (p0 : Nat) : Option (Int32 × TH) :=
  f_X11_freshen_b4 fu_ σ p0 (0 : Int32) (0 : Int32)
set_option maxHeartbeats 4000000 in
set_option maxRecDepth 100000 in
theorem c_X11_freshen {l : Launch} {D : va_G} {cy : Nat → ClassId} {ka : Nat → Nat} {σ z : TH} {p0 : Nat} {r : Int32} (hf : f_X11_freshen σ p0 = some (r, z)) : ct_ l D cy ka yX11_freshen 3 72 [va_rf (some p0)] σ (some (.int r)) z := by
  unfold f_X11_freshen at hf
  refine v_start (cc := cX11_freshen) (own := RX11) (maxL := 3) (ret := (some FieldType.int)) (nm := "freshen") (by decide +kernel) kw_1317 rfl rfl (by simp [lg_sl, va_rf_cat, cat_i, cat_l]) ?_
  refine v_eqL (L2 := [(0, va_rf (some p0))]) (by simp [lv_args, va_rf_cat, cat_i, cat_l]) ?_
  refine v_iconst (v := 0) dX11_freshen_0 (by decide) ?_
  refine v_istore_n [(1, .int (0 : Int32)), (0, va_rf (some p0))] dX11_freshen_1 rfl (by decide) rfl ?_
  refine v_iconst (v := 0) dX11_freshen_2 (by decide) ?_
  refine v_istore_n [(2, .int (0 : Int32)), (1, .int (0 : Int32)), (0, va_rf (some p0))] dX11_freshen_3 rfl (by decide) rfl ?_
  refine v_sub [2, 1, 0] (L2 := [(0, va_rf (some p0)), (1, .int (0 : Int32)), (2, .int (0 : Int32))]) rfl ?_
  exact t_X11_freshen_b4  _ _ _ _ _ hf
theorem dX11_hours_0 : decode cX11_hours 0 = .ok (.aload_n 0, 1) := by decide +kernel
theorem dX11_hours_1 : decode cX11_hours 1 = .ok (.iload_n 1, 1) := by decide +kernel
theorem dX11_hours_2 : decode cX11_hours 2 = .ok (.invokevirtual 117, 3) := by decide +kernel
theorem dX11_hours_5 : decode cX11_hours 5 = .ok (.astore_n 3, 1) := by decide +kernel
theorem dX11_hours_6 : decode cX11_hours 6 = .ok (.aload_n 3, 1) := by decide +kernel
theorem dX11_hours_7 : decode cX11_hours 7 = .ok (.ifnonnull 9, 3) := by decide +kernel
theorem dX11_hours_10 : decode cX11_hours 10 = .ok (.aload_n 0, 1) := by decide +kernel
theorem dX11_hours_11 : decode cX11_hours 11 = .ok (.iconst 1, 1) := by decide +kernel
theorem dX11_hours_12 : decode cX11_hours 12 = .ok (.invokevirtual 121, 3) := by decide +kernel
theorem dX11_hours_15 : decode cX11_hours 15 = .ok (.ireturn, 1) := by decide +kernel
theorem dX11_hours_16 : decode cX11_hours 16 = .ok (.iload_n 2, 1) := by decide +kernel
theorem dX11_hours_17 : decode cX11_hours 17 = .ok (.iconst 0, 1) := by decide +kernel
theorem dX11_hours_18 : decode cX11_hours 18 = .ok (.bipush 60, 2) := by decide +kernel
theorem dX11_hours_20 : decode cX11_hours 20 = .ok (.invokestatic 93, 3) := by decide +kernel
theorem dX11_hours_23 : decode cX11_hours 23 = .ok (.ifCond .ne 9, 3) := by decide +kernel
theorem dX11_hours_26 : decode cX11_hours 26 = .ok (.aload_n 0, 1) := by decide +kernel
theorem dX11_hours_27 : decode cX11_hours 27 = .ok (.iconst 2, 1) := by decide +kernel
theorem dX11_hours_28 : decode cX11_hours 28 = .ok (.invokevirtual 121, 3) := by decide +kernel
theorem dX11_hours_31 : decode cX11_hours 31 = .ok (.ireturn, 1) := by decide +kernel
theorem dX11_hours_32 : decode cX11_hours 32 = .ok (.aload_n 3, 1) := by decide +kernel
theorem dX11_hours_33 : decode cX11_hours 33 = .ok (.iload_n 2, 1) := by decide +kernel
theorem dX11_hours_34 : decode cX11_hours 34 = .ok (.putfield 125, 3) := by decide +kernel
theorem dX11_hours_37 : decode cX11_hours 37 = .ok (.aload_n 0, 1) := by decide +kernel
theorem dX11_hours_38 : decode cX11_hours 38 = .ok (.invokevirtual 128, 3) := by decide +kernel
theorem dX11_hours_41 : decode cX11_hours 41 = .ok (.ireturn, 1) := by decide +kernel
/-- LivesAhead.hours(II)Z -/
def f_X11_hours (σ : TH) (p0 : Nat) (p1 : Int32) (p2 : Int32) : Option (Int32 × TH) :=
  gt_ (kd_ σ p0 = 13) <| bd_ (f_X11_livingWriter σ p0 p1) fun r1 s2 => oc_ r1 (bd_ (f_X11_denied s2 p0 (1 : Int32)) fun x4 s5 => gt_ (x4 = 0 ∨ x4 = 1) <| some (x4, s5)) (fun a3 => bd_ (f_X11_within s2 p2 (0 : Int32) (60 : Int32)) fun x6 s7 => if x6 = 0 then (bd_ (f_X11_denied s7 p0 (2 : Int32)) fun x8 s9 => gt_ (x8 = 0 ∨ x8 = 1) <| some (x8, s9)) else (gt_ (kd_ s7 a3 = 12) <| lt_ (si_ s7 1100 a3 p2) fun s10 => bd_ (f_X11_allowed s10 p0) fun x11 s12 => gt_ (x11 = 0 ∨ x11 = 1) <| some (x11, s12)))
set_option maxHeartbeats 4000000 in
set_option maxRecDepth 100000 in
theorem c_X11_hours {l : Launch} {D : va_G} {cy : Nat → ClassId} {ka : Nat → Nat} {σ z : TH} {p0 : Nat} {p1 : Int32} {p2 : Int32} {r : Int32} (hf : f_X11_hours σ p0 p1 p2 = some (r, z)) : ct_ l D cy ka yX11_hours 4 86 [va_rf (some p0), .int p1, .int p2] σ (some (.int r)) z := by
  unfold f_X11_hours at hf
  refine v_start (cc := cX11_hours) (own := RX11) (maxL := 4) (ret := (some FieldType.boolean)) (nm := "hours") (by decide +kernel) kw_402 rfl rfl (by simp [lg_sl, va_rf_cat, cat_i, cat_l]) ?_
  refine v_eqL (L2 := [(0, va_rf (some p0)), (1, .int p1), (2, .int p2)]) (by simp [lv_args, va_rf_cat, cat_i, cat_l]) ?_
  refine v_aload_n (x := (some p0)) dX11_hours_0 rfl 0 rfl ?_
  refine v_iload_n (x := p1) dX11_hours_1 rfl 1 rfl ?_
  obtain ⟨hk_p0, hf⟩ := gt_of hf
  obtain ⟨r1, s2, hcs2, hf⟩ := bd_of hf
  have hts2 := c_X11_livingWriter (l := l) (D := D) (cy := cy) (ka := ka) hcs2
  refine v_callV cb_12 hk_p0 (As := [.int p1]) (rest := []) hts2 yb_X11_livingWriter kw_403 kw_405 kp_5 rfl ⟨Nat.le_of_ble_eq_true rfl, Nat.le_of_ble_eq_true rfl⟩ rfl (cat_len (Nat.le_of_ble_eq_true rfl)) dX11_hours_2 ?_
  have hk_p0 := tk_ hts2.1 hk_p0
  show v_ l D cy ka cX11_hours RX11 4 (some FieldType.boolean) "hours" 4 86 (qf_ D cy σ z (some (.int r))) σ z _ 5 [(0, va_rf (some p0)), (1, .int p1), (2, .int p2)] [va_rf r1]
  refine v_astore_n [(3, va_rf r1), (0, va_rf (some p0)), (1, .int p1), (2, .int p2)] dX11_hours_5 rfl (by decide) rfl ?_
  refine v_aload_n (x := r1) dX11_hours_6 rfl 0 rfl ?_
  refine v_ifnonnull2 (tgt := 16) hf dX11_hours_7 (by decide) (fun e9 hf9 => ?_) (fun a3 e9 hf9 => ?_)
  · subst e9
    replace hf := hf9
    clear hf9
    refine v_aload_n (x := (some p0)) dX11_hours_10 rfl 1 rfl ?_
    refine v_iconst (v := 1) dX11_hours_11 (by decide) ?_
    obtain ⟨x4, s5, hcs5, hf⟩ := bd_of hf
    have hts5 := c_X11_denied (l := l) (D := D) (cy := cy) (ka := ka) hcs5
    refine v_callV cb_12 hk_p0 (As := [.int (1 : Int32)]) (rest := []) hts5 yb_X11_denied kw_421 kw_423 kp_6 rfl ⟨Nat.le_of_ble_eq_true rfl, Nat.le_of_ble_eq_true rfl⟩ rfl (cat_len (Nat.le_of_ble_eq_true rfl)) dX11_hours_12 ?_
    have hk_p0 := tk_ hts5.1 hk_p0
    show v_ l D cy ka cX11_hours RX11 4 (some FieldType.boolean) "hours" 4 86 (qf_ D cy σ z (some (.int r))) σ z _ 15 [(3, va_rf none), (0, va_rf (some p0)), (1, .int p1), (2, .int p2)] [.int x4]
    obtain ⟨hb9, hf⟩ := gt_of hf
    exact v_zret hf (nz_ hb9) dX11_hours_15
  · subst e9
    replace hf := hf9
    clear hf9
    refine v_iload_n (x := p2) dX11_hours_16 rfl 3 rfl ?_
    refine v_iconst (v := 0) dX11_hours_17 (by decide) ?_
    refine v_bipush (v := 60) dX11_hours_18 (by decide) ?_
    obtain ⟨x6, s7, hcs7, hf⟩ := bd_of hf
    have hts7 := c_X11_within (l := l) (D := D) (cy := cy) (ka := ka) hcs7
    refine v_callS (As := [.int p2, .int (0 : Int32), .int (60 : Int32)]) (rest := []) hts7 yb_X11_within kw_304 kw_305 rfl ⟨Nat.le_of_ble_eq_true rfl, Nat.le_of_ble_eq_true rfl⟩ rfl (cat_len (Nat.le_of_ble_eq_true rfl)) dX11_hours_20 ?_
    have hk_p0 := tk_ hts7.1 hk_p0
    show v_ l D cy ka cX11_hours RX11 4 (some FieldType.boolean) "hours" 4 86 (qf_ D cy σ z (some (.int r))) σ z _ 23 [(3, va_rf (some a3)), (0, va_rf (some p0)), (1, .int p1), (2, .int p2)] [.int x6]
    refine v_if_ne (tgt := 32) hf dX11_hours_23 (by decide) (fun hq hf => ?_) (fun hq hf => ?_)
    · refine v_aload_n (x := (some p0)) dX11_hours_26 rfl 1 rfl ?_
      refine v_iconst (v := 2) dX11_hours_27 (by decide) ?_
      obtain ⟨x8, s9, hcs9, hf⟩ := bd_of hf
      have hts9 := c_X11_denied (l := l) (D := D) (cy := cy) (ka := ka) hcs9
      refine v_callV cb_12 hk_p0 (As := [.int (2 : Int32)]) (rest := []) hts9 yb_X11_denied kw_421 kw_423 kp_6 rfl ⟨Nat.le_of_ble_eq_true rfl, Nat.le_of_ble_eq_true rfl⟩ rfl (cat_len (Nat.le_of_ble_eq_true rfl)) dX11_hours_28 ?_
      have hk_p0 := tk_ hts9.1 hk_p0
      show v_ l D cy ka cX11_hours RX11 4 (some FieldType.boolean) "hours" 4 86 (qf_ D cy σ z (some (.int r))) σ z _ 31 [(3, va_rf (some a3)), (0, va_rf (some p0)), (1, .int p1), (2, .int p2)] [.int x8]
      obtain ⟨hb9, hf⟩ := gt_of hf
      exact v_zret hf (nz_ hb9) dX11_hours_31
    · refine v_aload_n (x := (some a3)) dX11_hours_32 rfl 0 rfl ?_
      refine v_iload_n (x := p2) dX11_hours_33 rfl 3 rfl ?_
      obtain ⟨hk_a3, hf⟩ := gt_of hf
      refine v_puti2 cb_11 hk_a3 0 1100 rfl (by decide) rfl (lk_n kw_322 rfl) (Or.inl rfl) rfl rfl hf dX11_hours_34 (fun s10 hts10 hf => ?_)
      have hk_p0 := tk_ hts10 hk_p0
      have hk_a3 := tk_ hts10 hk_a3
      refine v_aload_n (x := (some p0)) dX11_hours_37 rfl 1 rfl ?_
      obtain ⟨x11, s12, hcs12, hf⟩ := bd_of hf
      have hts12 := c_X11_allowed (l := l) (D := D) (cy := cy) (ka := ka) hcs12
      refine v_callV cb_12 hk_p0 (As := []) (rest := []) hts12 yb_X11_allowed kw_425 kw_427 kp_7 rfl ⟨Nat.le_of_ble_eq_true rfl, Nat.le_of_ble_eq_true rfl⟩ rfl (cat_len (Nat.le_of_ble_eq_true rfl)) dX11_hours_38 ?_
      have hk_p0 := tk_ hts12.1 hk_p0
      have hk_a3 := tk_ hts12.1 hk_a3
      show v_ l D cy ka cX11_hours RX11 4 (some FieldType.boolean) "hours" 4 86 (qf_ D cy σ z (some (.int r))) σ z _ 41 [(3, va_rf (some a3)), (0, va_rf (some p0)), (1, .int p1), (2, .int p2)] [.int x11]
      obtain ⟨hb9, hf⟩ := gt_of hf
      exact v_zret hf (nz_ hb9) dX11_hours_41
