/-! Functions over the typed heap and contracts, by wip/gen/gen.py: X6_enterIf X6_goOnAdding X6_relate X6_takeTerm X6_termMayCome X6_readWhole X6_isName X6_openIf X6_takeFact X6_takeJoin X6_takeQuestion X6_takeWord X9_init X11_lengthToday X11_textAt X11_pass X2_init X3_init X11_isHeard X7_init X7_tellFact X11_takes X11_trouble -/
theorem dX6_enterIf_0 : decode cX6_enterIf 0 = .ok (.aload_n 0, 1) := by decide +kernel
theorem dX6_enterIf_1 : decode cX6_enterIf 1 = .ok (.invokevirtual 118, 3) := by decide +kernel
theorem dX6_enterIf_4 : decode cX6_enterIf 4 = .ok (.aload_n 0, 1) := by decide +kernel
theorem dX6_enterIf_5 : decode cX6_enterIf 5 = .ok (.getfield 45, 3) := by decide +kernel
theorem dX6_enterIf_8 : decode cX6_enterIf 8 = .ok (.bipush 11, 2) := by decide +kernel
theorem dX6_enterIf_10 : decode cX6_enterIf 10 = .ok (.if_icmp .ne 18, 3) := by decide +kernel
theorem dX6_enterIf_13 : decode cX6_enterIf 13 = .ok (.aload_n 0, 1) := by decide +kernel
theorem dX6_enterIf_14 : decode cX6_enterIf 14 = .ok (.getfield 35, 3) := by decide +kernel
theorem dX6_enterIf_17 : decode cX6_enterIf 17 = .ok (.ifCond .ne 11, 3) := by decide +kernel
theorem dX6_enterIf_20 : decode cX6_enterIf 20 = .ok (.aload_n 0, 1) := by decide +kernel
theorem dX6_enterIf_21 : decode cX6_enterIf 21 = .ok (.getfield 57, 3) := by decide +kernel
theorem dX6_enterIf_24 : decode cX6_enterIf 24 = .ok (.iconst 5, 1) := by decide +kernel
theorem dX6_enterIf_25 : decode cX6_enterIf 25 = .ok (.if_icmp .lt 13, 3) := by decide +kernel
theorem dX6_enterIf_28 : decode cX6_enterIf 28 = .ok (.aload_n 0, 1) := by decide +kernel
theorem dX6_enterIf_29 : decode cX6_enterIf 29 = .ok (.iconst 1, 1) := by decide +kernel
theorem dX6_enterIf_30 : decode cX6_enterIf 30 = .ok (.aload_n 0, 1) := by decide +kernel
theorem dX6_enterIf_31 : decode cX6_enterIf 31 = .ok (.getfield 42, 3) := by decide +kernel
theorem dX6_enterIf_34 : decode cX6_enterIf 34 = .ok (.invokevirtual 121, 3) := by decide +kernel
theorem dX6_enterIf_37 : decode cX6_enterIf 37 = .ok (.return_, 1) := by decide +kernel
theorem dX6_enterIf_38 : decode cX6_enterIf 38 = .ok (.aload_n 0, 1) := by decide +kernel
theorem dX6_enterIf_39 : decode cX6_enterIf 39 = .ok (.getfield 29, 3) := by decide +kernel
theorem dX6_enterIf_42 : decode cX6_enterIf 42 = .ok (.aload_n 0, 1) := by decide +kernel
theorem dX6_enterIf_43 : decode cX6_enterIf 43 = .ok (.getfield 57, 3) := by decide +kernel
theorem dX6_enterIf_46 : decode cX6_enterIf 46 = .ok (.aload_n 0, 1) := by decide +kernel
theorem dX6_enterIf_47 : decode cX6_enterIf 47 = .ok (.bipush 13, 2) := by decide +kernel
theorem dX6_enterIf_49 : decode cX6_enterIf 49 = .ok (.iconst 0, 1) := by decide +kernel
theorem dX6_enterIf_50 : decode cX6_enterIf 50 = .ok (.invokevirtual 134, 3) := by decide +kernel
theorem dX6_enterIf_53 : decode cX6_enterIf 53 = .ok (.iastore, 1) := by decide +kernel
theorem dX6_enterIf_54 : decode cX6_enterIf 54 = .ok (.aload_n 0, 1) := by decide +kernel
theorem dX6_enterIf_55 : decode cX6_enterIf 55 = .ok (.dup, 1) := by decide +kernel
theorem dX6_enterIf_56 : decode cX6_enterIf 56 = .ok (.getfield 57, 3) := by decide +kernel
theorem dX6_enterIf_59 : decode cX6_enterIf 59 = .ok (.iconst 1, 1) := by decide +kernel
theorem dX6_enterIf_60 : decode cX6_enterIf 60 = .ok (.iadd, 1) := by decide +kernel
theorem dX6_enterIf_61 : decode cX6_enterIf 61 = .ok (.putfield 57, 3) := by decide +kernel
theorem dX6_enterIf_64 : decode cX6_enterIf 64 = .ok (.aload_n 0, 1) := by decide +kernel
theorem dX6_enterIf_65 : decode cX6_enterIf 65 = .ok (.iconst 0, 1) := by decide +kernel
theorem dX6_enterIf_66 : decode cX6_enterIf 66 = .ok (.putfield 51, 3) := by decide +kernel
theorem dX6_enterIf_69 : decode cX6_enterIf 69 = .ok (.aload_n 0, 1) := by decide +kernel
theorem dX6_enterIf_70 : decode cX6_enterIf 70 = .ok (.iconst 0, 1) := by decide +kernel
theorem dX6_enterIf_71 : decode cX6_enterIf 71 = .ok (.putfield 45, 3) := by decide +kernel
theorem dX6_enterIf_74 : decode cX6_enterIf 74 = .ok (.return_, 1) := by decide +kernel
def f_X6_enterIf_b28 (σ : TH) (l0 : Nat) : Option (Unit × TH) :=
  gt_ (kd_ σ l0 = 8) <| lt_ (fi_ σ 709 l0) fun x16 => bd_ (f_X6_fail σ l0 (1 : Int32) x16) fun x17 s18 => some ((), s18)
set_option maxHeartbeats 4000000 in
set_option maxRecDepth 100000 in
theorem t_X6_enterIf_b28 {l : Launch} {D : va_G} {cy : Nat → ClassId} {ka : Nat → Nat} {σ0 z : TH} {r : Unit}  {σ : TH} {l0 : Nat} (hf : f_X6_enterIf_b28 σ l0 = some (r, z)) : v_ l D cy ka cX6_enterIf RX6 1 none "enterIf" 2 43 (qf_ D cy σ0 z none) σ0 z σ 28 [(0, va_rf (some l0))] [] := by
  unfold f_X6_enterIf_b28 at hf
  refine v_aload_n (x := (some l0)) dX6_enterIf_28 rfl 0 rfl ?_
  refine v_iconst (v := 1) dX6_enterIf_29 (by decide) ?_
  refine v_aload_n (x := (some l0)) dX6_enterIf_30 rfl 0 rfl ?_
  obtain ⟨hk_l0, hf⟩ := gt_of hf
  refine v_geti cb_7 hk_l0 9 709 rfl (by decide) rfl (lk_n kw_86 rfl) hf dX6_enterIf_31 (fun x16 hf => ?_)
  obtain ⟨x17, s18, hcs18, hf⟩ := bd_of hf
  have hts18 := c_X6_fail (l := l) (D := D) (cy := cy) (ka := ka) hcs18
  refine v_callV cb_7 hk_l0 (As := [.int (1 : Int32), .int x16]) (rest := []) hts18 yb_X6_fail kw_676 kw_678 kp_20 rfl ⟨Nat.le_of_ble_eq_true rfl, Nat.le_of_ble_eq_true rfl⟩ rfl (cat_len (Nat.le_of_ble_eq_true rfl)) dX6_enterIf_34 ?_
  have hk_l0 := tk_ hts18.1 hk_l0
  show v_ l D cy ka cX6_enterIf RX6 1 none "enterIf" 2 43 (qf_ D cy σ0 z none) σ0 z _ 37 [(0, va_rf (some l0))] []
  exact v_vret hf dX6_enterIf_37
/-- LivesAhead$Reader.enterIf()V -/
def f_X6_enterIf (σ : TH) (p0 : Nat) : Option (Unit × TH) :=
  gt_ (kd_ σ p0 = 8) <| bd_ (f_X6_closeComparison σ p0) fun x1 s2 => lt_ (fi_ s2 710 p0) fun x3 => if x3 = (11 : Int32) then (lt_ (fi_ s2 707 p0) fun x4 => if x4 = 0 then (lt_ (fi_ s2 714 p0) fun x5 => if x5 < (5 : Int32) then (lt_ (fr_ s2 705 p0) fun r6 => lt_ (fi_ s2 714 p0) fun x7 => bd_ (f_X6_emit s2 p0 (13 : Int32) (0 : Int32)) fun x8 s9 => nn_ r6 fun a10 => gt_ (kd_ s9 a10 = 20) <| gt_ (¬ (x7 < 0 ∨ ln_ s9 a10 ≤ x7.toNatClampNeg)) <| lt_ (sa_ s9 a10 x7.toNatClampNeg x8) fun s11 => lt_ (fi_ s11 714 p0) fun x12 => lt_ (si_ s11 714 p0 (x12 + (1 : Int32))) fun s13 => lt_ (si_ s13 712 p0 (0 : Int32)) fun s14 => lt_ (si_ s14 710 p0 (0 : Int32)) fun s15 => some ((), s15)) else (f_X6_enterIf_b28 s2 p0)) else (f_X6_enterIf_b28 s2 p0)) else (f_X6_enterIf_b28 s2 p0)
set_option maxHeartbeats 4000000 in
set_option maxRecDepth 100000 in
theorem c_X6_enterIf {l : Launch} {D : va_G} {cy : Nat → ClassId} {ka : Nat → Nat} {σ z : TH} {p0 : Nat} {r : Unit} (hf : f_X6_enterIf σ p0 = some (r, z)) : ct_ l D cy ka yX6_enterIf 2 43 [va_rf (some p0)] σ none z := by
  unfold f_X6_enterIf at hf
  refine v_start (cc := cX6_enterIf) (own := RX6) (maxL := 1) (ret := none) (nm := "enterIf") (by decide +kernel) kw_846 rfl rfl (by simp [lg_sl, va_rf_cat, cat_i, cat_l]) ?_
  refine v_eqL (L2 := [(0, va_rf (some p0))]) (by simp [lv_args, va_rf_cat, cat_i, cat_l]) ?_
  refine v_aload_n (x := (some p0)) dX6_enterIf_0 rfl 0 rfl ?_
  obtain ⟨hk_p0, hf⟩ := gt_of hf
  obtain ⟨x1, s2, hcs2, hf⟩ := bd_of hf
  have hts2 := c_X6_closeComparison (l := l) (D := D) (cy := cy) (ka := ka) hcs2
  refine v_callV cb_7 hk_p0 (As := []) (rest := []) hts2 yb_X6_closeComparison kw_799 kw_801 kp_33 rfl ⟨Nat.le_of_ble_eq_true rfl, Nat.le_of_ble_eq_true rfl⟩ rfl (cat_len (Nat.le_of_ble_eq_true rfl)) dX6_enterIf_1 ?_
  have hk_p0 := tk_ hts2.1 hk_p0
  show v_ l D cy ka cX6_enterIf RX6 1 none "enterIf" 2 43 (qf_ D cy σ z none) σ z _ 4 [(0, va_rf (some p0))] []
  refine v_aload_n (x := (some p0)) dX6_enterIf_4 rfl 0 rfl ?_
  refine v_geti cb_7 hk_p0 10 710 rfl (by decide) rfl (lk_n kw_87 rfl) hf dX6_enterIf_5 (fun x3 hf => ?_)
  refine v_bipush (v := 11) dX6_enterIf_8 (by decide) ?_
  refine v_icmp_ne (tgt := 28) hf dX6_enterIf_10 (by decide) (fun hq hf => ?_) (fun hq hf => ?_)
  · refine v_aload_n (x := (some p0)) dX6_enterIf_13 rfl 0 rfl ?_
    refine v_geti cb_7 hk_p0 7 707 rfl (by decide) rfl (lk_n kw_84 rfl) hf dX6_enterIf_14 (fun x4 hf => ?_)
    refine v_if_ne (tgt := 28) hf dX6_enterIf_17 (by decide) (fun hq hf => ?_) (fun hq hf => ?_)
    · refine v_aload_n (x := (some p0)) dX6_enterIf_20 rfl 0 rfl ?_
      refine v_geti cb_7 hk_p0 14 714 rfl (by decide) rfl (lk_n kw_91 rfl) hf dX6_enterIf_21 (fun x5 hf => ?_)
      refine v_iconst (v := 5) dX6_enterIf_24 (by decide) ?_
      refine v_icmp_lt (tgt := 38) hf dX6_enterIf_25 (by decide) (fun hq hf => ?_) (fun hq hf => ?_)
      · refine v_aload_n (x := (some p0)) dX6_enterIf_38 rfl 0 rfl ?_
        refine v_getr cb_7 hk_p0 5 705 rfl (by decide) rfl (lk_n kw_82 rfl) hf dX6_enterIf_39 (fun r6 hf => ?_)
        refine v_aload_n (x := (some p0)) dX6_enterIf_42 rfl 0 rfl ?_
        refine v_geti cb_7 hk_p0 14 714 rfl (by decide) rfl (lk_n kw_91 rfl) hf dX6_enterIf_43 (fun x7 hf => ?_)
        refine v_aload_n (x := (some p0)) dX6_enterIf_46 rfl 0 rfl ?_
        refine v_bipush (v := 13) dX6_enterIf_47 (by decide) ?_
        refine v_iconst (v := 0) dX6_enterIf_49 (by decide) ?_
        obtain ⟨x8, s9, hcs9, hf⟩ := bd_of hf
        have hts9 := c_X6_emit (l := l) (D := D) (cy := cy) (ka := ka) hcs9
        refine v_callV cb_7 hk_p0 (As := [.int (13 : Int32), .int (0 : Int32)]) (rest := [.int x7, va_rf r6]) hts9 yb_X6_emit kw_688 kw_690 kp_23 rfl ⟨Nat.le_of_ble_eq_true rfl, Nat.le_of_ble_eq_true rfl⟩ rfl (cat_len (Nat.le_of_ble_eq_true rfl)) dX6_enterIf_50 ?_
        have hk_p0 := tk_ hts9.1 hk_p0
        show v_ l D cy ka cX6_enterIf RX6 1 none "enterIf" 2 43 (qf_ D cy σ z none) σ z _ 53 [(0, va_rf (some p0))] [.int x8, .int x7, va_rf r6]
        obtain ⟨a10, rfl, hf⟩ := nn_of hf
        obtain ⟨hk_a10, hf⟩ := gt_of hf
        refine v_iast2 hk_a10 hf dX6_enterIf_53 (fun s11 hts11 hf => ?_)
        have hk_p0 := tk_ hts11 hk_p0
        refine v_aload_n (x := (some p0)) dX6_enterIf_54 rfl 0 rfl ?_
        refine v_dup dX6_enterIf_55 (va_rf_cat _) ?_
        refine v_geti cb_7 hk_p0 14 714 rfl (by decide) rfl (lk_n kw_91 rfl) hf dX6_enterIf_56 (fun x12 hf => ?_)
        refine v_iconst (v := 1) dX6_enterIf_59 (by decide) ?_
        refine v_iadd dX6_enterIf_60 ?_
        refine v_puti2 cb_7 hk_p0 14 714 rfl (by decide) rfl (lk_n kw_91 rfl) (Or.inl rfl) rfl rfl hf dX6_enterIf_61 (fun s13 hts13 hf => ?_)
        have hk_p0 := tk_ hts13 hk_p0
        refine v_aload_n (x := (some p0)) dX6_enterIf_64 rfl 0 rfl ?_
        refine v_iconst (v := 0) dX6_enterIf_65 (by decide) ?_
        refine v_puti2 cb_7 hk_p0 12 712 rfl (by decide) rfl (lk_n kw_89 rfl) (Or.inl rfl) rfl rfl hf dX6_enterIf_66 (fun s14 hts14 hf => ?_)
        have hk_p0 := tk_ hts14 hk_p0
        refine v_aload_n (x := (some p0)) dX6_enterIf_69 rfl 0 rfl ?_
        refine v_iconst (v := 0) dX6_enterIf_70 (by decide) ?_
        refine v_puti2 cb_7 hk_p0 10 710 rfl (by decide) rfl (lk_n kw_87 rfl) (Or.inl rfl) rfl rfl hf dX6_enterIf_71 (fun s15 hts15 hf => ?_)
        have hk_p0 := tk_ hts15 hk_p0
        exact v_vret hf dX6_enterIf_74
      · refine v_sub [0] (L2 := [(0, va_rf (some p0))]) rfl ?_
        exact t_X6_enterIf_b28  hf
    · refine v_sub [0] (L2 := [(0, va_rf (some p0))]) rfl ?_
      exact t_X6_enterIf_b28  hf
  · refine v_sub [0] (L2 := [(0, va_rf (some p0))]) rfl ?_
    exact t_X6_enterIf_b28  hf
theorem dX6_goOnAdding_0 : decode cX6_goOnAdding 0 = .ok (.aload_n 0, 1) := by decide +kernel
theorem dX6_goOnAdding_1 : decode cX6_goOnAdding 1 = .ok (.getfield 45, 3) := by decide +kernel
theorem dX6_goOnAdding_4 : decode cX6_goOnAdding 4 = .ok (.bipush 8, 2) := by decide +kernel
theorem dX6_goOnAdding_6 : decode cX6_goOnAdding 6 = .ok (.bipush 10, 2) := by decide +kernel
theorem dX6_goOnAdding_8 : decode cX6_goOnAdding 8 = .ok (.invokestatic 72, 3) := by decide +kernel
theorem dX6_goOnAdding_11 : decode cX6_goOnAdding 11 = .ok (.ifCond .ne 13, 3) := by decide +kernel
theorem dX6_goOnAdding_14 : decode cX6_goOnAdding 14 = .ok (.aload_n 0, 1) := by decide +kernel
theorem dX6_goOnAdding_15 : decode cX6_goOnAdding 15 = .ok (.iconst 1, 1) := by decide +kernel
theorem dX6_goOnAdding_16 : decode cX6_goOnAdding 16 = .ok (.aload_n 0, 1) := by decide +kernel
theorem dX6_goOnAdding_17 : decode cX6_goOnAdding 17 = .ok (.getfield 42, 3) := by decide +kernel
theorem dX6_goOnAdding_20 : decode cX6_goOnAdding 20 = .ok (.invokevirtual 121, 3) := by decide +kernel
theorem dX6_goOnAdding_23 : decode cX6_goOnAdding 23 = .ok (.return_, 1) := by decide +kernel
theorem dX6_goOnAdding_24 : decode cX6_goOnAdding 24 = .ok (.iload_n 1, 1) := by decide +kernel
theorem dX6_goOnAdding_25 : decode cX6_goOnAdding 25 = .ok (.bipush 45, 2) := by decide +kernel
theorem dX6_goOnAdding_27 : decode cX6_goOnAdding 27 = .ok (.if_icmp .ne 10, 3) := by decide +kernel
theorem dX6_goOnAdding_30 : decode cX6_goOnAdding 30 = .ok (.aload_n 0, 1) := by decide +kernel
theorem dX6_goOnAdding_31 : decode cX6_goOnAdding 31 = .ok (.iconst 3, 1) := by decide +kernel
theorem dX6_goOnAdding_32 : decode cX6_goOnAdding 32 = .ok (.iconst 0, 1) := by decide +kernel
theorem dX6_goOnAdding_33 : decode cX6_goOnAdding 33 = .ok (.invokevirtual 134, 3) := by decide +kernel
theorem dX6_goOnAdding_36 : decode cX6_goOnAdding 36 = .ok (.pop, 1) := by decide +kernel
theorem dX6_goOnAdding_37 : decode cX6_goOnAdding 37 = .ok (.aload_n 0, 1) := by decide +kernel
theorem dX6_goOnAdding_38 : decode cX6_goOnAdding 38 = .ok (.aload_n 0, 1) := by decide +kernel
theorem dX6_goOnAdding_39 : decode cX6_goOnAdding 39 = .ok (.getfield 45, 3) := by decide +kernel
theorem dX6_goOnAdding_42 : decode cX6_goOnAdding 42 = .ok (.bipush 8, 2) := by decide +kernel
theorem dX6_goOnAdding_44 : decode cX6_goOnAdding 44 = .ok (.isub, 1) := by decide +kernel
theorem dX6_goOnAdding_45 : decode cX6_goOnAdding 45 = .ok (.iconst 5, 1) := by decide +kernel
theorem dX6_goOnAdding_46 : decode cX6_goOnAdding 46 = .ok (.iadd, 1) := by decide +kernel
theorem dX6_goOnAdding_47 : decode cX6_goOnAdding 47 = .ok (.putfield 45, 3) := by decide +kernel
theorem dX6_goOnAdding_50 : decode cX6_goOnAdding 50 = .ok (.return_, 1) := by decide +kernel
def f_X6_goOnAdding_b37 (σ : TH) (l0 : Nat) : Option (Unit × TH) :=
  gt_ (kd_ σ l0 = 8) <| lt_ (fi_ σ 710 l0) fun x9 => lt_ (si_ σ 710 l0 ((x9 - (8 : Int32)) + (5 : Int32))) fun s10 => some ((), s10)
set_option maxHeartbeats 4000000 in
set_option maxRecDepth 100000 in
theorem t_X6_goOnAdding_b37 {l : Launch} {D : va_G} {cy : Nat → ClassId} {ka : Nat → Nat} {σ0 z : TH} {r : Unit}  {σ : TH} {l0 : Nat} (hf : f_X6_goOnAdding_b37 σ l0 = some (r, z)) : v_ l D cy ka cX6_goOnAdding RX6 2 none "goOnAdding" 1 23 (qf_ D cy σ0 z none) σ0 z σ 37 [(0, va_rf (some l0))] [] := by
  unfold f_X6_goOnAdding_b37 at hf
  refine v_aload_n (x := (some l0)) dX6_goOnAdding_37 rfl 0 rfl ?_
  refine v_aload_n (x := (some l0)) dX6_goOnAdding_38 rfl 0 rfl ?_
  obtain ⟨hk_l0, hf⟩ := gt_of hf
  refine v_geti cb_7 hk_l0 10 710 rfl (by decide) rfl (lk_n kw_87 rfl) hf dX6_goOnAdding_39 (fun x9 hf => ?_)
  refine v_bipush (v := 8) dX6_goOnAdding_42 (by decide) ?_
  refine v_isub dX6_goOnAdding_44 ?_
  refine v_iconst (v := 5) dX6_goOnAdding_45 (by decide) ?_
  refine v_iadd dX6_goOnAdding_46 ?_
  refine v_puti2 cb_7 hk_l0 10 710 rfl (by decide) rfl (lk_n kw_87 rfl) (Or.inl rfl) rfl rfl hf dX6_goOnAdding_47 (fun s10 hts10 hf => ?_)
  have hk_l0 := tk_ hts10 hk_l0
  exact v_vret hf dX6_goOnAdding_50
/-- LivesAhead$Reader.goOnAdding(I)V -/
def f_X6_goOnAdding (σ : TH) (p0 : Nat) (p1 : Int32) : Option (Unit × TH) :=
  gt_ (kd_ σ p0 = 8) <| lt_ (fi_ σ 710 p0) fun x1 => bd_ (f_X11_within σ x1 (8 : Int32) (10 : Int32)) fun x2 s3 => if x2 = 0 then (lt_ (fi_ s3 709 p0) fun x4 => bd_ (f_X6_fail s3 p0 (1 : Int32) x4) fun x5 s6 => some ((), s6)) else (if p1 = (45 : Int32) then (bd_ (f_X6_emit s3 p0 (3 : Int32) (0 : Int32)) fun x7 s8 => f_X6_goOnAdding_b37 s8 p0) else (f_X6_goOnAdding_b37 s3 p0))
set_option maxHeartbeats 4000000 in
set_option maxRecDepth 100000 in
theorem c_X6_goOnAdding {l : Launch} {D : va_G} {cy : Nat → ClassId} {ka : Nat → Nat} {σ z : TH} {p0 : Nat} {p1 : Int32} {r : Unit} (hf : f_X6_goOnAdding σ p0 p1 = some (r, z)) : ct_ l D cy ka yX6_goOnAdding 1 23 [va_rf (some p0), .int p1] σ none z := by
  unfold f_X6_goOnAdding at hf
  refine v_start (cc := cX6_goOnAdding) (own := RX6) (maxL := 2) (ret := none) (nm := "goOnAdding") (by decide +kernel) kw_834 rfl rfl (by simp [lg_sl, va_rf_cat, cat_i, cat_l]) ?_
  refine v_eqL (L2 := [(0, va_rf (some p0)), (1, .int p1)]) (by simp [lv_args, va_rf_cat, cat_i, cat_l]) ?_
  refine v_aload_n (x := (some p0)) dX6_goOnAdding_0 rfl 0 rfl ?_
  obtain ⟨hk_p0, hf⟩ := gt_of hf
  refine v_geti cb_7 hk_p0 10 710 rfl (by decide) rfl (lk_n kw_87 rfl) hf dX6_goOnAdding_1 (fun x1 hf => ?_)
  refine v_bipush (v := 8) dX6_goOnAdding_4 (by decide) ?_
  refine v_bipush (v := 10) dX6_goOnAdding_6 (by decide) ?_
  obtain ⟨x2, s3, hcs3, hf⟩ := bd_of hf
  have hts3 := c_X11_within (l := l) (D := D) (cy := cy) (ka := ka) hcs3
  refine v_callSN (As := [.int x1, .int (8 : Int32), .int (10 : Int32)]) (rest := []) hts3 yb_X11_within kw_659 kw_305 rfl ⟨Nat.le_of_ble_eq_true rfl, Nat.le_of_ble_eq_true rfl⟩ rfl (cat_len (Nat.le_of_ble_eq_true rfl)) dX6_goOnAdding_8 ?_
  have hk_p0 := tk_ hts3.1 hk_p0
  show v_ l D cy ka cX6_goOnAdding RX6 2 none "goOnAdding" 1 23 (qf_ D cy σ z none) σ z _ 11 [(0, va_rf (some p0)), (1, .int p1)] [.int x2]
  refine v_if_ne (tgt := 24) hf dX6_goOnAdding_11 (by decide) (fun hq hf => ?_) (fun hq hf => ?_)
  · refine v_aload_n (x := (some p0)) dX6_goOnAdding_14 rfl 0 rfl ?_
    refine v_iconst (v := 1) dX6_goOnAdding_15 (by decide) ?_
    refine v_aload_n (x := (some p0)) dX6_goOnAdding_16 rfl 0 rfl ?_
    refine v_geti cb_7 hk_p0 9 709 rfl (by decide) rfl (lk_n kw_86 rfl) hf dX6_goOnAdding_17 (fun x4 hf => ?_)
    obtain ⟨x5, s6, hcs6, hf⟩ := bd_of hf
    have hts6 := c_X6_fail (l := l) (D := D) (cy := cy) (ka := ka) hcs6
    refine v_callV cb_7 hk_p0 (As := [.int (1 : Int32), .int x4]) (rest := []) hts6 yb_X6_fail kw_676 kw_678 kp_20 rfl ⟨Nat.le_of_ble_eq_true rfl, Nat.le_of_ble_eq_true rfl⟩ rfl (cat_len (Nat.le_of_ble_eq_true rfl)) dX6_goOnAdding_20 ?_
    have hk_p0 := tk_ hts6.1 hk_p0
    show v_ l D cy ka cX6_goOnAdding RX6 2 none "goOnAdding" 1 23 (qf_ D cy σ z none) σ z _ 23 [(0, va_rf (some p0)), (1, .int p1)] []
    exact v_vret hf dX6_goOnAdding_23
  · refine v_iload_n (x := p1) dX6_goOnAdding_24 rfl 1 rfl ?_
    refine v_bipush (v := 45) dX6_goOnAdding_25 (by decide) ?_
    refine v_icmp_ne (tgt := 37) hf dX6_goOnAdding_27 (by decide) (fun hq hf => ?_) (fun hq hf => ?_)
    · refine v_aload_n (x := (some p0)) dX6_goOnAdding_30 rfl 0 rfl ?_
      refine v_iconst (v := 3) dX6_goOnAdding_31 (by decide) ?_
      refine v_iconst (v := 0) dX6_goOnAdding_32 (by decide) ?_
      obtain ⟨x7, s8, hcs8, hf⟩ := bd_of hf
      have hts8 := c_X6_emit (l := l) (D := D) (cy := cy) (ka := ka) hcs8
      refine v_callV cb_7 hk_p0 (As := [.int (3 : Int32), .int (0 : Int32)]) (rest := []) hts8 yb_X6_emit kw_688 kw_690 kp_23 rfl ⟨Nat.le_of_ble_eq_true rfl, Nat.le_of_ble_eq_true rfl⟩ rfl (cat_len (Nat.le_of_ble_eq_true rfl)) dX6_goOnAdding_33 ?_
      have hk_p0 := tk_ hts8.1 hk_p0
      show v_ l D cy ka cX6_goOnAdding RX6 2 none "goOnAdding" 1 23 (qf_ D cy σ z none) σ z _ 36 [(0, va_rf (some p0)), (1, .int p1)] [.int x7]
      refine v_pop dX6_goOnAdding_36 rfl ?_
      refine v_sub [0] (L2 := [(0, va_rf (some p0))]) rfl ?_
      exact t_X6_goOnAdding_b37  hf
    · refine v_sub [0] (L2 := [(0, va_rf (some p0))]) rfl ?_
      exact t_X6_goOnAdding_b37  hf
theorem dX6_relate_0 : decode cX6_relate 0 = .ok (.aload_n 0, 1) := by decide +kernel
theorem dX6_relate_1 : decode cX6_relate 1 = .ok (.getfield 45, 3) := by decide +kernel
theorem dX6_relate_4 : decode cX6_relate 4 = .ok (.bipush 9, 2) := by decide +kernel
theorem dX6_relate_6 : decode cX6_relate 6 = .ok (.if_icmp .eq 13, 3) := by decide +kernel
theorem dX6_relate_9 : decode cX6_relate 9 = .ok (.aload_n 0, 1) := by decide +kernel
theorem dX6_relate_10 : decode cX6_relate 10 = .ok (.iconst 1, 1) := by decide +kernel
theorem dX6_relate_11 : decode cX6_relate 11 = .ok (.aload_n 0, 1) := by decide +kernel
theorem dX6_relate_12 : decode cX6_relate 12 = .ok (.getfield 42, 3) := by decide +kernel
theorem dX6_relate_15 : decode cX6_relate 15 = .ok (.invokevirtual 121, 3) := by decide +kernel
theorem dX6_relate_18 : decode cX6_relate 18 = .ok (.return_, 1) := by decide +kernel
theorem dX6_relate_19 : decode cX6_relate 19 = .ok (.aload_n 0, 1) := by decide +kernel
theorem dX6_relate_20 : decode cX6_relate 20 = .ok (.iconst 5, 1) := by decide +kernel
theorem dX6_relate_21 : decode cX6_relate 21 = .ok (.iload_n 1, 1) := by decide +kernel
theorem dX6_relate_22 : decode cX6_relate 22 = .ok (.invokevirtual 134, 3) := by decide +kernel
theorem dX6_relate_25 : decode cX6_relate 25 = .ok (.pop, 1) := by decide +kernel
theorem dX6_relate_26 : decode cX6_relate 26 = .ok (.aload_n 0, 1) := by decide +kernel
theorem dX6_relate_27 : decode cX6_relate 27 = .ok (.bipush 7, 2) := by decide +kernel
theorem dX6_relate_29 : decode cX6_relate 29 = .ok (.putfield 45, 3) := by decide +kernel
theorem dX6_relate_32 : decode cX6_relate 32 = .ok (.return_, 1) := by decide +kernel
/-- LivesAhead$Reader.relate(I)V -/
def f_X6_relate (σ : TH) (p0 : Nat) (p1 : Int32) : Option (Unit × TH) :=
  gt_ (kd_ σ p0 = 8) <| lt_ (fi_ σ 710 p0) fun x1 => if x1 = (9 : Int32) then (bd_ (f_X6_emit σ p0 (5 : Int32) p1) fun x2 s3 => lt_ (si_ s3 710 p0 (7 : Int32)) fun s4 => some ((), s4)) else (lt_ (fi_ σ 709 p0) fun x5 => bd_ (f_X6_fail σ p0 (1 : Int32) x5) fun x6 s7 => some ((), s7))
set_option maxHeartbeats 4000000 in
set_option maxRecDepth 100000 in
theorem c_X6_relate {l : Launch} {D : va_G} {cy : Nat → ClassId} {ka : Nat → Nat} {σ z : TH} {p0 : Nat} {p1 : Int32} {r : Unit} (hf : f_X6_relate σ p0 p1 = some (r, z)) : ct_ l D cy ka yX6_relate 1 23 [va_rf (some p0), .int p1] σ none z := by
  unfold f_X6_relate at hf
  refine v_start (cc := cX6_relate) (own := RX6) (maxL := 2) (ret := none) (nm := "relate") (by decide +kernel) kw_838 rfl rfl (by simp [lg_sl, va_rf_cat, cat_i, cat_l]) ?_
  refine v_eqL (L2 := [(0, va_rf (some p0)), (1, .int p1)]) (by simp [lv_args, va_rf_cat, cat_i, cat_l]) ?_
  refine v_aload_n (x := (some p0)) dX6_relate_0 rfl 0 rfl ?_
  obtain ⟨hk_p0, hf⟩ := gt_of hf
  refine v_geti cb_7 hk_p0 10 710 rfl (by decide) rfl (lk_n kw_87 rfl) hf dX6_relate_1 (fun x1 hf => ?_)
  refine v_bipush (v := 9) dX6_relate_4 (by decide) ?_
  refine v_icmp_eq (tgt := 19) hf dX6_relate_6 (by decide) (fun hq hf => ?_) (fun hq hf => ?_)
  · refine v_aload_n (x := (some p0)) dX6_relate_19 rfl 0 rfl ?_
    refine v_iconst (v := 5) dX6_relate_20 (by decide) ?_
    refine v_iload_n (x := p1) dX6_relate_21 rfl 1 rfl ?_
    obtain ⟨x2, s3, hcs3, hf⟩ := bd_of hf
    have hts3 := c_X6_emit (l := l) (D := D) (cy := cy) (ka := ka) hcs3
    refine v_callV cb_7 hk_p0 (As := [.int (5 : Int32), .int p1]) (rest := []) hts3 yb_X6_emit kw_688 kw_690 kp_23 rfl ⟨Nat.le_of_ble_eq_true rfl, Nat.le_of_ble_eq_true rfl⟩ rfl (cat_len (Nat.le_of_ble_eq_true rfl)) dX6_relate_22 ?_
    have hk_p0 := tk_ hts3.1 hk_p0
    show v_ l D cy ka cX6_relate RX6 2 none "relate" 1 23 (qf_ D cy σ z none) σ z _ 25 [(0, va_rf (some p0)), (1, .int p1)] [.int x2]
    refine v_pop dX6_relate_25 rfl ?_
    refine v_aload_n (x := (some p0)) dX6_relate_26 rfl 0 rfl ?_
    refine v_bipush (v := 7) dX6_relate_27 (by decide) ?_
    refine v_puti2 cb_7 hk_p0 10 710 rfl (by decide) rfl (lk_n kw_87 rfl) (Or.inl rfl) rfl rfl hf dX6_relate_29 (fun s4 hts4 hf => ?_)
    have hk_p0 := tk_ hts4 hk_p0
    exact v_vret hf dX6_relate_32
  · refine v_aload_n (x := (some p0)) dX6_relate_9 rfl 0 rfl ?_
    refine v_iconst (v := 1) dX6_relate_10 (by decide) ?_
    refine v_aload_n (x := (some p0)) dX6_relate_11 rfl 0 rfl ?_
    refine v_geti cb_7 hk_p0 9 709 rfl (by decide) rfl (lk_n kw_86 rfl) hf dX6_relate_12 (fun x5 hf => ?_)
    obtain ⟨x6, s7, hcs7, hf⟩ := bd_of hf
    have hts7 := c_X6_fail (l := l) (D := D) (cy := cy) (ka := ka) hcs7
    refine v_callV cb_7 hk_p0 (As := [.int (1 : Int32), .int x5]) (rest := []) hts7 yb_X6_fail kw_676 kw_678 kp_20 rfl ⟨Nat.le_of_ble_eq_true rfl, Nat.le_of_ble_eq_true rfl⟩ rfl (cat_len (Nat.le_of_ble_eq_true rfl)) dX6_relate_15 ?_
    have hk_p0 := tk_ hts7.1 hk_p0
    show v_ l D cy ka cX6_relate RX6 2 none "relate" 1 23 (qf_ D cy σ z none) σ z _ 18 [(0, va_rf (some p0)), (1, .int p1)] []
    exact v_vret hf dX6_relate_18
theorem dX6_takeTerm_0 : decode cX6_takeTerm 0 = .ok (.aload_n 0, 1) := by decide +kernel
theorem dX6_takeTerm_1 : decode cX6_takeTerm 1 = .ok (.dup, 1) := by decide +kernel
theorem dX6_takeTerm_2 : decode cX6_takeTerm 2 = .ok (.getfield 66, 3) := by decide +kernel
theorem dX6_takeTerm_5 : decode cX6_takeTerm 5 = .ok (.iconst 1, 1) := by decide +kernel
theorem dX6_takeTerm_6 : decode cX6_takeTerm 6 = .ok (.iadd, 1) := by decide +kernel
theorem dX6_takeTerm_7 : decode cX6_takeTerm 7 = .ok (.putfield 66, 3) := by decide +kernel
theorem dX6_takeTerm_10 : decode cX6_takeTerm 10 = .ok (.aload_n 0, 1) := by decide +kernel
theorem dX6_takeTerm_11 : decode cX6_takeTerm 11 = .ok (.getfield 66, 3) := by decide +kernel
theorem dX6_takeTerm_14 : decode cX6_takeTerm 14 = .ok (.bipush 30, 2) := by decide +kernel
theorem dX6_takeTerm_16 : decode cX6_takeTerm 16 = .ok (.if_icmp .le 10, 3) := by decide +kernel
theorem dX6_takeTerm_19 : decode cX6_takeTerm 19 = .ok (.aload_n 0, 1) := by decide +kernel
theorem dX6_takeTerm_20 : decode cX6_takeTerm 20 = .ok (.iconst 3, 1) := by decide +kernel
theorem dX6_takeTerm_21 : decode cX6_takeTerm 21 = .ok (.iload_n 3, 1) := by decide +kernel
theorem dX6_takeTerm_22 : decode cX6_takeTerm 22 = .ok (.invokevirtual 121, 3) := by decide +kernel
theorem dX6_takeTerm_25 : decode cX6_takeTerm 25 = .ok (.return_, 1) := by decide +kernel
theorem dX6_takeTerm_26 : decode cX6_takeTerm 26 = .ok (.aload_n 0, 1) := by decide +kernel
theorem dX6_takeTerm_27 : decode cX6_takeTerm 27 = .ok (.iload_n 1, 1) := by decide +kernel
theorem dX6_takeTerm_28 : decode cX6_takeTerm 28 = .ok (.iload_n 2, 1) := by decide +kernel
theorem dX6_takeTerm_29 : decode cX6_takeTerm 29 = .ok (.invokevirtual 134, 3) := by decide +kernel
theorem dX6_takeTerm_32 : decode cX6_takeTerm 32 = .ok (.pop, 1) := by decide +kernel
theorem dX6_takeTerm_33 : decode cX6_takeTerm 33 = .ok (.aload_n 0, 1) := by decide +kernel
theorem dX6_takeTerm_34 : decode cX6_takeTerm 34 = .ok (.getfield 45, 3) := by decide +kernel
theorem dX6_takeTerm_37 : decode cX6_takeTerm 37 = .ok (.iconst 1, 1) := by decide +kernel
theorem dX6_takeTerm_38 : decode cX6_takeTerm 38 = .ok (.if_icmp .eq 11, 3) := by decide +kernel
theorem dX6_takeTerm_41 : decode cX6_takeTerm 41 = .ok (.aload_n 0, 1) := by decide +kernel
theorem dX6_takeTerm_42 : decode cX6_takeTerm 42 = .ok (.getfield 45, 3) := by decide +kernel
theorem dX6_takeTerm_45 : decode cX6_takeTerm 45 = .ok (.iconst 5, 1) := by decide +kernel
theorem dX6_takeTerm_46 : decode cX6_takeTerm 46 = .ok (.if_icmp .ne 12, 3) := by decide +kernel
theorem dX6_takeTerm_49 : decode cX6_takeTerm 49 = .ok (.aload_n 0, 1) := by decide +kernel
theorem dX6_takeTerm_50 : decode cX6_takeTerm 50 = .ok (.bipush 8, 2) := by decide +kernel
theorem dX6_takeTerm_52 : decode cX6_takeTerm 52 = .ok (.putfield 45, 3) := by decide +kernel
theorem dX6_takeTerm_55 : decode cX6_takeTerm 55 = .ok (.goto 23, 3) := by decide +kernel
theorem dX6_takeTerm_58 : decode cX6_takeTerm 58 = .ok (.aload_n 0, 1) := by decide +kernel
theorem dX6_takeTerm_59 : decode cX6_takeTerm 59 = .ok (.aload_n 0, 1) := by decide +kernel
theorem dX6_takeTerm_60 : decode cX6_takeTerm 60 = .ok (.getfield 45, 3) := by decide +kernel
theorem dX6_takeTerm_63 : decode cX6_takeTerm 63 = .ok (.bipush 7, 2) := by decide +kernel
theorem dX6_takeTerm_65 : decode cX6_takeTerm 65 = .ok (.if_icmp .ne 8, 3) := by decide +kernel
theorem dX6_takeTerm_68 : decode cX6_takeTerm 68 = .ok (.bipush 10, 2) := by decide +kernel
theorem dX6_takeTerm_70 : decode cX6_takeTerm 70 = .ok (.goto 5, 3) := by decide +kernel
theorem dX6_takeTerm_73 : decode cX6_takeTerm 73 = .ok (.bipush 9, 2) := by decide +kernel
theorem dX6_takeTerm_75 : decode cX6_takeTerm 75 = .ok (.putfield 45, 3) := by decide +kernel
theorem dX6_takeTerm_78 : decode cX6_takeTerm 78 = .ok (.return_, 1) := by decide +kernel
def f_X6_takeTerm_b78 (σ : TH) : Option (Unit × TH) :=
  some ((), σ)
set_option maxHeartbeats 4000000 in
set_option maxRecDepth 100000 in
theorem t_X6_takeTerm_b78 {l : Launch} {D : va_G} {cy : Nat → ClassId} {ka : Nat → Nat} {σ0 z : TH} {r : Unit}  {σ : TH}  (hf : f_X6_takeTerm_b78 σ  = some (r, z)) : v_ l D cy ka cX6_takeTerm RX6 4 none "takeTerm" 1 23 (qf_ D cy σ0 z none) σ0 z σ 78 [] [] := by
  unfold f_X6_takeTerm_b78 at hf
  exact v_vret hf dX6_takeTerm_78
def f_X6_takeTerm_b49 (σ : TH) (l0 : Nat) : Option (Unit × TH) :=
  gt_ (kd_ σ l0 = 8) <| lt_ (si_ σ 710 l0 (8 : Int32)) fun s7 => f_X6_takeTerm_b78 s7 
set_option maxHeartbeats 4000000 in
set_option maxRecDepth 100000 in
theorem t_X6_takeTerm_b49 {l : Launch} {D : va_G} {cy : Nat → ClassId} {ka : Nat → Nat} {σ0 z : TH} {r : Unit}  {σ : TH} {l0 : Nat} (hf : f_X6_takeTerm_b49 σ l0 = some (r, z)) : v_ l D cy ka cX6_takeTerm RX6 4 none "takeTerm" 1 23 (qf_ D cy σ0 z none) σ0 z σ 49 [(0, va_rf (some l0))] [] := by
  unfold f_X6_takeTerm_b49 at hf
  refine v_aload_n (x := (some l0)) dX6_takeTerm_49 rfl 0 rfl ?_
  refine v_bipush (v := 8) dX6_takeTerm_50 (by decide) ?_
  obtain ⟨hk_l0, hf⟩ := gt_of hf
  refine v_puti2 cb_7 hk_l0 10 710 rfl (by decide) rfl (lk_n kw_87 rfl) (Or.inl rfl) rfl rfl hf dX6_takeTerm_52 (fun s7 hts7 hf => ?_)
  have hk_l0 := tk_ hts7 hk_l0
  refine v_goto (tgt := 78) dX6_takeTerm_55 (by decide) ?_
  refine v_sub [] (L2 := []) rfl ?_
  exact t_X6_takeTerm_b78  hf
def f_X6_takeTerm_b75 (σ : TH) (t0 : Int32) (t1 : Option Nat) : Option (Unit × TH) :=
  nn_ t1 fun a10 => gt_ (kd_ σ a10 = 8) <| lt_ (si_ σ 710 a10 t0) fun s11 => f_X6_takeTerm_b78 s11 
set_option maxHeartbeats 4000000 in
set_option maxRecDepth 100000 in
theorem t_X6_takeTerm_b75 {l : Launch} {D : va_G} {cy : Nat → ClassId} {ka : Nat → Nat} {σ0 z : TH} {r : Unit}  {σ : TH} {t0 : Int32} {t1 : Option Nat} (hf : f_X6_takeTerm_b75 σ t0 t1 = some (r, z)) : v_ l D cy ka cX6_takeTerm RX6 4 none "takeTerm" 1 23 (qf_ D cy σ0 z none) σ0 z σ 75 [] [.int t0, va_rf t1] := by
  unfold f_X6_takeTerm_b75 at hf
  obtain ⟨a10, rfl, hf⟩ := nn_of hf
  obtain ⟨hk_a10, hf⟩ := gt_of hf
  refine v_puti2 cb_7 hk_a10 10 710 rfl (by decide) rfl (lk_n kw_87 rfl) (Or.inl rfl) rfl rfl hf dX6_takeTerm_75 (fun s11 hts11 hf => ?_)
  refine v_sub [] (L2 := []) rfl ?_
  exact t_X6_takeTerm_b78  hf
/-- LivesAhead$Reader.takeTerm(III)V -/
def f_X6_takeTerm (σ : TH) (p0 : Nat) (p1 : Int32) (p2 : Int32) (p3 : Int32) : Option (Unit × TH) :=
  gt_ (kd_ σ p0 = 8) <| lt_ (fi_ σ 717 p0) fun x1 => lt_ (si_ σ 717 p0 (x1 + (1 : Int32))) fun s2 => lt_ (fi_ s2 717 p0) fun x3 => if x3 ≤ (30 : Int32) then (bd_ (f_X6_emit s2 p0 p1 p2) fun x4 s5 => lt_ (fi_ s5 710 p0) fun x6 => if x6 = (1 : Int32) then (f_X6_takeTerm_b49 s5 p0) else (lt_ (fi_ s5 710 p0) fun x8 => if x8 = (5 : Int32) then (f_X6_takeTerm_b49 s5 p0) else (lt_ (fi_ s5 710 p0) fun x9 => if x9 = (7 : Int32) then (f_X6_takeTerm_b75 s5 (10 : Int32) (some p0)) else (f_X6_takeTerm_b75 s5 (9 : Int32) (some p0))))) else (bd_ (f_X6_fail s2 p0 (3 : Int32) p3) fun x12 s13 => some ((), s13))
set_option maxHeartbeats 4000000 in
set_option maxRecDepth 100000 in
theorem c_X6_takeTerm {l : Launch} {D : va_G} {cy : Nat → ClassId} {ka : Nat → Nat} {σ z : TH} {p0 : Nat} {p1 : Int32} {p2 : Int32} {p3 : Int32} {r : Unit} (hf : f_X6_takeTerm σ p0 p1 p2 p3 = some (r, z)) : ct_ l D cy ka yX6_takeTerm 1 23 [va_rf (some p0), .int p1, .int p2, .int p3] σ none z := by
  unfold f_X6_takeTerm at hf
  refine v_start (cc := cX6_takeTerm) (own := RX6) (maxL := 4) (ret := none) (nm := "takeTerm") (by decide +kernel) kw_822 rfl rfl (by simp [lg_sl, va_rf_cat, cat_i, cat_l]) ?_
  refine v_eqL (L2 := [(0, va_rf (some p0)), (1, .int p1), (2, .int p2), (3, .int p3)]) (by simp [lv_args, va_rf_cat, cat_i, cat_l]) ?_
  refine v_aload_n (x := (some p0)) dX6_takeTerm_0 rfl 0 rfl ?_
  refine v_dup dX6_takeTerm_1 (va_rf_cat _) ?_
  obtain ⟨hk_p0, hf⟩ := gt_of hf
  refine v_geti cb_7 hk_p0 17 717 rfl (by decide) rfl (lk_n kw_94 rfl) hf dX6_takeTerm_2 (fun x1 hf => ?_)
  refine v_iconst (v := 1) dX6_takeTerm_5 (by decide) ?_
  refine v_iadd dX6_takeTerm_6 ?_
  refine v_puti2 cb_7 hk_p0 17 717 rfl (by decide) rfl (lk_n kw_94 rfl) (Or.inl rfl) rfl rfl hf dX6_takeTerm_7 (fun s2 hts2 hf => ?_)
  have hk_p0 := tk_ hts2 hk_p0
  refine v_aload_n (x := (some p0)) dX6_takeTerm_10 rfl 0 rfl ?_
  refine v_geti cb_7 hk_p0 17 717 rfl (by decide) rfl (lk_n kw_94 rfl) hf dX6_takeTerm_11 (fun x3 hf => ?_)
  refine v_bipush (v := 30) dX6_takeTerm_14 (by decide) ?_
  refine v_icmp_le (tgt := 26) hf dX6_takeTerm_16 (by decide) (fun hq hf => ?_) (fun hq hf => ?_)
  · refine v_aload_n (x := (some p0)) dX6_takeTerm_26 rfl 0 rfl ?_
    refine v_iload_n (x := p1) dX6_takeTerm_27 rfl 1 rfl ?_
    refine v_iload_n (x := p2) dX6_takeTerm_28 rfl 2 rfl ?_
    obtain ⟨x4, s5, hcs5, hf⟩ := bd_of hf
    have hts5 := c_X6_emit (l := l) (D := D) (cy := cy) (ka := ka) hcs5
    refine v_callV cb_7 hk_p0 (As := [.int p1, .int p2]) (rest := []) hts5 yb_X6_emit kw_688 kw_690 kp_23 rfl ⟨Nat.le_of_ble_eq_true rfl, Nat.le_of_ble_eq_true rfl⟩ rfl (cat_len (Nat.le_of_ble_eq_true rfl)) dX6_takeTerm_29 ?_
    have hk_p0 := tk_ hts5.1 hk_p0
    show v_ l D cy ka cX6_takeTerm RX6 4 none "takeTerm" 1 23 (qf_ D cy σ z none) σ z _ 32 [(0, va_rf (some p0)), (1, .int p1), (2, .int p2), (3, .int p3)] [.int x4]
    refine v_pop dX6_takeTerm_32 rfl ?_
    refine v_aload_n (x := (some p0)) dX6_takeTerm_33 rfl 0 rfl ?_
    refine v_geti cb_7 hk_p0 10 710 rfl (by decide) rfl (lk_n kw_87 rfl) hf dX6_takeTerm_34 (fun x6 hf => ?_)
    refine v_iconst (v := 1) dX6_takeTerm_37 (by decide) ?_
    refine v_icmp_eq (tgt := 49) hf dX6_takeTerm_38 (by decide) (fun hq hf => ?_) (fun hq hf => ?_)
    · refine v_sub [0] (L2 := [(0, va_rf (some p0))]) rfl ?_
      exact t_X6_takeTerm_b49  hf
    · refine v_aload_n (x := (some p0)) dX6_takeTerm_41 rfl 0 rfl ?_
      refine v_geti cb_7 hk_p0 10 710 rfl (by decide) rfl (lk_n kw_87 rfl) hf dX6_takeTerm_42 (fun x8 hf => ?_)
      refine v_iconst (v := 5) dX6_takeTerm_45 (by decide) ?_
      refine v_icmp_ne (tgt := 58) hf dX6_takeTerm_46 (by decide) (fun hq hf => ?_) (fun hq hf => ?_)
      · refine v_sub [0] (L2 := [(0, va_rf (some p0))]) rfl ?_
        exact t_X6_takeTerm_b49  hf
      · refine v_aload_n (x := (some p0)) dX6_takeTerm_58 rfl 0 rfl ?_
        refine v_aload_n (x := (some p0)) dX6_takeTerm_59 rfl 0 rfl ?_
        refine v_geti cb_7 hk_p0 10 710 rfl (by decide) rfl (lk_n kw_87 rfl) hf dX6_takeTerm_60 (fun x9 hf => ?_)
        refine v_bipush (v := 7) dX6_takeTerm_63 (by decide) ?_
        refine v_icmp_ne (tgt := 73) hf dX6_takeTerm_65 (by decide) (fun hq hf => ?_) (fun hq hf => ?_)
        · refine v_bipush (v := 10) dX6_takeTerm_68 (by decide) ?_
          refine v_goto (tgt := 75) dX6_takeTerm_70 (by decide) ?_
          refine v_sub [] (L2 := []) rfl ?_
          exact t_X6_takeTerm_b75  hf
        · refine v_bipush (v := 9) dX6_takeTerm_73 (by decide) ?_
          refine v_sub [] (L2 := []) rfl ?_
          exact t_X6_takeTerm_b75  hf
  · refine v_aload_n (x := (some p0)) dX6_takeTerm_19 rfl 0 rfl ?_
    refine v_iconst (v := 3) dX6_takeTerm_20 (by decide) ?_
    refine v_iload_n (x := p3) dX6_takeTerm_21 rfl 3 rfl ?_
    obtain ⟨x12, s13, hcs13, hf⟩ := bd_of hf
    have hts13 := c_X6_fail (l := l) (D := D) (cy := cy) (ka := ka) hcs13
    refine v_callV cb_7 hk_p0 (As := [.int (3 : Int32), .int p3]) (rest := []) hts13 yb_X6_fail kw_676 kw_678 kp_20 rfl ⟨Nat.le_of_ble_eq_true rfl, Nat.le_of_ble_eq_true rfl⟩ rfl (cat_len (Nat.le_of_ble_eq_true rfl)) dX6_takeTerm_22 ?_
    have hk_p0 := tk_ hts13.1 hk_p0
    show v_ l D cy ka cX6_takeTerm RX6 4 none "takeTerm" 1 23 (qf_ D cy σ z none) σ z _ 25 [(0, va_rf (some p0)), (1, .int p1), (2, .int p2), (3, .int p3)] []
    exact v_vret hf dX6_takeTerm_25
theorem dX6_termMayCome_0 : decode cX6_termMayCome 0 = .ok (.aload_n 0, 1) := by decide +kernel
theorem dX6_termMayCome_1 : decode cX6_termMayCome 1 = .ok (.getfield 45, 3) := by decide +kernel
theorem dX6_termMayCome_4 : decode cX6_termMayCome 4 = .ok (.iconst 1, 1) := by decide +kernel
theorem dX6_termMayCome_5 : decode cX6_termMayCome 5 = .ok (.if_icmp .eq 24, 3) := by decide +kernel
theorem dX6_termMayCome_8 : decode cX6_termMayCome 8 = .ok (.aload_n 0, 1) := by decide +kernel
theorem dX6_termMayCome_9 : decode cX6_termMayCome 9 = .ok (.getfield 45, 3) := by decide +kernel
theorem dX6_termMayCome_12 : decode cX6_termMayCome 12 = .ok (.iconst 2, 1) := by decide +kernel
theorem dX6_termMayCome_13 : decode cX6_termMayCome 13 = .ok (.if_icmp .eq 16, 3) := by decide +kernel
theorem dX6_termMayCome_16 : decode cX6_termMayCome 16 = .ok (.aload_n 0, 1) := by decide +kernel
theorem dX6_termMayCome_17 : decode cX6_termMayCome 17 = .ok (.getfield 45, 3) := by decide +kernel
theorem dX6_termMayCome_20 : decode cX6_termMayCome 20 = .ok (.iconst 5, 1) := by decide +kernel
theorem dX6_termMayCome_21 : decode cX6_termMayCome 21 = .ok (.bipush 7, 2) := by decide +kernel
theorem dX6_termMayCome_23 : decode cX6_termMayCome 23 = .ok (.invokestatic 72, 3) := by decide +kernel
theorem dX6_termMayCome_26 : decode cX6_termMayCome 26 = .ok (.ifCond .eq 7, 3) := by decide +kernel
theorem dX6_termMayCome_29 : decode cX6_termMayCome 29 = .ok (.iconst 1, 1) := by decide +kernel
theorem dX6_termMayCome_30 : decode cX6_termMayCome 30 = .ok (.goto 4, 3) := by decide +kernel
theorem dX6_termMayCome_33 : decode cX6_termMayCome 33 = .ok (.iconst 0, 1) := by decide +kernel
theorem dX6_termMayCome_34 : decode cX6_termMayCome 34 = .ok (.ireturn, 1) := by decide +kernel
def f_X6_termMayCome_b34 (σ : TH) (t0 : Int32) : Option (Int32 × TH) :=
  gt_ (t0 = 0 ∨ t0 = 1) <| some (t0, σ)
set_option maxHeartbeats 4000000 in
set_option maxRecDepth 100000 in
theorem t_X6_termMayCome_b34 {l : Launch} {D : va_G} {cy : Nat → ClassId} {ka : Nat → Nat} {σ0 z : TH} {r : Int32}  {σ : TH} {t0 : Int32} (hf : f_X6_termMayCome_b34 σ t0 = some (r, z)) : v_ l D cy ka cX6_termMayCome RX6 1 (some FieldType.boolean) "termMayCome" 1 22 (qf_ D cy σ0 z (some (.int r))) σ0 z σ 34 [] [.int t0] := by
  unfold f_X6_termMayCome_b34 at hf
  obtain ⟨hb9, hf⟩ := gt_of hf
  exact v_zret hf (nz_ hb9) dX6_termMayCome_34
def f_X6_termMayCome_b29 (σ : TH) : Option (Int32 × TH) :=
  f_X6_termMayCome_b34 σ (1 : Int32)
set_option maxHeartbeats 4000000 in
set_option maxRecDepth 100000 in
theorem t_X6_termMayCome_b29 {l : Launch} {D : va_G} {cy : Nat → ClassId} {ka : Nat → Nat} {σ0 z : TH} {r : Int32}  {σ : TH}  (hf : f_X6_termMayCome_b29 σ  = some (r, z)) : v_ l D cy ka cX6_termMayCome RX6 1 (some FieldType.boolean) "termMayCome" 1 22 (qf_ D cy σ0 z (some (.int r))) σ0 z σ 29 [] [] := by
  unfold f_X6_termMayCome_b29 at hf
  refine v_iconst (v := 1) dX6_termMayCome_29 (by decide) ?_
  refine v_goto (tgt := 34) dX6_termMayCome_30 (by decide) ?_
  refine v_sub [] (L2 := []) rfl ?_
  exact t_X6_termMayCome_b34  hf
/-- LivesAhead$Reader.termMayCome()Z -/
def f_X6_termMayCome (σ : TH) (p0 : Nat) : Option (Int32 × TH) :=
  gt_ (kd_ σ p0 = 8) <| lt_ (fi_ σ 710 p0) fun x1 => if x1 = (1 : Int32) then (f_X6_termMayCome_b29 σ ) else (lt_ (fi_ σ 710 p0) fun x2 => if x2 = (2 : Int32) then (f_X6_termMayCome_b29 σ ) else (lt_ (fi_ σ 710 p0) fun x3 => bd_ (f_X11_within σ x3 (5 : Int32) (7 : Int32)) fun x4 s5 => if x4 = 0 then (f_X6_termMayCome_b34 s5 (0 : Int32)) else (f_X6_termMayCome_b29 s5 )))
set_option maxHeartbeats 4000000 in
set_option maxRecDepth 100000 in
theorem c_X6_termMayCome {l : Launch} {D : va_G} {cy : Nat → ClassId} {ka : Nat → Nat} {σ z : TH} {p0 : Nat} {r : Int32} (hf : f_X6_termMayCome σ p0 = some (r, z)) : ct_ l D cy ka yX6_termMayCome 1 22 [va_rf (some p0)] σ (some (.int r)) z := by
  unfold f_X6_termMayCome at hf
  refine v_start (cc := cX6_termMayCome) (own := RX6) (maxL := 1) (ret := (some FieldType.boolean)) (nm := "termMayCome") (by decide +kernel) kw_814 rfl rfl (by simp [lg_sl, va_rf_cat, cat_i, cat_l]) ?_
  refine v_eqL (L2 := [(0, va_rf (some p0))]) (by simp [lv_args, va_rf_cat, cat_i, cat_l]) ?_
  refine v_aload_n (x := (some p0)) dX6_termMayCome_0 rfl 0 rfl ?_
  obtain ⟨hk_p0, hf⟩ := gt_of hf
  refine v_geti cb_7 hk_p0 10 710 rfl (by decide) rfl (lk_n kw_87 rfl) hf dX6_termMayCome_1 (fun x1 hf => ?_)
  refine v_iconst (v := 1) dX6_termMayCome_4 (by decide) ?_
  refine v_icmp_eq (tgt := 29) hf dX6_termMayCome_5 (by decide) (fun hq hf => ?_) (fun hq hf => ?_)
  · refine v_sub [] (L2 := []) rfl ?_
    exact t_X6_termMayCome_b29  hf
  · refine v_aload_n (x := (some p0)) dX6_termMayCome_8 rfl 0 rfl ?_
    refine v_geti cb_7 hk_p0 10 710 rfl (by decide) rfl (lk_n kw_87 rfl) hf dX6_termMayCome_9 (fun x2 hf => ?_)
    refine v_iconst (v := 2) dX6_termMayCome_12 (by decide) ?_
    refine v_icmp_eq (tgt := 29) hf dX6_termMayCome_13 (by decide) (fun hq hf => ?_) (fun hq hf => ?_)
    · refine v_sub [] (L2 := []) rfl ?_
      exact t_X6_termMayCome_b29  hf
    · refine v_aload_n (x := (some p0)) dX6_termMayCome_16 rfl 0 rfl ?_
      refine v_geti cb_7 hk_p0 10 710 rfl (by decide) rfl (lk_n kw_87 rfl) hf dX6_termMayCome_17 (fun x3 hf => ?_)
      refine v_iconst (v := 5) dX6_termMayCome_20 (by decide) ?_
      refine v_bipush (v := 7) dX6_termMayCome_21 (by decide) ?_
      obtain ⟨x4, s5, hcs5, hf⟩ := bd_of hf
      have hts5 := c_X11_within (l := l) (D := D) (cy := cy) (ka := ka) hcs5
      refine v_callSN (As := [.int x3, .int (5 : Int32), .int (7 : Int32)]) (rest := []) hts5 yb_X11_within kw_659 kw_305 rfl ⟨Nat.le_of_ble_eq_true rfl, Nat.le_of_ble_eq_true rfl⟩ rfl (cat_len (Nat.le_of_ble_eq_true rfl)) dX6_termMayCome_23 ?_
      have hk_p0 := tk_ hts5.1 hk_p0
      show v_ l D cy ka cX6_termMayCome RX6 1 (some FieldType.boolean) "termMayCome" 1 22 (qf_ D cy σ z (some (.int r))) σ z _ 26 [(0, va_rf (some p0))] [.int x4]
      refine v_if_eq (tgt := 33) hf dX6_termMayCome_26 (by decide) (fun hq hf => ?_) (fun hq hf => ?_)
      · refine v_iconst (v := 0) dX6_termMayCome_33 (by decide) ?_
        refine v_sub [] (L2 := []) rfl ?_
        exact t_X6_termMayCome_b34  hf
      · refine v_sub [] (L2 := []) rfl ?_
        exact t_X6_termMayCome_b29  hf
theorem dX6_readWhole_0 : decode cX6_readWhole 0 = .ok (.aload_n 0, 1) := by decide +kernel
theorem dX6_readWhole_1 : decode cX6_readWhole 1 = .ok (.getfield 42, 3) := by decide +kernel
theorem dX6_readWhole_4 : decode cX6_readWhole 4 = .ok (.istore_n 1, 1) := by decide +kernel
theorem dX6_readWhole_5 : decode cX6_readWhole 5 = .ok (.iconst 0, 1) := by decide +kernel
theorem dX6_readWhole_6 : decode cX6_readWhole 6 = .ok (.istore_n 2, 1) := by decide +kernel
theorem dX6_readWhole_7 : decode cX6_readWhole 7 = .ok (.iconst 0, 1) := by decide +kernel
theorem dX6_readWhole_8 : decode cX6_readWhole 8 = .ok (.istore_n 3, 1) := by decide +kernel
theorem dX6_readWhole_9 : decode cX6_readWhole 9 = .ok (.iload_n 2, 1) := by decide +kernel
theorem dX6_readWhole_10 : decode cX6_readWhole 10 = .ok (.sipush 400, 3) := by decide +kernel
theorem dX6_readWhole_13 : decode cX6_readWhole 13 = .ok (.if_icmp .ge 47, 3) := by decide +kernel
theorem dX6_readWhole_16 : decode cX6_readWhole 16 = .ok (.aload_n 0, 1) := by decide +kernel
theorem dX6_readWhole_17 : decode cX6_readWhole 17 = .ok (.iload_n 1, 1) := by decide +kernel
theorem dX6_readWhole_18 : decode cX6_readWhole 18 = .ok (.iload_n 2, 1) := by decide +kernel
theorem dX6_readWhole_19 : decode cX6_readWhole 19 = .ok (.iadd, 1) := by decide +kernel
theorem dX6_readWhole_20 : decode cX6_readWhole 20 = .ok (.invokevirtual 80, 3) := by decide +kernel
theorem dX6_readWhole_23 : decode cX6_readWhole 23 = .ok (.invokestatic 95, 3) := by decide +kernel
theorem dX6_readWhole_26 : decode cX6_readWhole 26 = .ok (.ifCond .eq 34, 3) := by decide +kernel
theorem dX6_readWhole_29 : decode cX6_readWhole 29 = .ok (.iload_n 2, 1) := by decide +kernel
theorem dX6_readWhole_30 : decode cX6_readWhole 30 = .ok (.iconst 4, 1) := by decide +kernel
theorem dX6_readWhole_31 : decode cX6_readWhole 31 = .ok (.if_icmp .ge 21, 3) := by decide +kernel
theorem dX6_readWhole_34 : decode cX6_readWhole 34 = .ok (.iload_n 3, 1) := by decide +kernel
theorem dX6_readWhole_35 : decode cX6_readWhole 35 = .ok (.bipush 10, 2) := by decide +kernel
theorem dX6_readWhole_37 : decode cX6_readWhole 37 = .ok (.imul, 1) := by decide +kernel
theorem dX6_readWhole_38 : decode cX6_readWhole 38 = .ok (.aload_n 0, 1) := by decide +kernel
theorem dX6_readWhole_39 : decode cX6_readWhole 39 = .ok (.iload_n 1, 1) := by decide +kernel
theorem dX6_readWhole_40 : decode cX6_readWhole 40 = .ok (.iload_n 2, 1) := by decide +kernel
theorem dX6_readWhole_41 : decode cX6_readWhole 41 = .ok (.iadd, 1) := by decide +kernel
theorem dX6_readWhole_42 : decode cX6_readWhole 42 = .ok (.invokevirtual 80, 3) := by decide +kernel
theorem dX6_readWhole_45 : decode cX6_readWhole 45 = .ok (.iadd, 1) := by decide +kernel
theorem dX6_readWhole_46 : decode cX6_readWhole 46 = .ok (.bipush 48, 2) := by decide +kernel
theorem dX6_readWhole_48 : decode cX6_readWhole 48 = .ok (.isub, 1) := by decide +kernel
theorem dX6_readWhole_49 : decode cX6_readWhole 49 = .ok (.goto 4, 3) := by decide +kernel
theorem dX6_readWhole_52 : decode cX6_readWhole 52 = .ok (.iload_n 3, 1) := by decide +kernel
theorem dX6_readWhole_53 : decode cX6_readWhole 53 = .ok (.istore_n 3, 1) := by decide +kernel
theorem dX6_readWhole_54 : decode cX6_readWhole 54 = .ok (.iinc 2 1, 3) := by decide +kernel
theorem dX6_readWhole_57 : decode cX6_readWhole 57 = .ok (.goto (-48), 3) := by decide +kernel
theorem dX6_readWhole_60 : decode cX6_readWhole 60 = .ok (.aload_n 0, 1) := by decide +kernel
theorem dX6_readWhole_61 : decode cX6_readWhole 61 = .ok (.iload_n 1, 1) := by decide +kernel
theorem dX6_readWhole_62 : decode cX6_readWhole 62 = .ok (.iload_n 2, 1) := by decide +kernel
theorem dX6_readWhole_63 : decode cX6_readWhole 63 = .ok (.iadd, 1) := by decide +kernel
theorem dX6_readWhole_64 : decode cX6_readWhole 64 = .ok (.putfield 42, 3) := by decide +kernel
theorem dX6_readWhole_67 : decode cX6_readWhole 67 = .ok (.iload_n 2, 1) := by decide +kernel
theorem dX6_readWhole_68 : decode cX6_readWhole 68 = .ok (.iconst 4, 1) := by decide +kernel
theorem dX6_readWhole_69 : decode cX6_readWhole 69 = .ok (.if_icmp .gt 10, 3) := by decide +kernel
theorem dX6_readWhole_72 : decode cX6_readWhole 72 = .ok (.aload_n 0, 1) := by decide +kernel
theorem dX6_readWhole_73 : decode cX6_readWhole 73 = .ok (.invokevirtual 147, 3) := by decide +kernel
theorem dX6_readWhole_76 : decode cX6_readWhole 76 = .ok (.ifCond .ne 12, 3) := by decide +kernel
theorem dX6_readWhole_79 : decode cX6_readWhole 79 = .ok (.aload_n 0, 1) := by decide +kernel
theorem dX6_readWhole_80 : decode cX6_readWhole 80 = .ok (.iconst 1, 1) := by decide +kernel
theorem dX6_readWhole_81 : decode cX6_readWhole 81 = .ok (.iload_n 1, 1) := by decide +kernel
theorem dX6_readWhole_82 : decode cX6_readWhole 82 = .ok (.invokevirtual 121, 3) := by decide +kernel
theorem dX6_readWhole_85 : decode cX6_readWhole 85 = .ok (.goto 10, 3) := by decide +kernel
theorem dX6_readWhole_88 : decode cX6_readWhole 88 = .ok (.aload_n 0, 1) := by decide +kernel
theorem dX6_readWhole_89 : decode cX6_readWhole 89 = .ok (.iconst 1, 1) := by decide +kernel
theorem dX6_readWhole_90 : decode cX6_readWhole 90 = .ok (.iload_n 3, 1) := by decide +kernel
theorem dX6_readWhole_91 : decode cX6_readWhole 91 = .ok (.iload_n 1, 1) := by decide +kernel
theorem dX6_readWhole_92 : decode cX6_readWhole 92 = .ok (.invokevirtual 151, 3) := by decide +kernel
theorem dX6_readWhole_95 : decode cX6_readWhole 95 = .ok (.return_, 1) := by decide +kernel
def f_X6_readWhole_b95 (σ : TH) : Option (Unit × TH) :=
  some ((), σ)
set_option maxHeartbeats 4000000 in
set_option maxRecDepth 100000 in
theorem t_X6_readWhole_b95 {l : Launch} {D : va_G} {cy : Nat → ClassId} {ka : Nat → Nat} {σ0 z : TH} {r : Unit}  {σ : TH}  (hf : f_X6_readWhole_b95 σ  = some (r, z)) : v_ l D cy ka cX6_readWhole RX6 4 none "readWhole" 2 46 (qf_ D cy σ0 z none) σ0 z σ 95 [] [] := by
  unfold f_X6_readWhole_b95 at hf
  exact v_vret hf dX6_readWhole_95
def f_X6_readWhole_b79 (σ : TH) (l0 : Nat) (l1 : Int32) : Option (Unit × TH) :=
  gt_ (kd_ σ l0 = 8) <| bd_ (f_X6_fail σ l0 (1 : Int32) l1) fun x3 s4 => f_X6_readWhole_b95 s4 
set_option maxHeartbeats 4000000 in
set_option maxRecDepth 100000 in
theorem t_X6_readWhole_b79 {l : Launch} {D : va_G} {cy : Nat → ClassId} {ka : Nat → Nat} {σ0 z : TH} {r : Unit}  {σ : TH} {l0 : Nat} {l1 : Int32} (hf : f_X6_readWhole_b79 σ l0 l1 = some (r, z)) : v_ l D cy ka cX6_readWhole RX6 4 none "readWhole" 2 46 (qf_ D cy σ0 z none) σ0 z σ 79 [(0, va_rf (some l0)), (1, .int l1)] [] := by
  unfold f_X6_readWhole_b79 at hf
  refine v_aload_n (x := (some l0)) dX6_readWhole_79 rfl 0 rfl ?_
  refine v_iconst (v := 1) dX6_readWhole_80 (by decide) ?_
  refine v_iload_n (x := l1) dX6_readWhole_81 rfl 1 rfl ?_
  obtain ⟨hk_l0, hf⟩ := gt_of hf
  obtain ⟨x3, s4, hcs4, hf⟩ := bd_of hf
  have hts4 := c_X6_fail (l := l) (D := D) (cy := cy) (ka := ka) hcs4
  refine v_callV cb_7 hk_l0 (As := [.int (1 : Int32), .int l1]) (rest := []) hts4 yb_X6_fail kw_676 kw_678 kp_20 rfl ⟨Nat.le_of_ble_eq_true rfl, Nat.le_of_ble_eq_true rfl⟩ rfl (cat_len (Nat.le_of_ble_eq_true rfl)) dX6_readWhole_82 ?_
  have hk_l0 := tk_ hts4.1 hk_l0
  show v_ l D cy ka cX6_readWhole RX6 4 none "readWhole" 2 46 (qf_ D cy σ0 z none) σ0 z _ 85 [(0, va_rf (some l0)), (1, .int l1)] []
  refine v_goto (tgt := 95) dX6_readWhole_85 (by decide) ?_
  refine v_sub [] (L2 := []) rfl ?_
  exact t_X6_readWhole_b95  hf
def f_X6_readWhole_b60 (σ : TH) (l0 : Nat) (l1 : Int32) (l2 : Int32) (l3 : Int32) : Option (Unit × TH) :=
  gt_ (kd_ σ l0 = 8) <| lt_ (si_ σ 709 l0 (l1 + l2)) fun s2 => if (4 : Int32) < l2 then (f_X6_readWhole_b79 s2 l0 l1) else (bd_ (f_X6_termMayCome s2 l0) fun x5 s6 => if x5 = 0 then (f_X6_readWhole_b79 s6 l0 l1) else (bd_ (f_X6_takeTerm s6 l0 (1 : Int32) l3 l1) fun x7 s8 => f_X6_readWhole_b95 s8 ))
set_option maxHeartbeats 4000000 in
set_option maxRecDepth 100000 in
theorem t_X6_readWhole_b60 {l : Launch} {D : va_G} {cy : Nat → ClassId} {ka : Nat → Nat} {σ0 z : TH} {r : Unit}  {σ : TH} {l0 : Nat} {l1 : Int32} {l2 : Int32} {l3 : Int32} (hf : f_X6_readWhole_b60 σ l0 l1 l2 l3 = some (r, z)) : v_ l D cy ka cX6_readWhole RX6 4 none "readWhole" 2 46 (qf_ D cy σ0 z none) σ0 z σ 60 [(0, va_rf (some l0)), (1, .int l1), (2, .int l2), (3, .int l3)] [] := by
  unfold f_X6_readWhole_b60 at hf
  refine v_aload_n (x := (some l0)) dX6_readWhole_60 rfl 0 rfl ?_
  refine v_iload_n (x := l1) dX6_readWhole_61 rfl 1 rfl ?_
  refine v_iload_n (x := l2) dX6_readWhole_62 rfl 2 rfl ?_
  refine v_iadd dX6_readWhole_63 ?_
  obtain ⟨hk_l0, hf⟩ := gt_of hf
  refine v_puti2 cb_7 hk_l0 9 709 rfl (by decide) rfl (lk_n kw_86 rfl) (Or.inl rfl) rfl rfl hf dX6_readWhole_64 (fun s2 hts2 hf => ?_)
  have hk_l0 := tk_ hts2 hk_l0
  refine v_iload_n (x := l2) dX6_readWhole_67 rfl 2 rfl ?_
  refine v_iconst (v := 4) dX6_readWhole_68 (by decide) ?_
  refine v_icmp_gt (tgt := 79) hf dX6_readWhole_69 (by decide) (fun hq hf => ?_) (fun hq hf => ?_)
  · refine v_sub [0, 1] (L2 := [(0, va_rf (some l0)), (1, .int l1)]) rfl ?_
    exact t_X6_readWhole_b79  hf
  · refine v_aload_n (x := (some l0)) dX6_readWhole_72 rfl 0 rfl ?_
    obtain ⟨x5, s6, hcs6, hf⟩ := bd_of hf
    have hts6 := c_X6_termMayCome (l := l) (D := D) (cy := cy) (ka := ka) hcs6
    refine v_callV cb_7 hk_l0 (As := []) (rest := []) hts6 yb_X6_termMayCome kw_811 kw_813 kp_36 rfl ⟨Nat.le_of_ble_eq_true rfl, Nat.le_of_ble_eq_true rfl⟩ rfl (cat_len (Nat.le_of_ble_eq_true rfl)) dX6_readWhole_73 ?_
    have hk_l0 := tk_ hts6.1 hk_l0
    show v_ l D cy ka cX6_readWhole RX6 4 none "readWhole" 2 46 (qf_ D cy σ0 z none) σ0 z _ 76 [(0, va_rf (some l0)), (1, .int l1), (2, .int l2), (3, .int l3)] [.int x5]
    refine v_if_ne (tgt := 88) hf dX6_readWhole_76 (by decide) (fun hq hf => ?_) (fun hq hf => ?_)
    · refine v_sub [0, 1] (L2 := [(0, va_rf (some l0)), (1, .int l1)]) rfl ?_
      exact t_X6_readWhole_b79  hf
    · refine v_aload_n (x := (some l0)) dX6_readWhole_88 rfl 0 rfl ?_
      refine v_iconst (v := 1) dX6_readWhole_89 (by decide) ?_
      refine v_iload_n (x := l3) dX6_readWhole_90 rfl 3 rfl ?_
      refine v_iload_n (x := l1) dX6_readWhole_91 rfl 1 rfl ?_
      obtain ⟨x7, s8, hcs8, hf⟩ := bd_of hf
      have hts8 := c_X6_takeTerm (l := l) (D := D) (cy := cy) (ka := ka) hcs8
      refine v_callV cb_7 hk_l0 (As := [.int (1 : Int32), .int l3, .int l1]) (rest := []) hts8 yb_X6_takeTerm kw_819 kw_821 kp_38 rfl ⟨Nat.le_of_ble_eq_true rfl, Nat.le_of_ble_eq_true rfl⟩ rfl (cat_len (Nat.le_of_ble_eq_true rfl)) dX6_readWhole_92 ?_
      have hk_l0 := tk_ hts8.1 hk_l0
      show v_ l D cy ka cX6_readWhole RX6 4 none "readWhole" 2 46 (qf_ D cy σ0 z none) σ0 z _ 95 [(0, va_rf (some l0)), (1, .int l1), (2, .int l2), (3, .int l3)] []
      refine v_sub [] (L2 := []) rfl ?_
      exact t_X6_readWhole_b95  hf
def f_X6_readWhole_b53 (rec_9 : TH → Nat → Int32 → Int32 → Int32 → Option (Unit × TH)) (σ : TH) (l0 : Nat) (l1 : Int32) (l2 : Int32) (t0 : Int32) : Option (Unit × TH) :=
  lt_ (l2 + 1) fun x13 => rec_9 σ l0 l1 x13 t0
set_option maxHeartbeats 4000000 in
set_option maxRecDepth 100000 in
theorem t_X6_readWhole_b53 {l : Launch} {D : va_G} {cy : Nat → ClassId} {ka : Nat → Nat} {σ0 z : TH} {r : Unit} {rec_9 : TH → Nat → Int32 → Int32 → Int32 → Option (Unit × TH)} (hrec_9 : ∀ (σ : TH) (l0 : Nat) (l1 : Int32) (l2 : Int32) (l3 : Int32), rec_9 σ l0 l1 l2 l3 = some (r, z) → v_ l D cy ka cX6_readWhole RX6 4 none "readWhole" 2 46 (qf_ D cy σ0 z none) σ0 z σ 9 [(0, va_rf (some l0)), (1, .int l1), (2, .int l2), (3, .int l3)] []) {σ : TH} {l0 : Nat} {l1 : Int32} {l2 : Int32} {t0 : Int32} (hf : f_X6_readWhole_b53 rec_9 σ l0 l1 l2 t0 = some (r, z)) : v_ l D cy ka cX6_readWhole RX6 4 none "readWhole" 2 46 (qf_ D cy σ0 z none) σ0 z σ 53 [(0, va_rf (some l0)), (1, .int l1), (2, .int l2)] [.int t0] := by
  unfold f_X6_readWhole_b53 at hf
  refine v_istore_n [(3, .int t0), (0, va_rf (some l0)), (1, .int l1), (2, .int l2)] dX6_readWhole_53 rfl (by decide) rfl ?_
  obtain ⟨x13, ex13⟩ : ∃ y : Int32, y = l2 + 1 := ⟨_, rfl⟩
  rw [lt_e, ← ex13] at hf
  refine v_iinc (v := x13) [(2, .int x13), (3, .int t0), (0, va_rf (some l0)), (1, .int l1)] dX6_readWhole_54 3 rfl (by rw [ex13]; rfl) (by decide) rfl ?_
  refine v_goto (tgt := 9) dX6_readWhole_57 (by decide) ?_
  refine v_sub [2, 3, 0, 1] (L2 := [(0, va_rf (some l0)), (1, .int l1), (2, .int x13), (3, .int t0)]) rfl ?_
  exact hrec_9 _ _ _ _ _ hf
def f_X6_readWhole_b9 : Nat → TH → Nat → Int32 → Int32 → Int32 → Option (Unit × TH)
  | 0, _, _, _, _, _ => none
  | n + 1, σ, l0, l1, l2, l3 => if (400 : Int32) ≤ l2 then (f_X6_readWhole_b60 σ l0 l1 l2 l3) else (gt_ (kd_ σ l0 = 8) <| bd_ (f_X6_byteAt σ l0 (l1 + l2)) fun x9 s10 => bd_ (f_X6_isDigit s10 x9) fun x11 s12 => if x11 = 0 then (f_X6_readWhole_b60 s12 l0 l1 l2 l3) else (if (4 : Int32) ≤ l2 then (f_X6_readWhole_b53 (f_X6_readWhole_b9 n) s12 l0 l1 l2 l3) else (bd_ (f_X6_byteAt s12 l0 (l1 + l2)) fun x14 s15 => f_X6_readWhole_b53 (f_X6_readWhole_b9 n) s15 l0 l1 l2 (((l3 * (10 : Int32)) + x14) - (48 : Int32)))))
set_option maxHeartbeats 4000000 in
set_option maxRecDepth 100000 in
theorem t_X6_readWhole_b9 {l : Launch} {D : va_G} {cy : Nat → ClassId} {ka : Nat → Nat} {σ0 z : TH} {r : Unit}  : ∀ (n : Nat) (σ : TH) (l0 : Nat) (l1 : Int32) (l2 : Int32) (l3 : Int32), f_X6_readWhole_b9 n σ l0 l1 l2 l3 = some (r, z) → v_ l D cy ka cX6_readWhole RX6 4 none "readWhole" 2 46 (qf_ D cy σ0 z none) σ0 z σ 9 [(0, va_rf (some l0)), (1, .int l1), (2, .int l2), (3, .int l3)] [] := by
  intro n
  induction n with
  | zero => intro σ l0 l1 l2 l3 hf; unfold f_X6_readWhole_b9 at hf; cases hf
  | succ n ih =>
    intro σ l0 l1 l2 l3 hf
    unfold f_X6_readWhole_b9 at hf
    have hrec_9 := ih
    refine v_iload_n (x := l2) dX6_readWhole_9 rfl 2 rfl ?_
    refine v_sipush (v := 400) dX6_readWhole_10 (by decide) ?_
    refine v_icmp_ge (tgt := 60) hf dX6_readWhole_13 (by decide) (fun hq hf => ?_) (fun hq hf => ?_)
    · refine v_sub [0, 1, 2, 3] (L2 := [(0, va_rf (some l0)), (1, .int l1), (2, .int l2), (3, .int l3)]) rfl ?_
      exact t_X6_readWhole_b60  hf
    · refine v_aload_n (x := (some l0)) dX6_readWhole_16 rfl 0 rfl ?_
      refine v_iload_n (x := l1) dX6_readWhole_17 rfl 1 rfl ?_
      refine v_iload_n (x := l2) dX6_readWhole_18 rfl 2 rfl ?_
      refine v_iadd dX6_readWhole_19 ?_
      obtain ⟨hk_l0, hf⟩ := gt_of hf
      obtain ⟨x9, s10, hcs10, hf⟩ := bd_of hf
      have hts10 := c_X6_byteAt (l := l) (D := D) (cy := cy) (ka := ka) hcs10
      refine v_callV cb_7 hk_l0 (As := [.int (l1 + l2)]) (rest := []) hts10 yb_X6_byteAt kw_668 kw_670 kp_18 rfl ⟨Nat.le_of_ble_eq_true rfl, Nat.le_of_ble_eq_true rfl⟩ rfl (cat_len (Nat.le_of_ble_eq_true rfl)) dX6_readWhole_20 ?_
      have hk_l0 := tk_ hts10.1 hk_l0
      show v_ l D cy ka cX6_readWhole RX6 4 none "readWhole" 2 46 (qf_ D cy σ0 z none) σ0 z _ 23 [(0, va_rf (some l0)), (1, .int l1), (2, .int l2), (3, .int l3)] [.int x9]
      obtain ⟨x11, s12, hcs12, hf⟩ := bd_of hf
      have hts12 := c_X6_isDigit (l := l) (D := D) (cy := cy) (ka := ka) hcs12
      refine v_callS (As := [.int x9]) (rest := []) hts12 yb_X6_isDigit kw_707 kw_708 rfl ⟨Nat.le_of_ble_eq_true rfl, Nat.le_of_ble_eq_true rfl⟩ rfl (cat_len (Nat.le_of_ble_eq_true rfl)) dX6_readWhole_23 ?_
      have hk_l0 := tk_ hts12.1 hk_l0
      show v_ l D cy ka cX6_readWhole RX6 4 none "readWhole" 2 46 (qf_ D cy σ0 z none) σ0 z _ 26 [(0, va_rf (some l0)), (1, .int l1), (2, .int l2), (3, .int l3)] [.int x11]
      refine v_if_eq (tgt := 60) hf dX6_readWhole_26 (by decide) (fun hq hf => ?_) (fun hq hf => ?_)
      · refine v_sub [0, 1, 2, 3] (L2 := [(0, va_rf (some l0)), (1, .int l1), (2, .int l2), (3, .int l3)]) rfl ?_
        exact t_X6_readWhole_b60  hf
      · refine v_iload_n (x := l2) dX6_readWhole_29 rfl 2 rfl ?_
        refine v_iconst (v := 4) dX6_readWhole_30 (by decide) ?_
        refine v_icmp_ge (tgt := 52) hf dX6_readWhole_31 (by decide) (fun hq hf => ?_) (fun hq hf => ?_)
        · refine v_iload_n (x := l3) dX6_readWhole_52 rfl 3 rfl ?_
          refine v_sub [0, 1, 2] (L2 := [(0, va_rf (some l0)), (1, .int l1), (2, .int l2)]) rfl ?_
          exact t_X6_readWhole_b53 hrec_9 hf
        · refine v_iload_n (x := l3) dX6_readWhole_34 rfl 3 rfl ?_
          refine v_bipush (v := 10) dX6_readWhole_35 (by decide) ?_
          refine v_imul dX6_readWhole_37 ?_
          refine v_aload_n (x := (some l0)) dX6_readWhole_38 rfl 0 rfl ?_
          refine v_iload_n (x := l1) dX6_readWhole_39 rfl 1 rfl ?_
          refine v_iload_n (x := l2) dX6_readWhole_40 rfl 2 rfl ?_
          refine v_iadd dX6_readWhole_41 ?_
          obtain ⟨x14, s15, hcs15, hf⟩ := bd_of hf
          have hts15 := c_X6_byteAt (l := l) (D := D) (cy := cy) (ka := ka) hcs15
          refine v_callV cb_7 hk_l0 (As := [.int (l1 + l2)]) (rest := [.int (l3 * (10 : Int32))]) hts15 yb_X6_byteAt kw_668 kw_670 kp_18 rfl ⟨Nat.le_of_ble_eq_true rfl, Nat.le_of_ble_eq_true rfl⟩ rfl (cat_len (Nat.le_of_ble_eq_true rfl)) dX6_readWhole_42 ?_
          have hk_l0 := tk_ hts15.1 hk_l0
          show v_ l D cy ka cX6_readWhole RX6 4 none "readWhole" 2 46 (qf_ D cy σ0 z none) σ0 z _ 45 [(0, va_rf (some l0)), (1, .int l1), (2, .int l2), (3, .int l3)] [.int x14, .int (l3 * (10 : Int32))]
          refine v_iadd dX6_readWhole_45 ?_
          refine v_bipush (v := 48) dX6_readWhole_46 (by decide) ?_
          refine v_isub dX6_readWhole_48 ?_
          refine v_goto (tgt := 53) dX6_readWhole_49 (by decide) ?_
          refine v_sub [0, 1, 2] (L2 := [(0, va_rf (some l0)), (1, .int l1), (2, .int l2)]) rfl ?_
          exact t_X6_readWhole_b53 hrec_9 hf
/-- LivesAhead$Reader.readWhole()V -/
def f_X6_readWhole (σ : TH) (p0 : Nat) : Option (Unit × TH) :=
  gt_ (kd_ σ p0 = 8) <| lt_ (fi_ σ 709 p0) fun x1 => f_X6_readWhole_b9 fu_ σ p0 x1 (0 : Int32) (0 : Int32)
set_option maxHeartbeats 4000000 in
set_option maxRecDepth 100000 in
theorem c_X6_readWhole {l : Launch} {D : va_G} {cy : Nat → ClassId} {ka : Nat → Nat} {σ z : TH} {p0 : Nat} {r : Unit} (hf : f_X6_readWhole σ p0 = some (r, z)) : ct_ l D cy ka yX6_readWhole 2 46 [va_rf (some p0)] σ none z := by
  unfold f_X6_readWhole at hf
  refine v_start (cc := cX6_readWhole) (own := RX6) (maxL := 4) (ret := none) (nm := "readWhole") (by decide +kernel) kw_826 rfl rfl (by simp [lg_sl, va_rf_cat, cat_i, cat_l]) ?_
  refine v_eqL (L2 := [(0, va_rf (some p0))]) (by simp [lv_args, va_rf_cat, cat_i, cat_l]) ?_
  refine v_aload_n (x := (some p0)) dX6_readWhole_0 rfl 0 rfl ?_
  obtain ⟨hk_p0, hf⟩ := gt_of hf
  refine v_geti cb_7 hk_p0 9 709 rfl (by decide) rfl (lk_n kw_86 rfl) hf dX6_readWhole_1 (fun x1 hf => ?_)
  refine v_istore_n [(1, .int x1), (0, va_rf (some p0))] dX6_readWhole_4 rfl (by decide) rfl ?_
  refine v_iconst (v := 0) dX6_readWhole_5 (by decide) ?_
  refine v_istore_n [(2, .int (0 : Int32)), (1, .int x1), (0, va_rf (some p0))] dX6_readWhole_6 rfl (by decide) rfl ?_
  refine v_iconst (v := 0) dX6_readWhole_7 (by decide) ?_
  refine v_istore_n [(3, .int (0 : Int32)), (2, .int (0 : Int32)), (1, .int x1), (0, va_rf (some p0))] dX6_readWhole_8 rfl (by decide) rfl ?_
  refine v_sub [3, 2, 1, 0] (L2 := [(0, va_rf (some p0)), (1, .int x1), (2, .int (0 : Int32)), (3, .int (0 : Int32))]) rfl ?_
  exact t_X6_readWhole_b9  _ _ _ _ _ _ hf
theorem dX6_isName_0 : decode cX6_isName 0 = .ok (.aload_n 0, 1) := by decide +kernel
theorem dX6_isName_1 : decode cX6_isName 1 = .ok (.getfield 35, 3) := by decide +kernel
theorem dX6_isName_4 : decode cX6_isName 4 = .ok (.ifCond .eq 28, 3) := by decide +kernel
theorem dX6_isName_7 : decode cX6_isName 7 = .ok (.iload_n 1, 1) := by decide +kernel
theorem dX6_isName_8 : decode cX6_isName 8 = .ok (.bipush 10, 2) := by decide +kernel
theorem dX6_isName_10 : decode cX6_isName 10 = .ok (.if_icmp .eq 14, 3) := by decide +kernel
theorem dX6_isName_13 : decode cX6_isName 13 = .ok (.iload_n 1, 1) := by decide +kernel
theorem dX6_isName_14 : decode cX6_isName 14 = .ok (.bipush 13, 2) := by decide +kernel
theorem dX6_isName_16 : decode cX6_isName 16 = .ok (.bipush 20, 2) := by decide +kernel
theorem dX6_isName_18 : decode cX6_isName 18 = .ok (.invokestatic 72, 3) := by decide +kernel
theorem dX6_isName_21 : decode cX6_isName 21 = .ok (.ifCond .eq 7, 3) := by decide +kernel
theorem dX6_isName_24 : decode cX6_isName 24 = .ok (.iconst 1, 1) := by decide +kernel
theorem dX6_isName_25 : decode cX6_isName 25 = .ok (.goto 14, 3) := by decide +kernel
theorem dX6_isName_28 : decode cX6_isName 28 = .ok (.iconst 0, 1) := by decide +kernel
theorem dX6_isName_29 : decode cX6_isName 29 = .ok (.goto 10, 3) := by decide +kernel
theorem dX6_isName_32 : decode cX6_isName 32 = .ok (.iload_n 1, 1) := by decide +kernel
theorem dX6_isName_33 : decode cX6_isName 33 = .ok (.iconst 0, 1) := by decide +kernel
theorem dX6_isName_34 : decode cX6_isName 34 = .ok (.bipush 13, 2) := by decide +kernel
theorem dX6_isName_36 : decode cX6_isName 36 = .ok (.invokestatic 72, 3) := by decide +kernel
theorem dX6_isName_39 : decode cX6_isName 39 = .ok (.ireturn, 1) := by decide +kernel
def f_X6_isName_b39 (σ : TH) (t0 : Int32) : Option (Int32 × TH) :=
  gt_ (t0 = 0 ∨ t0 = 1) <| some (t0, σ)
set_option maxHeartbeats 4000000 in
set_option maxRecDepth 100000 in
theorem t_X6_isName_b39 {l : Launch} {D : va_G} {cy : Nat → ClassId} {ka : Nat → Nat} {σ0 z : TH} {r : Int32}  {σ : TH} {t0 : Int32} (hf : f_X6_isName_b39 σ t0 = some (r, z)) : v_ l D cy ka cX6_isName RX6 2 (some FieldType.boolean) "isName" 1 22 (qf_ D cy σ0 z (some (.int r))) σ0 z σ 39 [] [.int t0] := by
  unfold f_X6_isName_b39 at hf
  obtain ⟨hb9, hf⟩ := gt_of hf
  exact v_zret hf (nz_ hb9) dX6_isName_39
def f_X6_isName_b24 (σ : TH) : Option (Int32 × TH) :=
  f_X6_isName_b39 σ (1 : Int32)
set_option maxHeartbeats 4000000 in
set_option maxRecDepth 100000 in
theorem t_X6_isName_b24 {l : Launch} {D : va_G} {cy : Nat → ClassId} {ka : Nat → Nat} {σ0 z : TH} {r : Int32}  {σ : TH}  (hf : f_X6_isName_b24 σ  = some (r, z)) : v_ l D cy ka cX6_isName RX6 2 (some FieldType.boolean) "isName" 1 22 (qf_ D cy σ0 z (some (.int r))) σ0 z σ 24 [] [] := by
  unfold f_X6_isName_b24 at hf
  refine v_iconst (v := 1) dX6_isName_24 (by decide) ?_
  refine v_goto (tgt := 39) dX6_isName_25 (by decide) ?_
  refine v_sub [] (L2 := []) rfl ?_
  exact t_X6_isName_b39  hf
/-- LivesAhead$Reader.isName(I)Z -/
def f_X6_isName (σ : TH) (p0 : Nat) (p1 : Int32) : Option (Int32 × TH) :=
  gt_ (kd_ σ p0 = 8) <| lt_ (fi_ σ 707 p0) fun x1 => if x1 = 0 then (bd_ (f_X11_within σ p1 (0 : Int32) (13 : Int32)) fun x2 s3 => f_X6_isName_b39 s3 x2) else (if p1 = (10 : Int32) then (f_X6_isName_b24 σ ) else (bd_ (f_X11_within σ p1 (13 : Int32) (20 : Int32)) fun x4 s5 => if x4 = 0 then (f_X6_isName_b39 s5 (0 : Int32)) else (f_X6_isName_b24 s5 )))
set_option maxHeartbeats 4000000 in
set_option maxRecDepth 100000 in
theorem c_X6_isName {l : Launch} {D : va_G} {cy : Nat → ClassId} {ka : Nat → Nat} {σ z : TH} {p0 : Nat} {p1 : Int32} {r : Int32} (hf : f_X6_isName σ p0 p1 = some (r, z)) : ct_ l D cy ka yX6_isName 1 22 [va_rf (some p0), .int p1] σ (some (.int r)) z := by
  unfold f_X6_isName at hf
  refine v_start (cc := cX6_isName) (own := RX6) (maxL := 2) (ret := (some FieldType.boolean)) (nm := "isName") (by decide +kernel) kw_818 rfl rfl (by simp [lg_sl, va_rf_cat, cat_i, cat_l]) ?_
  refine v_eqL (L2 := [(0, va_rf (some p0)), (1, .int p1)]) (by simp [lv_args, va_rf_cat, cat_i, cat_l]) ?_
  refine v_aload_n (x := (some p0)) dX6_isName_0 rfl 0 rfl ?_
  obtain ⟨hk_p0, hf⟩ := gt_of hf
  refine v_geti cb_7 hk_p0 7 707 rfl (by decide) rfl (lk_n kw_84 rfl) hf dX6_isName_1 (fun x1 hf => ?_)
  refine v_if_eq (tgt := 32) hf dX6_isName_4 (by decide) (fun hq hf => ?_) (fun hq hf => ?_)
  · refine v_iload_n (x := p1) dX6_isName_32 rfl 1 rfl ?_
    refine v_iconst (v := 0) dX6_isName_33 (by decide) ?_
    refine v_bipush (v := 13) dX6_isName_34 (by decide) ?_
    obtain ⟨x2, s3, hcs3, hf⟩ := bd_of hf
    have hts3 := c_X11_within (l := l) (D := D) (cy := cy) (ka := ka) hcs3
    refine v_callSN (As := [.int p1, .int (0 : Int32), .int (13 : Int32)]) (rest := []) hts3 yb_X11_within kw_659 kw_305 rfl ⟨Nat.le_of_ble_eq_true rfl, Nat.le_of_ble_eq_true rfl⟩ rfl (cat_len (Nat.le_of_ble_eq_true rfl)) dX6_isName_36 ?_
    have hk_p0 := tk_ hts3.1 hk_p0
    show v_ l D cy ka cX6_isName RX6 2 (some FieldType.boolean) "isName" 1 22 (qf_ D cy σ z (some (.int r))) σ z _ 39 [(0, va_rf (some p0)), (1, .int p1)] [.int x2]
    refine v_sub [] (L2 := []) rfl ?_
    exact t_X6_isName_b39  hf
  · refine v_iload_n (x := p1) dX6_isName_7 rfl 1 rfl ?_
    refine v_bipush (v := 10) dX6_isName_8 (by decide) ?_
    refine v_icmp_eq (tgt := 24) hf dX6_isName_10 (by decide) (fun hq hf => ?_) (fun hq hf => ?_)
    · refine v_sub [] (L2 := []) rfl ?_
      exact t_X6_isName_b24  hf
    · refine v_iload_n (x := p1) dX6_isName_13 rfl 1 rfl ?_
      refine v_bipush (v := 13) dX6_isName_14 (by decide) ?_
      refine v_bipush (v := 20) dX6_isName_16 (by decide) ?_
      obtain ⟨x4, s5, hcs5, hf⟩ := bd_of hf
      have hts5 := c_X11_within (l := l) (D := D) (cy := cy) (ka := ka) hcs5
      refine v_callSN (As := [.int p1, .int (13 : Int32), .int (20 : Int32)]) (rest := []) hts5 yb_X11_within kw_659 kw_305 rfl ⟨Nat.le_of_ble_eq_true rfl, Nat.le_of_ble_eq_true rfl⟩ rfl (cat_len (Nat.le_of_ble_eq_true rfl)) dX6_isName_18 ?_
      have hk_p0 := tk_ hts5.1 hk_p0
      show v_ l D cy ka cX6_isName RX6 2 (some FieldType.boolean) "isName" 1 22 (qf_ D cy σ z (some (.int r))) σ z _ 21 [(0, va_rf (some p0)), (1, .int p1)] [.int x4]
      refine v_if_eq (tgt := 28) hf dX6_isName_21 (by decide) (fun hq hf => ?_) (fun hq hf => ?_)
      · refine v_iconst (v := 0) dX6_isName_28 (by decide) ?_
        refine v_goto (tgt := 39) dX6_isName_29 (by decide) ?_
        refine v_sub [] (L2 := []) rfl ?_
        exact t_X6_isName_b39  hf
      · refine v_sub [] (L2 := []) rfl ?_
        exact t_X6_isName_b24  hf
theorem dX6_openIf_0 : decode cX6_openIf 0 = .ok (.aload_n 0, 1) := by decide +kernel
theorem dX6_openIf_1 : decode cX6_openIf 1 = .ok (.getfield 57, 3) := by decide +kernel
theorem dX6_openIf_4 : decode cX6_openIf 4 = .ok (.iconst 5, 1) := by decide +kernel
theorem dX6_openIf_5 : decode cX6_openIf 5 = .ok (.if_icmp .lt 13, 3) := by decide +kernel
theorem dX6_openIf_8 : decode cX6_openIf 8 = .ok (.aload_n 0, 1) := by decide +kernel
theorem dX6_openIf_9 : decode cX6_openIf 9 = .ok (.iconst 3, 1) := by decide +kernel
theorem dX6_openIf_10 : decode cX6_openIf 10 = .ok (.aload_n 0, 1) := by decide +kernel
theorem dX6_openIf_11 : decode cX6_openIf 11 = .ok (.getfield 54, 3) := by decide +kernel
theorem dX6_openIf_14 : decode cX6_openIf 14 = .ok (.invokevirtual 121, 3) := by decide +kernel
theorem dX6_openIf_17 : decode cX6_openIf 17 = .ok (.return_, 1) := by decide +kernel
theorem dX6_openIf_18 : decode cX6_openIf 18 = .ok (.aload_n 0, 1) := by decide +kernel
theorem dX6_openIf_19 : decode cX6_openIf 19 = .ok (.bipush 11, 2) := by decide +kernel
theorem dX6_openIf_21 : decode cX6_openIf 21 = .ok (.iconst 0, 1) := by decide +kernel
theorem dX6_openIf_22 : decode cX6_openIf 22 = .ok (.invokevirtual 134, 3) := by decide +kernel
theorem dX6_openIf_25 : decode cX6_openIf 25 = .ok (.pop, 1) := by decide +kernel
theorem dX6_openIf_26 : decode cX6_openIf 26 = .ok (.aload_n 0, 1) := by decide +kernel
theorem dX6_openIf_27 : decode cX6_openIf 27 = .ok (.iconst 0, 1) := by decide +kernel
theorem dX6_openIf_28 : decode cX6_openIf 28 = .ok (.putfield 48, 3) := by decide +kernel
theorem dX6_openIf_31 : decode cX6_openIf 31 = .ok (.aload_n 0, 1) := by decide +kernel
theorem dX6_openIf_32 : decode cX6_openIf 32 = .ok (.iconst 2, 1) := by decide +kernel
theorem dX6_openIf_33 : decode cX6_openIf 33 = .ok (.putfield 45, 3) := by decide +kernel
theorem dX6_openIf_36 : decode cX6_openIf 36 = .ok (.return_, 1) := by decide +kernel
/-- LivesAhead$Reader.openIf()V -/
def f_X6_openIf (σ : TH) (p0 : Nat) : Option (Unit × TH) :=
  gt_ (kd_ σ p0 = 8) <| lt_ (fi_ σ 714 p0) fun x1 => if x1 < (5 : Int32) then (bd_ (f_X6_emit σ p0 (11 : Int32) (0 : Int32)) fun x2 s3 => lt_ (si_ s3 711 p0 (0 : Int32)) fun s4 => lt_ (si_ s4 710 p0 (2 : Int32)) fun s5 => some ((), s5)) else (lt_ (fi_ σ 713 p0) fun x6 => bd_ (f_X6_fail σ p0 (3 : Int32) x6) fun x7 s8 => some ((), s8))
set_option maxHeartbeats 4000000 in
set_option maxRecDepth 100000 in
theorem c_X6_openIf {l : Launch} {D : va_G} {cy : Nat → ClassId} {ka : Nat → Nat} {σ z : TH} {p0 : Nat} {r : Unit} (hf : f_X6_openIf σ p0 = some (r, z)) : ct_ l D cy ka yX6_openIf 1 23 [va_rf (some p0)] σ none z := by
  unfold f_X6_openIf at hf
  refine v_start (cc := cX6_openIf) (own := RX6) (maxL := 1) (ret := none) (nm := "openIf") (by decide +kernel) kw_806 rfl rfl (by simp [lg_sl, va_rf_cat, cat_i, cat_l]) ?_
  refine v_eqL (L2 := [(0, va_rf (some p0))]) (by simp [lv_args, va_rf_cat, cat_i, cat_l]) ?_
  refine v_aload_n (x := (some p0)) dX6_openIf_0 rfl 0 rfl ?_
  obtain ⟨hk_p0, hf⟩ := gt_of hf
  refine v_geti cb_7 hk_p0 14 714 rfl (by decide) rfl (lk_n kw_91 rfl) hf dX6_openIf_1 (fun x1 hf => ?_)
  refine v_iconst (v := 5) dX6_openIf_4 (by decide) ?_
  refine v_icmp_lt (tgt := 18) hf dX6_openIf_5 (by decide) (fun hq hf => ?_) (fun hq hf => ?_)
  · refine v_aload_n (x := (some p0)) dX6_openIf_18 rfl 0 rfl ?_
    refine v_bipush (v := 11) dX6_openIf_19 (by decide) ?_
    refine v_iconst (v := 0) dX6_openIf_21 (by decide) ?_
    obtain ⟨x2, s3, hcs3, hf⟩ := bd_of hf
    have hts3 := c_X6_emit (l := l) (D := D) (cy := cy) (ka := ka) hcs3
    refine v_callV cb_7 hk_p0 (As := [.int (11 : Int32), .int (0 : Int32)]) (rest := []) hts3 yb_X6_emit kw_688 kw_690 kp_23 rfl ⟨Nat.le_of_ble_eq_true rfl, Nat.le_of_ble_eq_true rfl⟩ rfl (cat_len (Nat.le_of_ble_eq_true rfl)) dX6_openIf_22 ?_
    have hk_p0 := tk_ hts3.1 hk_p0
    show v_ l D cy ka cX6_openIf RX6 1 none "openIf" 1 23 (qf_ D cy σ z none) σ z _ 25 [(0, va_rf (some p0))] [.int x2]
    refine v_pop dX6_openIf_25 rfl ?_
    refine v_aload_n (x := (some p0)) dX6_openIf_26 rfl 0 rfl ?_
    refine v_iconst (v := 0) dX6_openIf_27 (by decide) ?_
    refine v_puti2 cb_7 hk_p0 11 711 rfl (by decide) rfl (lk_n kw_88 rfl) (Or.inl rfl) rfl rfl hf dX6_openIf_28 (fun s4 hts4 hf => ?_)
    have hk_p0 := tk_ hts4 hk_p0
    refine v_aload_n (x := (some p0)) dX6_openIf_31 rfl 0 rfl ?_
    refine v_iconst (v := 2) dX6_openIf_32 (by decide) ?_
    refine v_puti2 cb_7 hk_p0 10 710 rfl (by decide) rfl (lk_n kw_87 rfl) (Or.inl rfl) rfl rfl hf dX6_openIf_33 (fun s5 hts5 hf => ?_)
    have hk_p0 := tk_ hts5 hk_p0
    exact v_vret hf dX6_openIf_36
  · refine v_aload_n (x := (some p0)) dX6_openIf_8 rfl 0 rfl ?_
    refine v_iconst (v := 3) dX6_openIf_9 (by decide) ?_
    refine v_aload_n (x := (some p0)) dX6_openIf_10 rfl 0 rfl ?_
    refine v_geti cb_7 hk_p0 13 713 rfl (by decide) rfl (lk_n kw_90 rfl) hf dX6_openIf_11 (fun x6 hf => ?_)
    obtain ⟨x7, s8, hcs8, hf⟩ := bd_of hf
    have hts8 := c_X6_fail (l := l) (D := D) (cy := cy) (ka := ka) hcs8
    refine v_callV cb_7 hk_p0 (As := [.int (3 : Int32), .int x6]) (rest := []) hts8 yb_X6_fail kw_676 kw_678 kp_20 rfl ⟨Nat.le_of_ble_eq_true rfl, Nat.le_of_ble_eq_true rfl⟩ rfl (cat_len (Nat.le_of_ble_eq_true rfl)) dX6_openIf_14 ?_
    have hk_p0 := tk_ hts8.1 hk_p0
    show v_ l D cy ka cX6_openIf RX6 1 none "openIf" 1 23 (qf_ D cy σ z none) σ z _ 17 [(0, va_rf (some p0))] []
    exact v_vret hf dX6_openIf_17
theorem dX6_takeFact_0 : decode cX6_takeFact 0 = .ok (.iload_n 1, 1) := by decide +kernel
theorem dX6_takeFact_1 : decode cX6_takeFact 1 = .ok (.invokestatic 223, 3) := by decide +kernel
theorem dX6_takeFact_4 : decode cX6_takeFact 4 = .ok (.ifCond .ne 10, 3) := by decide +kernel
theorem dX6_takeFact_7 : decode cX6_takeFact 7 = .ok (.aload_n 0, 1) := by decide +kernel
theorem dX6_takeFact_8 : decode cX6_takeFact 8 = .ok (.iconst 1, 1) := by decide +kernel
theorem dX6_takeFact_9 : decode cX6_takeFact 9 = .ok (.iload_n 2, 1) := by decide +kernel
theorem dX6_takeFact_10 : decode cX6_takeFact 10 = .ok (.invokevirtual 121, 3) := by decide +kernel
theorem dX6_takeFact_13 : decode cX6_takeFact 13 = .ok (.return_, 1) := by decide +kernel
theorem dX6_takeFact_14 : decode cX6_takeFact 14 = .ok (.aload_n 0, 1) := by decide +kernel
theorem dX6_takeFact_15 : decode cX6_takeFact 15 = .ok (.dup, 1) := by decide +kernel
theorem dX6_takeFact_16 : decode cX6_takeFact 16 = .ok (.getfield 69, 3) := by decide +kernel
theorem dX6_takeFact_19 : decode cX6_takeFact 19 = .ok (.iconst 1, 1) := by decide +kernel
theorem dX6_takeFact_20 : decode cX6_takeFact 20 = .ok (.iload_n 1, 1) := by decide +kernel
theorem dX6_takeFact_21 : decode cX6_takeFact 21 = .ok (.ishl, 1) := by decide +kernel
theorem dX6_takeFact_22 : decode cX6_takeFact 22 = .ok (.ior, 1) := by decide +kernel
theorem dX6_takeFact_23 : decode cX6_takeFact 23 = .ok (.putfield 69, 3) := by decide +kernel
theorem dX6_takeFact_26 : decode cX6_takeFact 26 = .ok (.aload_n 0, 1) := by decide +kernel
theorem dX6_takeFact_27 : decode cX6_takeFact 27 = .ok (.aload_n 0, 1) := by decide +kernel
theorem dX6_takeFact_28 : decode cX6_takeFact 28 = .ok (.getfield 45, 3) := by decide +kernel
theorem dX6_takeFact_31 : decode cX6_takeFact 31 = .ok (.iconst 3, 1) := by decide +kernel
theorem dX6_takeFact_32 : decode cX6_takeFact 32 = .ok (.if_icmp .ne 8, 3) := by decide +kernel
theorem dX6_takeFact_35 : decode cX6_takeFact 35 = .ok (.bipush 8, 2) := by decide +kernel
theorem dX6_takeFact_37 : decode cX6_takeFact 37 = .ok (.goto 5, 3) := by decide +kernel
theorem dX6_takeFact_40 : decode cX6_takeFact 40 = .ok (.bipush 9, 2) := by decide +kernel
theorem dX6_takeFact_42 : decode cX6_takeFact 42 = .ok (.iload_n 1, 1) := by decide +kernel
theorem dX6_takeFact_43 : decode cX6_takeFact 43 = .ok (.invokevirtual 134, 3) := by decide +kernel
theorem dX6_takeFact_46 : decode cX6_takeFact 46 = .ok (.pop, 1) := by decide +kernel
theorem dX6_takeFact_47 : decode cX6_takeFact 47 = .ok (.aload_n 0, 1) := by decide +kernel
theorem dX6_takeFact_48 : decode cX6_takeFact 48 = .ok (.bipush 11, 2) := by decide +kernel
theorem dX6_takeFact_50 : decode cX6_takeFact 50 = .ok (.putfield 45, 3) := by decide +kernel
theorem dX6_takeFact_53 : decode cX6_takeFact 53 = .ok (.return_, 1) := by decide +kernel
def f_X6_takeFact_b42 (σ : TH) (l0 : Nat) (l1 : Int32) (t0 : Int32) (t1 : Option Nat) : Option (Unit × TH) :=
  nn_ t1 fun a8 => gt_ (kd_ σ a8 = 8) <| bd_ (f_X6_emit σ a8 t0 l1) fun x9 s10 => gt_ (kd_ s10 l0 = 8) <| lt_ (si_ s10 710 l0 (11 : Int32)) fun s11 => some ((), s11)
set_option maxHeartbeats 4000000 in
set_option maxRecDepth 100000 in
theorem t_X6_takeFact_b42 {l : Launch} {D : va_G} {cy : Nat → ClassId} {ka : Nat → Nat} {σ0 z : TH} {r : Unit}  {σ : TH} {l0 : Nat} {l1 : Int32} {t0 : Int32} {t1 : Option Nat} (hf : f_X6_takeFact_b42 σ l0 l1 t0 t1 = some (r, z)) : v_ l D cy ka cX6_takeFact RX6 3 none "takeFact" 2 42 (qf_ D cy σ0 z none) σ0 z σ 42 [(0, va_rf (some l0)), (1, .int l1)] [.int t0, va_rf t1] := by
  unfold f_X6_takeFact_b42 at hf
  refine v_iload_n (x := l1) dX6_takeFact_42 rfl 1 rfl ?_
  obtain ⟨a8, rfl, hf⟩ := nn_of hf
  obtain ⟨hk_a8, hf⟩ := gt_of hf
  obtain ⟨x9, s10, hcs10, hf⟩ := bd_of hf
  have hts10 := c_X6_emit (l := l) (D := D) (cy := cy) (ka := ka) hcs10
  refine v_callV cb_7 hk_a8 (As := [.int t0, .int l1]) (rest := []) hts10 yb_X6_emit kw_688 kw_690 kp_23 rfl ⟨Nat.le_of_ble_eq_true rfl, Nat.le_of_ble_eq_true rfl⟩ rfl (cat_len (Nat.le_of_ble_eq_true rfl)) dX6_takeFact_43 ?_
  show v_ l D cy ka cX6_takeFact RX6 3 none "takeFact" 2 42 (qf_ D cy σ0 z none) σ0 z _ 46 [(0, va_rf (some l0)), (1, .int l1)] [.int x9]
  refine v_pop dX6_takeFact_46 rfl ?_
  refine v_aload_n (x := (some l0)) dX6_takeFact_47 rfl 0 rfl ?_
  refine v_bipush (v := 11) dX6_takeFact_48 (by decide) ?_
  obtain ⟨hk_l0, hf⟩ := gt_of hf
  refine v_puti2 cb_7 hk_l0 10 710 rfl (by decide) rfl (lk_n kw_87 rfl) (Or.inl rfl) rfl rfl hf dX6_takeFact_50 (fun s11 hts11 hf => ?_)
  have hk_l0 := tk_ hts11 hk_l0
  exact v_vret hf dX6_takeFact_53
/-- LivesAhead$Reader.takeFact(II)V -/
def f_X6_takeFact (σ : TH) (p0 : Nat) (p1 : Int32) (p2 : Int32) : Option (Unit × TH) :=
  bd_ (f_X11_isKind σ p1) fun x1 s2 => if x1 = 0 then (gt_ (kd_ s2 p0 = 8) <| bd_ (f_X6_fail s2 p0 (1 : Int32) p2) fun x3 s4 => some ((), s4)) else (gt_ (kd_ s2 p0 = 8) <| lt_ (fi_ s2 718 p0) fun x5 => lt_ (si_ s2 718 p0 (x5 ||| ((1 : Int32) <<< (p1 &&& 31)))) fun s6 => lt_ (fi_ s6 710 p0) fun x7 => if x7 = (3 : Int32) then (f_X6_takeFact_b42 s6 p0 p1 (8 : Int32) (some p0)) else (f_X6_takeFact_b42 s6 p0 p1 (9 : Int32) (some p0)))
set_option maxHeartbeats 4000000 in
set_option maxRecDepth 100000 in
theorem c_X6_takeFact {l : Launch} {D : va_G} {cy : Nat → ClassId} {ka : Nat → Nat} {σ z : TH} {p0 : Nat} {p1 : Int32} {p2 : Int32} {r : Unit} (hf : f_X6_takeFact σ p0 p1 p2 = some (r, z)) : ct_ l D cy ka yX6_takeFact 2 42 [va_rf (some p0), .int p1, .int p2] σ none z := by
  unfold f_X6_takeFact at hf
  refine v_start (cc := cX6_takeFact) (own := RX6) (maxL := 3) (ret := none) (nm := "takeFact") (by decide +kernel) kw_793 rfl rfl (by simp [lg_sl, va_rf_cat, cat_i, cat_l]) ?_
  refine v_eqL (L2 := [(0, va_rf (some p0)), (1, .int p1), (2, .int p2)]) (by simp [lv_args, va_rf_cat, cat_i, cat_l]) ?_
  refine v_iload_n (x := p1) dX6_takeFact_0 rfl 1 rfl ?_
  obtain ⟨x1, s2, hcs2, hf⟩ := bd_of hf
  have hts2 := c_X11_isKind (l := l) (D := D) (cy := cy) (ka := ka) hcs2
  refine v_callSN (As := [.int p1]) (rest := []) hts2 yb_X11_isKind kw_794 kw_569 rfl ⟨Nat.le_of_ble_eq_true rfl, Nat.le_of_ble_eq_true rfl⟩ rfl (cat_len (Nat.le_of_ble_eq_true rfl)) dX6_takeFact_1 ?_
  show v_ l D cy ka cX6_takeFact RX6 3 none "takeFact" 2 42 (qf_ D cy σ z none) σ z _ 4 [(0, va_rf (some p0)), (1, .int p1), (2, .int p2)] [.int x1]
  refine v_if_ne (tgt := 14) hf dX6_takeFact_4 (by decide) (fun hq hf => ?_) (fun hq hf => ?_)
  · refine v_aload_n (x := (some p0)) dX6_takeFact_7 rfl 0 rfl ?_
    refine v_iconst (v := 1) dX6_takeFact_8 (by decide) ?_
    refine v_iload_n (x := p2) dX6_takeFact_9 rfl 2 rfl ?_
    obtain ⟨hk_p0, hf⟩ := gt_of hf
    obtain ⟨x3, s4, hcs4, hf⟩ := bd_of hf
    have hts4 := c_X6_fail (l := l) (D := D) (cy := cy) (ka := ka) hcs4
    refine v_callV cb_7 hk_p0 (As := [.int (1 : Int32), .int p2]) (rest := []) hts4 yb_X6_fail kw_676 kw_678 kp_20 rfl ⟨Nat.le_of_ble_eq_true rfl, Nat.le_of_ble_eq_true rfl⟩ rfl (cat_len (Nat.le_of_ble_eq_true rfl)) dX6_takeFact_10 ?_
    have hk_p0 := tk_ hts4.1 hk_p0
    show v_ l D cy ka cX6_takeFact RX6 3 none "takeFact" 2 42 (qf_ D cy σ z none) σ z _ 13 [(0, va_rf (some p0)), (1, .int p1), (2, .int p2)] []
    exact v_vret hf dX6_takeFact_13
  · refine v_aload_n (x := (some p0)) dX6_takeFact_14 rfl 0 rfl ?_
    refine v_dup dX6_takeFact_15 (va_rf_cat _) ?_
    obtain ⟨hk_p0, hf⟩ := gt_of hf
    refine v_geti cb_7 hk_p0 18 718 rfl (by decide) rfl (lk_n kw_95 rfl) hf dX6_takeFact_16 (fun x5 hf => ?_)
    refine v_iconst (v := 1) dX6_takeFact_19 (by decide) ?_
    refine v_iload_n (x := p1) dX6_takeFact_20 rfl 1 rfl ?_
    refine v_ishl dX6_takeFact_21 ?_
    refine v_ior dX6_takeFact_22 ?_
    refine v_puti2 cb_7 hk_p0 18 718 rfl (by decide) rfl (lk_n kw_95 rfl) (Or.inl rfl) rfl rfl hf dX6_takeFact_23 (fun s6 hts6 hf => ?_)
    have hk_p0 := tk_ hts6 hk_p0
    refine v_aload_n (x := (some p0)) dX6_takeFact_26 rfl 0 rfl ?_
    refine v_aload_n (x := (some p0)) dX6_takeFact_27 rfl 0 rfl ?_
    refine v_geti cb_7 hk_p0 10 710 rfl (by decide) rfl (lk_n kw_87 rfl) hf dX6_takeFact_28 (fun x7 hf => ?_)
    refine v_iconst (v := 3) dX6_takeFact_31 (by decide) ?_
    refine v_icmp_ne (tgt := 40) hf dX6_takeFact_32 (by decide) (fun hq hf => ?_) (fun hq hf => ?_)
    · refine v_bipush (v := 8) dX6_takeFact_35 (by decide) ?_
      refine v_goto (tgt := 42) dX6_takeFact_37 (by decide) ?_
      refine v_sub [0, 1] (L2 := [(0, va_rf (some p0)), (1, .int p1)]) rfl ?_
      exact t_X6_takeFact_b42  hf
    · refine v_bipush (v := 9) dX6_takeFact_40 (by decide) ?_
      refine v_sub [0, 1] (L2 := [(0, va_rf (some p0)), (1, .int p1)]) rfl ?_
      exact t_X6_takeFact_b42  hf
theorem dX6_takeJoin_0 : decode cX6_takeJoin 0 = .ok (.aload_n 0, 1) := by decide +kernel
theorem dX6_takeJoin_1 : decode cX6_takeJoin 1 = .ok (.invokevirtual 118, 3) := by decide +kernel
theorem dX6_takeJoin_4 : decode cX6_takeJoin 4 = .ok (.aload_n 0, 1) := by decide +kernel
theorem dX6_takeJoin_5 : decode cX6_takeJoin 5 = .ok (.getfield 45, 3) := by decide +kernel
theorem dX6_takeJoin_8 : decode cX6_takeJoin 8 = .ok (.bipush 11, 2) := by decide +kernel
theorem dX6_takeJoin_10 : decode cX6_takeJoin 10 = .ok (.if_icmp .ne 18, 3) := by decide +kernel
theorem dX6_takeJoin_13 : decode cX6_takeJoin 13 = .ok (.aload_n 0, 1) := by decide +kernel
theorem dX6_takeJoin_14 : decode cX6_takeJoin 14 = .ok (.getfield 48, 3) := by decide +kernel
theorem dX6_takeJoin_17 : decode cX6_takeJoin 17 = .ok (.ifCond .eq 18, 3) := by decide +kernel
theorem dX6_takeJoin_20 : decode cX6_takeJoin 20 = .ok (.aload_n 0, 1) := by decide +kernel
theorem dX6_takeJoin_21 : decode cX6_takeJoin 21 = .ok (.getfield 48, 3) := by decide +kernel
theorem dX6_takeJoin_24 : decode cX6_takeJoin 24 = .ok (.iload_n 1, 1) := by decide +kernel
theorem dX6_takeJoin_25 : decode cX6_takeJoin 25 = .ok (.if_icmp .eq 10, 3) := by decide +kernel
theorem dX6_takeJoin_28 : decode cX6_takeJoin 28 = .ok (.aload_n 0, 1) := by decide +kernel
theorem dX6_takeJoin_29 : decode cX6_takeJoin 29 = .ok (.iconst 1, 1) := by decide +kernel
theorem dX6_takeJoin_30 : decode cX6_takeJoin 30 = .ok (.iload_n 2, 1) := by decide +kernel
theorem dX6_takeJoin_31 : decode cX6_takeJoin 31 = .ok (.invokevirtual 121, 3) := by decide +kernel
theorem dX6_takeJoin_34 : decode cX6_takeJoin 34 = .ok (.return_, 1) := by decide +kernel
theorem dX6_takeJoin_35 : decode cX6_takeJoin 35 = .ok (.aload_n 0, 1) := by decide +kernel
theorem dX6_takeJoin_36 : decode cX6_takeJoin 36 = .ok (.iload_n 1, 1) := by decide +kernel
theorem dX6_takeJoin_37 : decode cX6_takeJoin 37 = .ok (.putfield 48, 3) := by decide +kernel
theorem dX6_takeJoin_40 : decode cX6_takeJoin 40 = .ok (.aload_n 0, 1) := by decide +kernel
theorem dX6_takeJoin_41 : decode cX6_takeJoin 41 = .ok (.bipush 12, 2) := by decide +kernel
theorem dX6_takeJoin_43 : decode cX6_takeJoin 43 = .ok (.iload_n 1, 1) := by decide +kernel
theorem dX6_takeJoin_44 : decode cX6_takeJoin 44 = .ok (.invokevirtual 134, 3) := by decide +kernel
theorem dX6_takeJoin_47 : decode cX6_takeJoin 47 = .ok (.pop, 1) := by decide +kernel
theorem dX6_takeJoin_48 : decode cX6_takeJoin 48 = .ok (.aload_n 0, 1) := by decide +kernel
theorem dX6_takeJoin_49 : decode cX6_takeJoin 49 = .ok (.iconst 2, 1) := by decide +kernel
theorem dX6_takeJoin_50 : decode cX6_takeJoin 50 = .ok (.putfield 45, 3) := by decide +kernel
theorem dX6_takeJoin_53 : decode cX6_takeJoin 53 = .ok (.return_, 1) := by decide +kernel
def f_X6_takeJoin_b35 (σ : TH) (l0 : Nat) (l1 : Int32) : Option (Unit × TH) :=
  gt_ (kd_ σ l0 = 8) <| lt_ (si_ σ 711 l0 l1) fun s5 => bd_ (f_X6_emit s5 l0 (12 : Int32) l1) fun x6 s7 => lt_ (si_ s7 710 l0 (2 : Int32)) fun s8 => some ((), s8)
set_option maxHeartbeats 4000000 in
set_option maxRecDepth 100000 in
theorem t_X6_takeJoin_b35 {l : Launch} {D : va_G} {cy : Nat → ClassId} {ka : Nat → Nat} {σ0 z : TH} {r : Unit}  {σ : TH} {l0 : Nat} {l1 : Int32} (hf : f_X6_takeJoin_b35 σ l0 l1 = some (r, z)) : v_ l D cy ka cX6_takeJoin RX6 3 none "takeJoin" 2 43 (qf_ D cy σ0 z none) σ0 z σ 35 [(0, va_rf (some l0)), (1, .int l1)] [] := by
  unfold f_X6_takeJoin_b35 at hf
  refine v_aload_n (x := (some l0)) dX6_takeJoin_35 rfl 0 rfl ?_
  refine v_iload_n (x := l1) dX6_takeJoin_36 rfl 1 rfl ?_
  obtain ⟨hk_l0, hf⟩ := gt_of hf
  refine v_puti2 cb_7 hk_l0 11 711 rfl (by decide) rfl (lk_n kw_88 rfl) (Or.inl rfl) rfl rfl hf dX6_takeJoin_37 (fun s5 hts5 hf => ?_)
  have hk_l0 := tk_ hts5 hk_l0
  refine v_aload_n (x := (some l0)) dX6_takeJoin_40 rfl 0 rfl ?_
  refine v_bipush (v := 12) dX6_takeJoin_41 (by decide) ?_
  refine v_iload_n (x := l1) dX6_takeJoin_43 rfl 1 rfl ?_
  obtain ⟨x6, s7, hcs7, hf⟩ := bd_of hf
  have hts7 := c_X6_emit (l := l) (D := D) (cy := cy) (ka := ka) hcs7
  refine v_callV cb_7 hk_l0 (As := [.int (12 : Int32), .int l1]) (rest := []) hts7 yb_X6_emit kw_688 kw_690 kp_23 rfl ⟨Nat.le_of_ble_eq_true rfl, Nat.le_of_ble_eq_true rfl⟩ rfl (cat_len (Nat.le_of_ble_eq_true rfl)) dX6_takeJoin_44 ?_
  have hk_l0 := tk_ hts7.1 hk_l0
  show v_ l D cy ka cX6_takeJoin RX6 3 none "takeJoin" 2 43 (qf_ D cy σ0 z none) σ0 z _ 47 [(0, va_rf (some l0)), (1, .int l1)] [.int x6]
  refine v_pop dX6_takeJoin_47 rfl ?_
  refine v_aload_n (x := (some l0)) dX6_takeJoin_48 rfl 0 rfl ?_
  refine v_iconst (v := 2) dX6_takeJoin_49 (by decide) ?_
  refine v_puti2 cb_7 hk_l0 10 710 rfl (by decide) rfl (lk_n kw_87 rfl) (Or.inl rfl) rfl rfl hf dX6_takeJoin_50 (fun s8 hts8 hf => ?_)
  have hk_l0 := tk_ hts8 hk_l0
  exact v_vret hf dX6_takeJoin_53
def f_X6_takeJoin_b28 (σ : TH) (l0 : Nat) (l2 : Int32) : Option (Unit × TH) :=
  gt_ (kd_ σ l0 = 8) <| bd_ (f_X6_fail σ l0 (1 : Int32) l2) fun x10 s11 => some ((), s11)
set_option maxHeartbeats 4000000 in
set_option maxRecDepth 100000 in
theorem t_X6_takeJoin_b28 {l : Launch} {D : va_G} {cy : Nat → ClassId} {ka : Nat → Nat} {σ0 z : TH} {r : Unit}  {σ : TH} {l0 : Nat} {l2 : Int32} (hf : f_X6_takeJoin_b28 σ l0 l2 = some (r, z)) : v_ l D cy ka cX6_takeJoin RX6 3 none "takeJoin" 2 43 (qf_ D cy σ0 z none) σ0 z σ 28 [(0, va_rf (some l0)), (2, .int l2)] [] := by
  unfold f_X6_takeJoin_b28 at hf
  refine v_aload_n (x := (some l0)) dX6_takeJoin_28 rfl 0 rfl ?_
  refine v_iconst (v := 1) dX6_takeJoin_29 (by decide) ?_
  refine v_iload_n (x := l2) dX6_takeJoin_30 rfl 1 rfl ?_
  obtain ⟨hk_l0, hf⟩ := gt_of hf
  obtain ⟨x10, s11, hcs11, hf⟩ := bd_of hf
  have hts11 := c_X6_fail (l := l) (D := D) (cy := cy) (ka := ka) hcs11
  refine v_callV cb_7 hk_l0 (As := [.int (1 : Int32), .int l2]) (rest := []) hts11 yb_X6_fail kw_676 kw_678 kp_20 rfl ⟨Nat.le_of_ble_eq_true rfl, Nat.le_of_ble_eq_true rfl⟩ rfl (cat_len (Nat.le_of_ble_eq_true rfl)) dX6_takeJoin_31 ?_
  have hk_l0 := tk_ hts11.1 hk_l0
  show v_ l D cy ka cX6_takeJoin RX6 3 none "takeJoin" 2 43 (qf_ D cy σ0 z none) σ0 z _ 34 [(0, va_rf (some l0)), (2, .int l2)] []
  exact v_vret hf dX6_takeJoin_34
/-- LivesAhead$Reader.takeJoin(II)V -/
def f_X6_takeJoin (σ : TH) (p0 : Nat) (p1 : Int32) (p2 : Int32) : Option (Unit × TH) :=
  gt_ (kd_ σ p0 = 8) <| bd_ (f_X6_closeComparison σ p0) fun x1 s2 => lt_ (fi_ s2 710 p0) fun x3 => if x3 = (11 : Int32) then (lt_ (fi_ s2 711 p0) fun x4 => if x4 = 0 then (f_X6_takeJoin_b35 s2 p0 p1) else (lt_ (fi_ s2 711 p0) fun x9 => if x9 = p1 then (f_X6_takeJoin_b35 s2 p0 p1) else (f_X6_takeJoin_b28 s2 p0 p2))) else (f_X6_takeJoin_b28 s2 p0 p2)
set_option maxHeartbeats 4000000 in
set_option maxRecDepth 100000 in
theorem c_X6_takeJoin {l : Launch} {D : va_G} {cy : Nat → ClassId} {ka : Nat → Nat} {σ z : TH} {p0 : Nat} {p1 : Int32} {p2 : Int32} {r : Unit} (hf : f_X6_takeJoin σ p0 p1 p2 = some (r, z)) : ct_ l D cy ka yX6_takeJoin 2 43 [va_rf (some p0), .int p1, .int p2] σ none z := by
  unfold f_X6_takeJoin at hf
  refine v_start (cc := cX6_takeJoin) (own := RX6) (maxL := 3) (ret := none) (nm := "takeJoin") (by decide +kernel) kw_798 rfl rfl (by simp [lg_sl, va_rf_cat, cat_i, cat_l]) ?_
  refine v_eqL (L2 := [(0, va_rf (some p0)), (1, .int p1), (2, .int p2)]) (by simp [lv_args, va_rf_cat, cat_i, cat_l]) ?_
  refine v_aload_n (x := (some p0)) dX6_takeJoin_0 rfl 0 rfl ?_
  obtain ⟨hk_p0, hf⟩ := gt_of hf
  obtain ⟨x1, s2, hcs2, hf⟩ := bd_of hf
  have hts2 := c_X6_closeComparison (l := l) (D := D) (cy := cy) (ka := ka) hcs2
  refine v_callV cb_7 hk_p0 (As := []) (rest := []) hts2 yb_X6_closeComparison kw_799 kw_801 kp_33 rfl ⟨Nat.le_of_ble_eq_true rfl, Nat.le_of_ble_eq_true rfl⟩ rfl (cat_len (Nat.le_of_ble_eq_true rfl)) dX6_takeJoin_1 ?_
  have hk_p0 := tk_ hts2.1 hk_p0
  show v_ l D cy ka cX6_takeJoin RX6 3 none "takeJoin" 2 43 (qf_ D cy σ z none) σ z _ 4 [(0, va_rf (some p0)), (1, .int p1), (2, .int p2)] []
  refine v_aload_n (x := (some p0)) dX6_takeJoin_4 rfl 0 rfl ?_
  refine v_geti cb_7 hk_p0 10 710 rfl (by decide) rfl (lk_n kw_87 rfl) hf dX6_takeJoin_5 (fun x3 hf => ?_)
  refine v_bipush (v := 11) dX6_takeJoin_8 (by decide) ?_
  refine v_icmp_ne (tgt := 28) hf dX6_takeJoin_10 (by decide) (fun hq hf => ?_) (fun hq hf => ?_)
  · refine v_aload_n (x := (some p0)) dX6_takeJoin_13 rfl 0 rfl ?_
    refine v_geti cb_7 hk_p0 11 711 rfl (by decide) rfl (lk_n kw_88 rfl) hf dX6_takeJoin_14 (fun x4 hf => ?_)
    refine v_if_eq (tgt := 35) hf dX6_takeJoin_17 (by decide) (fun hq hf => ?_) (fun hq hf => ?_)
    · refine v_sub [0, 1] (L2 := [(0, va_rf (some p0)), (1, .int p1)]) rfl ?_
      exact t_X6_takeJoin_b35  hf
    · refine v_aload_n (x := (some p0)) dX6_takeJoin_20 rfl 0 rfl ?_
      refine v_geti cb_7 hk_p0 11 711 rfl (by decide) rfl (lk_n kw_88 rfl) hf dX6_takeJoin_21 (fun x9 hf => ?_)
      refine v_iload_n (x := p1) dX6_takeJoin_24 rfl 1 rfl ?_
      refine v_icmp_eq (tgt := 35) hf dX6_takeJoin_25 (by decide) (fun hq hf => ?_) (fun hq hf => ?_)
      · refine v_sub [0, 1] (L2 := [(0, va_rf (some p0)), (1, .int p1)]) rfl ?_
        exact t_X6_takeJoin_b35  hf
      · refine v_sub [0, 2] (L2 := [(0, va_rf (some p0)), (2, .int p2)]) rfl ?_
        exact t_X6_takeJoin_b28  hf
  · refine v_sub [0, 2] (L2 := [(0, va_rf (some p0)), (2, .int p2)]) rfl ?_
    exact t_X6_takeJoin_b28  hf
theorem dX6_takeQuestion_0 : decode cX6_takeQuestion 0 = .ok (.iload_n 1, 1) := by decide +kernel
theorem dX6_takeQuestion_1 : decode cX6_takeQuestion 1 = .ok (.bipush 24, 2) := by decide +kernel
theorem dX6_takeQuestion_3 : decode cX6_takeQuestion 3 = .ok (.if_icmp .ne 14, 3) := by decide +kernel
theorem dX6_takeQuestion_6 : decode cX6_takeQuestion 6 = .ok (.aload_n 0, 1) := by decide +kernel
theorem dX6_takeQuestion_7 : decode cX6_takeQuestion 7 = .ok (.bipush 7, 2) := by decide +kernel
theorem dX6_takeQuestion_9 : decode cX6_takeQuestion 9 = .ok (.iconst 0, 1) := by decide +kernel
theorem dX6_takeQuestion_10 : decode cX6_takeQuestion 10 = .ok (.invokevirtual 134, 3) := by decide +kernel
theorem dX6_takeQuestion_13 : decode cX6_takeQuestion 13 = .ok (.pop, 1) := by decide +kernel
theorem dX6_takeQuestion_14 : decode cX6_takeQuestion 14 = .ok (.goto 41, 3) := by decide +kernel
theorem dX6_takeQuestion_17 : decode cX6_takeQuestion 17 = .ok (.iload_n 1, 1) := by decide +kernel
theorem dX6_takeQuestion_18 : decode cX6_takeQuestion 18 = .ok (.bipush 27, 2) := by decide +kernel
theorem dX6_takeQuestion_20 : decode cX6_takeQuestion 20 = .ok (.if_icmp .ne 20, 3) := by decide +kernel
theorem dX6_takeQuestion_23 : decode cX6_takeQuestion 23 = .ok (.aload_n 0, 1) := by decide +kernel
theorem dX6_takeQuestion_24 : decode cX6_takeQuestion 24 = .ok (.bipush 10, 2) := by decide +kernel
theorem dX6_takeQuestion_26 : decode cX6_takeQuestion 26 = .ok (.iconst 0, 1) := by decide +kernel
theorem dX6_takeQuestion_27 : decode cX6_takeQuestion 27 = .ok (.invokevirtual 134, 3) := by decide +kernel
theorem dX6_takeQuestion_30 : decode cX6_takeQuestion 30 = .ok (.pop, 1) := by decide +kernel
theorem dX6_takeQuestion_31 : decode cX6_takeQuestion 31 = .ok (.aload_n 0, 1) := by decide +kernel
theorem dX6_takeQuestion_32 : decode cX6_takeQuestion 32 = .ok (.bipush 11, 2) := by decide +kernel
theorem dX6_takeQuestion_34 : decode cX6_takeQuestion 34 = .ok (.putfield 45, 3) := by decide +kernel
theorem dX6_takeQuestion_37 : decode cX6_takeQuestion 37 = .ok (.goto 18, 3) := by decide +kernel
theorem dX6_takeQuestion_40 : decode cX6_takeQuestion 40 = .ok (.aload_n 0, 1) := by decide +kernel
theorem dX6_takeQuestion_41 : decode cX6_takeQuestion 41 = .ok (.iload_n 1, 1) := by decide +kernel
theorem dX6_takeQuestion_42 : decode cX6_takeQuestion 42 = .ok (.bipush 25, 2) := by decide +kernel
theorem dX6_takeQuestion_44 : decode cX6_takeQuestion 44 = .ok (.if_icmp .ne 7, 3) := by decide +kernel
theorem dX6_takeQuestion_47 : decode cX6_takeQuestion 47 = .ok (.iconst 3, 1) := by decide +kernel
theorem dX6_takeQuestion_48 : decode cX6_takeQuestion 48 = .ok (.goto 4, 3) := by decide +kernel
theorem dX6_takeQuestion_51 : decode cX6_takeQuestion 51 = .ok (.iconst 4, 1) := by decide +kernel
theorem dX6_takeQuestion_52 : decode cX6_takeQuestion 52 = .ok (.putfield 45, 3) := by decide +kernel
theorem dX6_takeQuestion_55 : decode cX6_takeQuestion 55 = .ok (.return_, 1) := by decide +kernel
def f_X6_takeQuestion_b55 (σ : TH) : Option (Unit × TH) :=
  some ((), σ)
set_option maxHeartbeats 4000000 in
set_option maxRecDepth 100000 in
theorem t_X6_takeQuestion_b55 {l : Launch} {D : va_G} {cy : Nat → ClassId} {ka : Nat → Nat} {σ0 z : TH} {r : Unit}  {σ : TH}  (hf : f_X6_takeQuestion_b55 σ  = some (r, z)) : v_ l D cy ka cX6_takeQuestion RX6 2 none "takeQuestion" 1 23 (qf_ D cy σ0 z none) σ0 z σ 55 [] [] := by
  unfold f_X6_takeQuestion_b55 at hf
  exact v_vret hf dX6_takeQuestion_55
def f_X6_takeQuestion_b52 (σ : TH) (t0 : Int32) (t1 : Option Nat) : Option (Unit × TH) :=
  nn_ t1 fun a6 => gt_ (kd_ σ a6 = 8) <| lt_ (si_ σ 710 a6 t0) fun s7 => f_X6_takeQuestion_b55 s7 
set_option maxHeartbeats 4000000 in
set_option maxRecDepth 100000 in
theorem t_X6_takeQuestion_b52 {l : Launch} {D : va_G} {cy : Nat → ClassId} {ka : Nat → Nat} {σ0 z : TH} {r : Unit}  {σ : TH} {t0 : Int32} {t1 : Option Nat} (hf : f_X6_takeQuestion_b52 σ t0 t1 = some (r, z)) : v_ l D cy ka cX6_takeQuestion RX6 2 none "takeQuestion" 1 23 (qf_ D cy σ0 z none) σ0 z σ 52 [] [.int t0, va_rf t1] := by
  unfold f_X6_takeQuestion_b52 at hf
  obtain ⟨a6, rfl, hf⟩ := nn_of hf
  obtain ⟨hk_a6, hf⟩ := gt_of hf
  refine v_puti2 cb_7 hk_a6 10 710 rfl (by decide) rfl (lk_n kw_87 rfl) (Or.inl rfl) rfl rfl hf dX6_takeQuestion_52 (fun s7 hts7 hf => ?_)
  refine v_sub [] (L2 := []) rfl ?_
  exact t_X6_takeQuestion_b55  hf
/-- LivesAhead$Reader.takeQuestion(I)V -/
def f_X6_takeQuestion (σ : TH) (p0 : Nat) (p1 : Int32) : Option (Unit × TH) :=
  if p1 = (24 : Int32) then (gt_ (kd_ σ p0 = 8) <| bd_ (f_X6_emit σ p0 (7 : Int32) (0 : Int32)) fun x1 s2 => f_X6_takeQuestion_b55 s2 ) else (if p1 = (27 : Int32) then (gt_ (kd_ σ p0 = 8) <| bd_ (f_X6_emit σ p0 (10 : Int32) (0 : Int32)) fun x3 s4 => lt_ (si_ s4 710 p0 (11 : Int32)) fun s5 => f_X6_takeQuestion_b55 s5 ) else (if p1 = (25 : Int32) then (f_X6_takeQuestion_b52 σ (3 : Int32) (some p0)) else (f_X6_takeQuestion_b52 σ (4 : Int32) (some p0))))
set_option maxHeartbeats 4000000 in
set_option maxRecDepth 100000 in
theorem c_X6_takeQuestion {l : Launch} {D : va_G} {cy : Nat → ClassId} {ka : Nat → Nat} {σ z : TH} {p0 : Nat} {p1 : Int32} {r : Unit} (hf : f_X6_takeQuestion σ p0 p1 = some (r, z)) : ct_ l D cy ka yX6_takeQuestion 1 23 [va_rf (some p0), .int p1] σ none z := by
  unfold f_X6_takeQuestion at hf
  refine v_start (cc := cX6_takeQuestion) (own := RX6) (maxL := 2) (ret := none) (nm := "takeQuestion") (by decide +kernel) kw_810 rfl rfl (by simp [lg_sl, va_rf_cat, cat_i, cat_l]) ?_
  refine v_eqL (L2 := [(0, va_rf (some p0)), (1, .int p1)]) (by simp [lv_args, va_rf_cat, cat_i, cat_l]) ?_
  refine v_iload_n (x := p1) dX6_takeQuestion_0 rfl 1 rfl ?_
  refine v_bipush (v := 24) dX6_takeQuestion_1 (by decide) ?_
  refine v_icmp_ne (tgt := 17) hf dX6_takeQuestion_3 (by decide) (fun hq hf => ?_) (fun hq hf => ?_)
  · refine v_aload_n (x := (some p0)) dX6_takeQuestion_6 rfl 0 rfl ?_
    refine v_bipush (v := 7) dX6_takeQuestion_7 (by decide) ?_
    refine v_iconst (v := 0) dX6_takeQuestion_9 (by decide) ?_
    obtain ⟨hk_p0, hf⟩ := gt_of hf
    obtain ⟨x1, s2, hcs2, hf⟩ := bd_of hf
    have hts2 := c_X6_emit (l := l) (D := D) (cy := cy) (ka := ka) hcs2
    refine v_callV cb_7 hk_p0 (As := [.int (7 : Int32), .int (0 : Int32)]) (rest := []) hts2 yb_X6_emit kw_688 kw_690 kp_23 rfl ⟨Nat.le_of_ble_eq_true rfl, Nat.le_of_ble_eq_true rfl⟩ rfl (cat_len (Nat.le_of_ble_eq_true rfl)) dX6_takeQuestion_10 ?_
    have hk_p0 := tk_ hts2.1 hk_p0
    show v_ l D cy ka cX6_takeQuestion RX6 2 none "takeQuestion" 1 23 (qf_ D cy σ z none) σ z _ 13 [(0, va_rf (some p0)), (1, .int p1)] [.int x1]
    refine v_pop dX6_takeQuestion_13 rfl ?_
    refine v_goto (tgt := 55) dX6_takeQuestion_14 (by decide) ?_
    refine v_sub [] (L2 := []) rfl ?_
    exact t_X6_takeQuestion_b55  hf
  · refine v_iload_n (x := p1) dX6_takeQuestion_17 rfl 1 rfl ?_
    refine v_bipush (v := 27) dX6_takeQuestion_18 (by decide) ?_
    refine v_icmp_ne (tgt := 40) hf dX6_takeQuestion_20 (by decide) (fun hq hf => ?_) (fun hq hf => ?_)
    · refine v_aload_n (x := (some p0)) dX6_takeQuestion_23 rfl 0 rfl ?_
      refine v_bipush (v := 10) dX6_takeQuestion_24 (by decide) ?_
      refine v_iconst (v := 0) dX6_takeQuestion_26 (by decide) ?_
      obtain ⟨hk_p0, hf⟩ := gt_of hf
      obtain ⟨x3, s4, hcs4, hf⟩ := bd_of hf
      have hts4 := c_X6_emit (l := l) (D := D) (cy := cy) (ka := ka) hcs4
      refine v_callV cb_7 hk_p0 (As := [.int (10 : Int32), .int (0 : Int32)]) (rest := []) hts4 yb_X6_emit kw_688 kw_690 kp_23 rfl ⟨Nat.le_of_ble_eq_true rfl, Nat.le_of_ble_eq_true rfl⟩ rfl (cat_len (Nat.le_of_ble_eq_true rfl)) dX6_takeQuestion_27 ?_
      have hk_p0 := tk_ hts4.1 hk_p0
      show v_ l D cy ka cX6_takeQuestion RX6 2 none "takeQuestion" 1 23 (qf_ D cy σ z none) σ z _ 30 [(0, va_rf (some p0)), (1, .int p1)] [.int x3]
      refine v_pop dX6_takeQuestion_30 rfl ?_
      refine v_aload_n (x := (some p0)) dX6_takeQuestion_31 rfl 0 rfl ?_
      refine v_bipush (v := 11) dX6_takeQuestion_32 (by decide) ?_
      refine v_puti2 cb_7 hk_p0 10 710 rfl (by decide) rfl (lk_n kw_87 rfl) (Or.inl rfl) rfl rfl hf dX6_takeQuestion_34 (fun s5 hts5 hf => ?_)
      have hk_p0 := tk_ hts5 hk_p0
      refine v_goto (tgt := 55) dX6_takeQuestion_37 (by decide) ?_
      refine v_sub [] (L2 := []) rfl ?_
      exact t_X6_takeQuestion_b55  hf
    · refine v_aload_n (x := (some p0)) dX6_takeQuestion_40 rfl 0 rfl ?_
      refine v_iload_n (x := p1) dX6_takeQuestion_41 rfl 1 rfl ?_
      refine v_bipush (v := 25) dX6_takeQuestion_42 (by decide) ?_
      refine v_icmp_ne (tgt := 51) hf dX6_takeQuestion_44 (by decide) (fun hq hf => ?_) (fun hq hf => ?_)
      · refine v_iconst (v := 3) dX6_takeQuestion_47 (by decide) ?_
        refine v_goto (tgt := 52) dX6_takeQuestion_48 (by decide) ?_
        refine v_sub [] (L2 := []) rfl ?_
        exact t_X6_takeQuestion_b52  hf
      · refine v_iconst (v := 4) dX6_takeQuestion_51 (by decide) ?_
        refine v_sub [] (L2 := []) rfl ?_
        exact t_X6_takeQuestion_b52  hf
theorem dX6_takeWord_0 : decode cX6_takeWord 0 = .ok (.aload_n 0, 1) := by decide +kernel
theorem dX6_takeWord_1 : decode cX6_takeWord 1 = .ok (.getfield 45, 3) := by decide +kernel
theorem dX6_takeWord_4 : decode cX6_takeWord 4 = .ok (.iconst 3, 1) := by decide +kernel
theorem dX6_takeWord_5 : decode cX6_takeWord 5 = .ok (.if_icmp .eq 11, 3) := by decide +kernel
theorem dX6_takeWord_8 : decode cX6_takeWord 8 = .ok (.aload_n 0, 1) := by decide +kernel
theorem dX6_takeWord_9 : decode cX6_takeWord 9 = .ok (.getfield 45, 3) := by decide +kernel
theorem dX6_takeWord_12 : decode cX6_takeWord 12 = .ok (.iconst 4, 1) := by decide +kernel
theorem dX6_takeWord_13 : decode cX6_takeWord 13 = .ok (.if_icmp .ne 12, 3) := by decide +kernel
theorem dX6_takeWord_16 : decode cX6_takeWord 16 = .ok (.aload_n 0, 1) := by decide +kernel
theorem dX6_takeWord_17 : decode cX6_takeWord 17 = .ok (.iload_n 1, 1) := by decide +kernel
theorem dX6_takeWord_18 : decode cX6_takeWord 18 = .ok (.iload_n 2, 1) := by decide +kernel
theorem dX6_takeWord_19 : decode cX6_takeWord 19 = .ok (.invokevirtual 208, 3) := by decide +kernel
theorem dX6_takeWord_22 : decode cX6_takeWord 22 = .ok (.goto 158, 3) := by decide +kernel
theorem dX6_takeWord_25 : decode cX6_takeWord 25 = .ok (.iload_n 1, 1) := by decide +kernel
theorem dX6_takeWord_26 : decode cX6_takeWord 26 = .ok (.bipush 22, 2) := by decide +kernel
theorem dX6_takeWord_28 : decode cX6_takeWord 28 = .ok (.if_icmp .eq 9, 3) := by decide +kernel
theorem dX6_takeWord_31 : decode cX6_takeWord 31 = .ok (.iload_n 1, 1) := by decide +kernel
theorem dX6_takeWord_32 : decode cX6_takeWord 32 = .ok (.bipush 23, 2) := by decide +kernel
theorem dX6_takeWord_34 : decode cX6_takeWord 34 = .ok (.if_icmp .ne 22, 3) := by decide +kernel
theorem dX6_takeWord_37 : decode cX6_takeWord 37 = .ok (.aload_n 0, 1) := by decide +kernel
theorem dX6_takeWord_38 : decode cX6_takeWord 38 = .ok (.iload_n 1, 1) := by decide +kernel
theorem dX6_takeWord_39 : decode cX6_takeWord 39 = .ok (.bipush 22, 2) := by decide +kernel
theorem dX6_takeWord_41 : decode cX6_takeWord 41 = .ok (.if_icmp .ne 7, 3) := by decide +kernel
theorem dX6_takeWord_44 : decode cX6_takeWord 44 = .ok (.iconst 1, 1) := by decide +kernel
theorem dX6_takeWord_45 : decode cX6_takeWord 45 = .ok (.goto 4, 3) := by decide +kernel
theorem dX6_takeWord_48 : decode cX6_takeWord 48 = .ok (.iconst 2, 1) := by decide +kernel
theorem dX6_takeWord_49 : decode cX6_takeWord 49 = .ok (.iload_n 2, 1) := by decide +kernel
theorem dX6_takeWord_50 : decode cX6_takeWord 50 = .ok (.invokevirtual 211, 3) := by decide +kernel
theorem dX6_takeWord_53 : decode cX6_takeWord 53 = .ok (.goto 127, 3) := by decide +kernel
theorem dX6_takeWord_56 : decode cX6_takeWord 56 = .ok (.iload_n 1, 1) := by decide +kernel
theorem dX6_takeWord_57 : decode cX6_takeWord 57 = .ok (.bipush 21, 2) := by decide +kernel
theorem dX6_takeWord_59 : decode cX6_takeWord 59 = .ok (.if_icmp .ne 18, 3) := by decide +kernel
theorem dX6_takeWord_62 : decode cX6_takeWord 62 = .ok (.aload_n 0, 1) := by decide +kernel
theorem dX6_takeWord_63 : decode cX6_takeWord 63 = .ok (.getfield 45, 3) := by decide +kernel
theorem dX6_takeWord_66 : decode cX6_takeWord 66 = .ok (.iconst 1, 1) := by decide +kernel
theorem dX6_takeWord_67 : decode cX6_takeWord 67 = .ok (.if_icmp .ne 10, 3) := by decide +kernel
theorem dX6_takeWord_70 : decode cX6_takeWord 70 = .ok (.aload_n 0, 1) := by decide +kernel
theorem dX6_takeWord_71 : decode cX6_takeWord 71 = .ok (.invokevirtual 214, 3) := by decide +kernel
theorem dX6_takeWord_74 : decode cX6_takeWord 74 = .ok (.goto 106, 3) := by decide +kernel
theorem dX6_takeWord_77 : decode cX6_takeWord 77 = .ok (.iload_n 1, 1) := by decide +kernel
theorem dX6_takeWord_78 : decode cX6_takeWord 78 = .ok (.bipush 24, 2) := by decide +kernel
theorem dX6_takeWord_80 : decode cX6_takeWord 80 = .ok (.if_icmp .lt 32, 3) := by decide +kernel
theorem dX6_takeWord_83 : decode cX6_takeWord 83 = .ok (.aload_n 0, 1) := by decide +kernel
theorem dX6_takeWord_84 : decode cX6_takeWord 84 = .ok (.getfield 45, 3) := by decide +kernel
theorem dX6_takeWord_87 : decode cX6_takeWord 87 = .ok (.iconst 2, 1) := by decide +kernel
theorem dX6_takeWord_88 : decode cX6_takeWord 88 = .ok (.if_icmp .ne 24, 3) := by decide +kernel
theorem dX6_takeWord_91 : decode cX6_takeWord 91 = .ok (.iload_n 1, 1) := by decide +kernel
theorem dX6_takeWord_92 : decode cX6_takeWord 92 = .ok (.bipush 24, 2) := by decide +kernel
theorem dX6_takeWord_94 : decode cX6_takeWord 94 = .ok (.if_icmp .eq 10, 3) := by decide +kernel
theorem dX6_takeWord_97 : decode cX6_takeWord 97 = .ok (.aload_n 0, 1) := by decide +kernel
theorem dX6_takeWord_98 : decode cX6_takeWord 98 = .ok (.getfield 35, 3) := by decide +kernel
theorem dX6_takeWord_101 : decode cX6_takeWord 101 = .ok (.ifCond .ne 11, 3) := by decide +kernel
theorem dX6_takeWord_104 : decode cX6_takeWord 104 = .ok (.aload_n 0, 1) := by decide +kernel
theorem dX6_takeWord_105 : decode cX6_takeWord 105 = .ok (.iload_n 1, 1) := by decide +kernel
theorem dX6_takeWord_106 : decode cX6_takeWord 106 = .ok (.invokevirtual 217, 3) := by decide +kernel
theorem dX6_takeWord_109 : decode cX6_takeWord 109 = .ok (.goto 71, 3) := by decide +kernel
theorem dX6_takeWord_112 : decode cX6_takeWord 112 = .ok (.iload_n 1, 1) := by decide +kernel
theorem dX6_takeWord_113 : decode cX6_takeWord 113 = .ok (.bipush 21, 2) := by decide +kernel
theorem dX6_takeWord_115 : decode cX6_takeWord 115 = .ok (.if_icmp .ge 10, 3) := by decide +kernel
theorem dX6_takeWord_118 : decode cX6_takeWord 118 = .ok (.aload_n 0, 1) := by decide +kernel
theorem dX6_takeWord_119 : decode cX6_takeWord 119 = .ok (.invokevirtual 147, 3) := by decide +kernel
theorem dX6_takeWord_122 : decode cX6_takeWord 122 = .ok (.ifCond .ne 12, 3) := by decide +kernel
theorem dX6_takeWord_125 : decode cX6_takeWord 125 = .ok (.aload_n 0, 1) := by decide +kernel
theorem dX6_takeWord_126 : decode cX6_takeWord 126 = .ok (.iconst 1, 1) := by decide +kernel
theorem dX6_takeWord_127 : decode cX6_takeWord 127 = .ok (.iload_n 2, 1) := by decide +kernel
theorem dX6_takeWord_128 : decode cX6_takeWord 128 = .ok (.invokevirtual 121, 3) := by decide +kernel
theorem dX6_takeWord_131 : decode cX6_takeWord 131 = .ok (.goto 49, 3) := by decide +kernel
theorem dX6_takeWord_134 : decode cX6_takeWord 134 = .ok (.aload_n 0, 1) := by decide +kernel
theorem dX6_takeWord_135 : decode cX6_takeWord 135 = .ok (.iload_n 1, 1) := by decide +kernel
theorem dX6_takeWord_136 : decode cX6_takeWord 136 = .ok (.invokevirtual 220, 3) := by decide +kernel
theorem dX6_takeWord_139 : decode cX6_takeWord 139 = .ok (.ifCond .ne 12, 3) := by decide +kernel
theorem dX6_takeWord_142 : decode cX6_takeWord 142 = .ok (.aload_n 0, 1) := by decide +kernel
theorem dX6_takeWord_143 : decode cX6_takeWord 143 = .ok (.iconst 2, 1) := by decide +kernel
theorem dX6_takeWord_144 : decode cX6_takeWord 144 = .ok (.iload_n 2, 1) := by decide +kernel
theorem dX6_takeWord_145 : decode cX6_takeWord 145 = .ok (.invokevirtual 121, 3) := by decide +kernel
theorem dX6_takeWord_148 : decode cX6_takeWord 148 = .ok (.goto 32, 3) := by decide +kernel
theorem dX6_takeWord_151 : decode cX6_takeWord 151 = .ok (.aload_n 0, 1) := by decide +kernel
theorem dX6_takeWord_152 : decode cX6_takeWord 152 = .ok (.dup, 1) := by decide +kernel
theorem dX6_takeWord_153 : decode cX6_takeWord 153 = .ok (.getfield 69, 3) := by decide +kernel
theorem dX6_takeWord_156 : decode cX6_takeWord 156 = .ok (.iload_n 1, 1) := by decide +kernel
theorem dX6_takeWord_157 : decode cX6_takeWord 157 = .ok (.bipush 10, 2) := by decide +kernel
theorem dX6_takeWord_159 : decode cX6_takeWord 159 = .ok (.if_icmp .ge 9, 3) := by decide +kernel
theorem dX6_takeWord_162 : decode cX6_takeWord 162 = .ok (.iconst 1, 1) := by decide +kernel
theorem dX6_takeWord_163 : decode cX6_takeWord 163 = .ok (.iload_n 1, 1) := by decide +kernel
theorem dX6_takeWord_164 : decode cX6_takeWord 164 = .ok (.ishl, 1) := by decide +kernel
theorem dX6_takeWord_165 : decode cX6_takeWord 165 = .ok (.goto 4, 3) := by decide +kernel
theorem dX6_takeWord_168 : decode cX6_takeWord 168 = .ok (.iconst 0, 1) := by decide +kernel
theorem dX6_takeWord_169 : decode cX6_takeWord 169 = .ok (.ior, 1) := by decide +kernel
theorem dX6_takeWord_170 : decode cX6_takeWord 170 = .ok (.putfield 69, 3) := by decide +kernel
theorem dX6_takeWord_173 : decode cX6_takeWord 173 = .ok (.aload_n 0, 1) := by decide +kernel
theorem dX6_takeWord_174 : decode cX6_takeWord 174 = .ok (.iconst 2, 1) := by decide +kernel
theorem dX6_takeWord_175 : decode cX6_takeWord 175 = .ok (.iload_n 1, 1) := by decide +kernel
theorem dX6_takeWord_176 : decode cX6_takeWord 176 = .ok (.iload_n 2, 1) := by decide +kernel
theorem dX6_takeWord_177 : decode cX6_takeWord 177 = .ok (.invokevirtual 151, 3) := by decide +kernel
theorem dX6_takeWord_180 : decode cX6_takeWord 180 = .ok (.return_, 1) := by decide +kernel
def f_X6_takeWord_b180 (σ : TH) : Option (Unit × TH) :=
  some ((), σ)
set_option maxHeartbeats 4000000 in
set_option maxRecDepth 100000 in
theorem t_X6_takeWord_b180 {l : Launch} {D : va_G} {cy : Nat → ClassId} {ka : Nat → Nat} {σ0 z : TH} {r : Unit}  {σ : TH}  (hf : f_X6_takeWord_b180 σ  = some (r, z)) : v_ l D cy ka cX6_takeWord RX6 3 none "takeWord" 3 65 (qf_ D cy σ0 z none) σ0 z σ 180 [] [] := by
  unfold f_X6_takeWord_b180 at hf
  exact v_vret hf dX6_takeWord_180
def f_X6_takeWord_b16 (σ : TH) (l0 : Nat) (l1 : Int32) (l2 : Int32) : Option (Unit × TH) :=
  gt_ (kd_ σ l0 = 8) <| bd_ (f_X6_takeFact σ l0 l1 l2) fun x2 s3 => f_X6_takeWord_b180 s3 
set_option maxHeartbeats 4000000 in
set_option maxRecDepth 100000 in
theorem t_X6_takeWord_b16 {l : Launch} {D : va_G} {cy : Nat → ClassId} {ka : Nat → Nat} {σ0 z : TH} {r : Unit}  {σ : TH} {l0 : Nat} {l1 : Int32} {l2 : Int32} (hf : f_X6_takeWord_b16 σ l0 l1 l2 = some (r, z)) : v_ l D cy ka cX6_takeWord RX6 3 none "takeWord" 3 65 (qf_ D cy σ0 z none) σ0 z σ 16 [(0, va_rf (some l0)), (1, .int l1), (2, .int l2)] [] := by
  unfold f_X6_takeWord_b16 at hf
  refine v_aload_n (x := (some l0)) dX6_takeWord_16 rfl 0 rfl ?_
  refine v_iload_n (x := l1) dX6_takeWord_17 rfl 1 rfl ?_
  refine v_iload_n (x := l2) dX6_takeWord_18 rfl 2 rfl ?_
  obtain ⟨hk_l0, hf⟩ := gt_of hf
  obtain ⟨x2, s3, hcs3, hf⟩ := bd_of hf
  have hts3 := c_X6_takeFact (l := l) (D := D) (cy := cy) (ka := ka) hcs3
  refine v_callV cb_7 hk_l0 (As := [.int l1, .int l2]) (rest := []) hts3 yb_X6_takeFact kw_790 kw_792 kp_31 rfl ⟨Nat.le_of_ble_eq_true rfl, Nat.le_of_ble_eq_true rfl⟩ rfl (cat_len (Nat.le_of_ble_eq_true rfl)) dX6_takeWord_19 ?_
  have hk_l0 := tk_ hts3.1 hk_l0
  show v_ l D cy ka cX6_takeWord RX6 3 none "takeWord" 3 65 (qf_ D cy σ0 z none) σ0 z _ 22 [(0, va_rf (some l0)), (1, .int l1), (2, .int l2)] []
  refine v_goto (tgt := 180) dX6_takeWord_22 (by decide) ?_
  refine v_sub [] (L2 := []) rfl ?_
  exact t_X6_takeWord_b180  hf
def f_X6_takeWord_b49 (σ : TH) (l2 : Int32) (t0 : Int32) (t1 : Option Nat) : Option (Unit × TH) :=
  nn_ t1 fun a5 => gt_ (kd_ σ a5 = 8) <| bd_ (f_X6_takeJoin σ a5 t0 l2) fun x6 s7 => f_X6_takeWord_b180 s7 
set_option maxHeartbeats 4000000 in
set_option maxRecDepth 100000 in
theorem t_X6_takeWord_b49 {l : Launch} {D : va_G} {cy : Nat → ClassId} {ka : Nat → Nat} {σ0 z : TH} {r : Unit}  {σ : TH} {l2 : Int32} {t0 : Int32} {t1 : Option Nat} (hf : f_X6_takeWord_b49 σ l2 t0 t1 = some (r, z)) : v_ l D cy ka cX6_takeWord RX6 3 none "takeWord" 3 65 (qf_ D cy σ0 z none) σ0 z σ 49 [(2, .int l2)] [.int t0, va_rf t1] := by
  unfold f_X6_takeWord_b49 at hf
  refine v_iload_n (x := l2) dX6_takeWord_49 rfl 0 rfl ?_
  obtain ⟨a5, rfl, hf⟩ := nn_of hf
  obtain ⟨hk_a5, hf⟩ := gt_of hf
  obtain ⟨x6, s7, hcs7, hf⟩ := bd_of hf
  have hts7 := c_X6_takeJoin (l := l) (D := D) (cy := cy) (ka := ka) hcs7
  refine v_callV cb_7 hk_a5 (As := [.int t0, .int l2]) (rest := []) hts7 yb_X6_takeJoin kw_795 kw_797 kp_32 rfl ⟨Nat.le_of_ble_eq_true rfl, Nat.le_of_ble_eq_true rfl⟩ rfl (cat_len (Nat.le_of_ble_eq_true rfl)) dX6_takeWord_50 ?_
  show v_ l D cy ka cX6_takeWord RX6 3 none "takeWord" 3 65 (qf_ D cy σ0 z none) σ0 z _ 53 [(2, .int l2)] []
  refine v_goto (tgt := 180) dX6_takeWord_53 (by decide) ?_
  refine v_sub [] (L2 := []) rfl ?_
  exact t_X6_takeWord_b180  hf
def f_X6_takeWord_b37 (σ : TH) (l0 : Nat) (l1 : Int32) (l2 : Int32) : Option (Unit × TH) :=
  if l1 = (22 : Int32) then (f_X6_takeWord_b49 σ l2 (1 : Int32) (some l0)) else (f_X6_takeWord_b49 σ l2 (2 : Int32) (some l0))
set_option maxHeartbeats 4000000 in
set_option maxRecDepth 100000 in
theorem t_X6_takeWord_b37 {l : Launch} {D : va_G} {cy : Nat → ClassId} {ka : Nat → Nat} {σ0 z : TH} {r : Unit}  {σ : TH} {l0 : Nat} {l1 : Int32} {l2 : Int32} (hf : f_X6_takeWord_b37 σ l0 l1 l2 = some (r, z)) : v_ l D cy ka cX6_takeWord RX6 3 none "takeWord" 3 65 (qf_ D cy σ0 z none) σ0 z σ 37 [(0, va_rf (some l0)), (1, .int l1), (2, .int l2)] [] := by
  unfold f_X6_takeWord_b37 at hf
  refine v_aload_n (x := (some l0)) dX6_takeWord_37 rfl 0 rfl ?_
  refine v_iload_n (x := l1) dX6_takeWord_38 rfl 1 rfl ?_
  refine v_bipush (v := 22) dX6_takeWord_39 (by decide) ?_
  refine v_icmp_ne (tgt := 48) hf dX6_takeWord_41 (by decide) (fun hq hf => ?_) (fun hq hf => ?_)
  · refine v_iconst (v := 1) dX6_takeWord_44 (by decide) ?_
    refine v_goto (tgt := 49) dX6_takeWord_45 (by decide) ?_
    refine v_sub [2] (L2 := [(2, .int l2)]) rfl ?_
    exact t_X6_takeWord_b49  hf
  · refine v_iconst (v := 2) dX6_takeWord_48 (by decide) ?_
    refine v_sub [2] (L2 := [(2, .int l2)]) rfl ?_
    exact t_X6_takeWord_b49  hf
def f_X6_takeWord_b125 (σ : TH) (l0 : Nat) (l2 : Int32) : Option (Unit × TH) :=
  gt_ (kd_ σ l0 = 8) <| bd_ (f_X6_fail σ l0 (1 : Int32) l2) fun x11 s12 => f_X6_takeWord_b180 s12 
set_option maxHeartbeats 4000000 in
set_option maxRecDepth 100000 in
theorem t_X6_takeWord_b125 {l : Launch} {D : va_G} {cy : Nat → ClassId} {ka : Nat → Nat} {σ0 z : TH} {r : Unit}  {σ : TH} {l0 : Nat} {l2 : Int32} (hf : f_X6_takeWord_b125 σ l0 l2 = some (r, z)) : v_ l D cy ka cX6_takeWord RX6 3 none "takeWord" 3 65 (qf_ D cy σ0 z none) σ0 z σ 125 [(0, va_rf (some l0)), (2, .int l2)] [] := by
  unfold f_X6_takeWord_b125 at hf
  refine v_aload_n (x := (some l0)) dX6_takeWord_125 rfl 0 rfl ?_
  refine v_iconst (v := 1) dX6_takeWord_126 (by decide) ?_
  refine v_iload_n (x := l2) dX6_takeWord_127 rfl 1 rfl ?_
  obtain ⟨hk_l0, hf⟩ := gt_of hf
  obtain ⟨x11, s12, hcs12, hf⟩ := bd_of hf
  have hts12 := c_X6_fail (l := l) (D := D) (cy := cy) (ka := ka) hcs12
  refine v_callV cb_7 hk_l0 (As := [.int (1 : Int32), .int l2]) (rest := []) hts12 yb_X6_fail kw_676 kw_678 kp_20 rfl ⟨Nat.le_of_ble_eq_true rfl, Nat.le_of_ble_eq_true rfl⟩ rfl (cat_len (Nat.le_of_ble_eq_true rfl)) dX6_takeWord_128 ?_
  have hk_l0 := tk_ hts12.1 hk_l0
  show v_ l D cy ka cX6_takeWord RX6 3 none "takeWord" 3 65 (qf_ D cy σ0 z none) σ0 z _ 131 [(0, va_rf (some l0)), (2, .int l2)] []
  refine v_goto (tgt := 180) dX6_takeWord_131 (by decide) ?_
  refine v_sub [] (L2 := []) rfl ?_
  exact t_X6_takeWord_b180  hf
def f_X6_takeWord_b169 (σ : TH) (l0 : Nat) (l1 : Int32) (l2 : Int32) (t0 : Int32) (t1 : Int32) (t2 : Option Nat) : Option (Unit × TH) :=
  nn_ t2 fun a20 => gt_ (kd_ σ a20 = 8) <| lt_ (si_ σ 718 a20 (t1 ||| t0)) fun s21 => gt_ (kd_ s21 l0 = 8) <| bd_ (f_X6_takeTerm s21 l0 (2 : Int32) l1 l2) fun x22 s23 => f_X6_takeWord_b180 s23 
set_option maxHeartbeats 4000000 in
set_option maxRecDepth 100000 in
theorem t_X6_takeWord_b169 {l : Launch} {D : va_G} {cy : Nat → ClassId} {ka : Nat → Nat} {σ0 z : TH} {r : Unit}  {σ : TH} {l0 : Nat} {l1 : Int32} {l2 : Int32} {t0 : Int32} {t1 : Int32} {t2 : Option Nat} (hf : f_X6_takeWord_b169 σ l0 l1 l2 t0 t1 t2 = some (r, z)) : v_ l D cy ka cX6_takeWord RX6 3 none "takeWord" 3 65 (qf_ D cy σ0 z none) σ0 z σ 169 [(0, va_rf (some l0)), (1, .int l1), (2, .int l2)] [.int t0, .int t1, va_rf t2] := by
  unfold f_X6_takeWord_b169 at hf
  refine v_ior dX6_takeWord_169 ?_
  obtain ⟨a20, rfl, hf⟩ := nn_of hf
  obtain ⟨hk_a20, hf⟩ := gt_of hf
  refine v_puti2 cb_7 hk_a20 18 718 rfl (by decide) rfl (lk_n kw_95 rfl) (Or.inl rfl) rfl rfl hf dX6_takeWord_170 (fun s21 hts21 hf => ?_)
  refine v_aload_n (x := (some l0)) dX6_takeWord_173 rfl 0 rfl ?_
  refine v_iconst (v := 2) dX6_takeWord_174 (by decide) ?_
  refine v_iload_n (x := l1) dX6_takeWord_175 rfl 1 rfl ?_
  refine v_iload_n (x := l2) dX6_takeWord_176 rfl 2 rfl ?_
  obtain ⟨hk_l0, hf⟩ := gt_of hf
  obtain ⟨x22, s23, hcs23, hf⟩ := bd_of hf
  have hts23 := c_X6_takeTerm (l := l) (D := D) (cy := cy) (ka := ka) hcs23
  refine v_callV cb_7 hk_l0 (As := [.int (2 : Int32), .int l1, .int l2]) (rest := []) hts23 yb_X6_takeTerm kw_819 kw_821 kp_38 rfl ⟨Nat.le_of_ble_eq_true rfl, Nat.le_of_ble_eq_true rfl⟩ rfl (cat_len (Nat.le_of_ble_eq_true rfl)) dX6_takeWord_177 ?_
  have hk_l0 := tk_ hts23.1 hk_l0
  show v_ l D cy ka cX6_takeWord RX6 3 none "takeWord" 3 65 (qf_ D cy σ0 z none) σ0 z _ 180 [(0, va_rf (some l0)), (1, .int l1), (2, .int l2)] []
  refine v_sub [] (L2 := []) rfl ?_
  exact t_X6_takeWord_b180  hf
def f_X6_takeWord_b112 (σ : TH) (l0 : Nat) (l1 : Int32) (l2 : Int32) : Option (Unit × TH) :=
  if (21 : Int32) ≤ l1 then (f_X6_takeWord_b125 σ l0 l2) else (gt_ (kd_ σ l0 = 8) <| bd_ (f_X6_termMayCome σ l0) fun x13 s14 => if x13 = 0 then (f_X6_takeWord_b125 s14 l0 l2) else (bd_ (f_X6_isName s14 l0 l1) fun x15 s16 => if x15 = 0 then (bd_ (f_X6_fail s16 l0 (2 : Int32) l2) fun x17 s18 => f_X6_takeWord_b180 s18 ) else (lt_ (fi_ s16 718 l0) fun x19 => if (10 : Int32) ≤ l1 then (f_X6_takeWord_b169 s16 l0 l1 l2 (0 : Int32) x19 (some l0)) else (f_X6_takeWord_b169 s16 l0 l1 l2 ((1 : Int32) <<< (l1 &&& 31)) x19 (some l0)))))
set_option maxHeartbeats 4000000 in
set_option maxRecDepth 100000 in
theorem t_X6_takeWord_b112 {l : Launch} {D : va_G} {cy : Nat → ClassId} {ka : Nat → Nat} {σ0 z : TH} {r : Unit}  {σ : TH} {l0 : Nat} {l1 : Int32} {l2 : Int32} (hf : f_X6_takeWord_b112 σ l0 l1 l2 = some (r, z)) : v_ l D cy ka cX6_takeWord RX6 3 none "takeWord" 3 65 (qf_ D cy σ0 z none) σ0 z σ 112 [(0, va_rf (some l0)), (1, .int l1), (2, .int l2)] [] := by
  unfold f_X6_takeWord_b112 at hf
  refine v_iload_n (x := l1) dX6_takeWord_112 rfl 1 rfl ?_
  refine v_bipush (v := 21) dX6_takeWord_113 (by decide) ?_
  refine v_icmp_ge (tgt := 125) hf dX6_takeWord_115 (by decide) (fun hq hf => ?_) (fun hq hf => ?_)
  · refine v_sub [0, 2] (L2 := [(0, va_rf (some l0)), (2, .int l2)]) rfl ?_
    exact t_X6_takeWord_b125  hf
  · refine v_aload_n (x := (some l0)) dX6_takeWord_118 rfl 0 rfl ?_
    obtain ⟨hk_l0, hf⟩ := gt_of hf
    obtain ⟨x13, s14, hcs14, hf⟩ := bd_of hf
    have hts14 := c_X6_termMayCome (l := l) (D := D) (cy := cy) (ka := ka) hcs14
    refine v_callV cb_7 hk_l0 (As := []) (rest := []) hts14 yb_X6_termMayCome kw_811 kw_813 kp_36 rfl ⟨Nat.le_of_ble_eq_true rfl, Nat.le_of_ble_eq_true rfl⟩ rfl (cat_len (Nat.le_of_ble_eq_true rfl)) dX6_takeWord_119 ?_
    have hk_l0 := tk_ hts14.1 hk_l0
    show v_ l D cy ka cX6_takeWord RX6 3 none "takeWord" 3 65 (qf_ D cy σ0 z none) σ0 z _ 122 [(0, va_rf (some l0)), (1, .int l1), (2, .int l2)] [.int x13]
    refine v_if_ne (tgt := 134) hf dX6_takeWord_122 (by decide) (fun hq hf => ?_) (fun hq hf => ?_)
    · refine v_sub [0, 2] (L2 := [(0, va_rf (some l0)), (2, .int l2)]) rfl ?_
      exact t_X6_takeWord_b125  hf
    · refine v_aload_n (x := (some l0)) dX6_takeWord_134 rfl 0 rfl ?_
      refine v_iload_n (x := l1) dX6_takeWord_135 rfl 1 rfl ?_
      obtain ⟨x15, s16, hcs16, hf⟩ := bd_of hf
      have hts16 := c_X6_isName (l := l) (D := D) (cy := cy) (ka := ka) hcs16
      refine v_callV cb_7 hk_l0 (As := [.int l1]) (rest := []) hts16 yb_X6_isName kw_815 kw_817 kp_37 rfl ⟨Nat.le_of_ble_eq_true rfl, Nat.le_of_ble_eq_true rfl⟩ rfl (cat_len (Nat.le_of_ble_eq_true rfl)) dX6_takeWord_136 ?_
      have hk_l0 := tk_ hts16.1 hk_l0
      show v_ l D cy ka cX6_takeWord RX6 3 none "takeWord" 3 65 (qf_ D cy σ0 z none) σ0 z _ 139 [(0, va_rf (some l0)), (1, .int l1), (2, .int l2)] [.int x15]
      refine v_if_ne (tgt := 151) hf dX6_takeWord_139 (by decide) (fun hq hf => ?_) (fun hq hf => ?_)
      · refine v_aload_n (x := (some l0)) dX6_takeWord_142 rfl 0 rfl ?_
        refine v_iconst (v := 2) dX6_takeWord_143 (by decide) ?_
        refine v_iload_n (x := l2) dX6_takeWord_144 rfl 2 rfl ?_
        obtain ⟨x17, s18, hcs18, hf⟩ := bd_of hf
        have hts18 := c_X6_fail (l := l) (D := D) (cy := cy) (ka := ka) hcs18
        refine v_callV cb_7 hk_l0 (As := [.int (2 : Int32), .int l2]) (rest := []) hts18 yb_X6_fail kw_676 kw_678 kp_20 rfl ⟨Nat.le_of_ble_eq_true rfl, Nat.le_of_ble_eq_true rfl⟩ rfl (cat_len (Nat.le_of_ble_eq_true rfl)) dX6_takeWord_145 ?_
        have hk_l0 := tk_ hts18.1 hk_l0
        show v_ l D cy ka cX6_takeWord RX6 3 none "takeWord" 3 65 (qf_ D cy σ0 z none) σ0 z _ 148 [(0, va_rf (some l0)), (1, .int l1), (2, .int l2)] []
        refine v_goto (tgt := 180) dX6_takeWord_148 (by decide) ?_
        refine v_sub [] (L2 := []) rfl ?_
        exact t_X6_takeWord_b180  hf
      · refine v_aload_n (x := (some l0)) dX6_takeWord_151 rfl 0 rfl ?_
        refine v_dup dX6_takeWord_152 (va_rf_cat _) ?_
        refine v_geti cb_7 hk_l0 18 718 rfl (by decide) rfl (lk_n kw_95 rfl) hf dX6_takeWord_153 (fun x19 hf => ?_)
        refine v_iload_n (x := l1) dX6_takeWord_156 rfl 1 rfl ?_
        refine v_bipush (v := 10) dX6_takeWord_157 (by decide) ?_
        refine v_icmp_ge (tgt := 168) hf dX6_takeWord_159 (by decide) (fun hq hf => ?_) (fun hq hf => ?_)
        · refine v_iconst (v := 0) dX6_takeWord_168 (by decide) ?_
          refine v_sub [0, 1, 2] (L2 := [(0, va_rf (some l0)), (1, .int l1), (2, .int l2)]) rfl ?_
          exact t_X6_takeWord_b169  hf
        · refine v_iconst (v := 1) dX6_takeWord_162 (by decide) ?_
          refine v_iload_n (x := l1) dX6_takeWord_163 rfl 1 rfl ?_
          refine v_ishl dX6_takeWord_164 ?_
          refine v_goto (tgt := 169) dX6_takeWord_165 (by decide) ?_
          refine v_sub [0, 1, 2] (L2 := [(0, va_rf (some l0)), (1, .int l1), (2, .int l2)]) rfl ?_
          exact t_X6_takeWord_b169  hf
def f_X6_takeWord_b104 (σ : TH) (l0 : Nat) (l1 : Int32) : Option (Unit × TH) :=
  gt_ (kd_ σ l0 = 8) <| bd_ (f_X6_takeQuestion σ l0 l1) fun x25 s26 => f_X6_takeWord_b180 s26 
set_option maxHeartbeats 4000000 in
set_option maxRecDepth 100000 in
theorem t_X6_takeWord_b104 {l : Launch} {D : va_G} {cy : Nat → ClassId} {ka : Nat → Nat} {σ0 z : TH} {r : Unit}  {σ : TH} {l0 : Nat} {l1 : Int32} (hf : f_X6_takeWord_b104 σ l0 l1 = some (r, z)) : v_ l D cy ka cX6_takeWord RX6 3 none "takeWord" 3 65 (qf_ D cy σ0 z none) σ0 z σ 104 [(0, va_rf (some l0)), (1, .int l1)] [] := by
  unfold f_X6_takeWord_b104 at hf
  refine v_aload_n (x := (some l0)) dX6_takeWord_104 rfl 0 rfl ?_
  refine v_iload_n (x := l1) dX6_takeWord_105 rfl 1 rfl ?_
  obtain ⟨hk_l0, hf⟩ := gt_of hf
  obtain ⟨x25, s26, hcs26, hf⟩ := bd_of hf
  have hts26 := c_X6_takeQuestion (l := l) (D := D) (cy := cy) (ka := ka) hcs26
  refine v_callV cb_7 hk_l0 (As := [.int l1]) (rest := []) hts26 yb_X6_takeQuestion kw_807 kw_809 kp_35 rfl ⟨Nat.le_of_ble_eq_true rfl, Nat.le_of_ble_eq_true rfl⟩ rfl (cat_len (Nat.le_of_ble_eq_true rfl)) dX6_takeWord_106 ?_
  have hk_l0 := tk_ hts26.1 hk_l0
  show v_ l D cy ka cX6_takeWord RX6 3 none "takeWord" 3 65 (qf_ D cy σ0 z none) σ0 z _ 109 [(0, va_rf (some l0)), (1, .int l1)] []
  refine v_goto (tgt := 180) dX6_takeWord_109 (by decide) ?_
  refine v_sub [] (L2 := []) rfl ?_
  exact t_X6_takeWord_b180  hf
def f_X6_takeWord_b77 (σ : TH) (l0 : Nat) (l1 : Int32) (l2 : Int32) : Option (Unit × TH) :=
  if l1 < (24 : Int32) then (f_X6_takeWord_b112 σ l0 l1 l2) else (gt_ (kd_ σ l0 = 8) <| lt_ (fi_ σ 710 l0) fun x24 => if x24 = (2 : Int32) then (if l1 = (24 : Int32) then (f_X6_takeWord_b104 σ l0 l1) else (lt_ (fi_ σ 707 l0) fun x27 => if x27 = 0 then (f_X6_takeWord_b104 σ l0 l1) else (f_X6_takeWord_b112 σ l0 l1 l2))) else (f_X6_takeWord_b112 σ l0 l1 l2))
set_option maxHeartbeats 4000000 in
set_option maxRecDepth 100000 in
theorem t_X6_takeWord_b77 {l : Launch} {D : va_G} {cy : Nat → ClassId} {ka : Nat → Nat} {σ0 z : TH} {r : Unit}  {σ : TH} {l0 : Nat} {l1 : Int32} {l2 : Int32} (hf : f_X6_takeWord_b77 σ l0 l1 l2 = some (r, z)) : v_ l D cy ka cX6_takeWord RX6 3 none "takeWord" 3 65 (qf_ D cy σ0 z none) σ0 z σ 77 [(0, va_rf (some l0)), (1, .int l1), (2, .int l2)] [] := by
  unfold f_X6_takeWord_b77 at hf
  refine v_iload_n (x := l1) dX6_takeWord_77 rfl 1 rfl ?_
  refine v_bipush (v := 24) dX6_takeWord_78 (by decide) ?_
  refine v_icmp_lt (tgt := 112) hf dX6_takeWord_80 (by decide) (fun hq hf => ?_) (fun hq hf => ?_)
  · refine v_sub [0, 1, 2] (L2 := [(0, va_rf (some l0)), (1, .int l1), (2, .int l2)]) rfl ?_
    exact t_X6_takeWord_b112  hf
  · refine v_aload_n (x := (some l0)) dX6_takeWord_83 rfl 0 rfl ?_
    obtain ⟨hk_l0, hf⟩ := gt_of hf
    refine v_geti cb_7 hk_l0 10 710 rfl (by decide) rfl (lk_n kw_87 rfl) hf dX6_takeWord_84 (fun x24 hf => ?_)
    refine v_iconst (v := 2) dX6_takeWord_87 (by decide) ?_
    refine v_icmp_ne (tgt := 112) hf dX6_takeWord_88 (by decide) (fun hq hf => ?_) (fun hq hf => ?_)
    · refine v_iload_n (x := l1) dX6_takeWord_91 rfl 1 rfl ?_
      refine v_bipush (v := 24) dX6_takeWord_92 (by decide) ?_
      refine v_icmp_eq (tgt := 104) hf dX6_takeWord_94 (by decide) (fun hq hf => ?_) (fun hq hf => ?_)
      · refine v_sub [0, 1] (L2 := [(0, va_rf (some l0)), (1, .int l1)]) rfl ?_
        exact t_X6_takeWord_b104  hf
      · refine v_aload_n (x := (some l0)) dX6_takeWord_97 rfl 0 rfl ?_
        refine v_geti cb_7 hk_l0 7 707 rfl (by decide) rfl (lk_n kw_84 rfl) hf dX6_takeWord_98 (fun x27 hf => ?_)
        refine v_if_ne (tgt := 112) hf dX6_takeWord_101 (by decide) (fun hq hf => ?_) (fun hq hf => ?_)
        · refine v_sub [0, 1] (L2 := [(0, va_rf (some l0)), (1, .int l1)]) rfl ?_
          exact t_X6_takeWord_b104  hf
        · refine v_sub [0, 1, 2] (L2 := [(0, va_rf (some l0)), (1, .int l1), (2, .int l2)]) rfl ?_
          exact t_X6_takeWord_b112  hf
    · refine v_sub [0, 1, 2] (L2 := [(0, va_rf (some l0)), (1, .int l1), (2, .int l2)]) rfl ?_
      exact t_X6_takeWord_b112  hf
/-- LivesAhead$Reader.takeWord(II)V -/
def f_X6_takeWord (σ : TH) (p0 : Nat) (p1 : Int32) (p2 : Int32) : Option (Unit × TH) :=
  gt_ (kd_ σ p0 = 8) <| lt_ (fi_ σ 710 p0) fun x1 => if x1 = (3 : Int32) then (f_X6_takeWord_b16 σ p0 p1 p2) else (lt_ (fi_ σ 710 p0) fun x4 => if x4 = (4 : Int32) then (f_X6_takeWord_b16 σ p0 p1 p2) else (if p1 = (22 : Int32) then (f_X6_takeWord_b37 σ p0 p1 p2) else (if p1 = (23 : Int32) then (f_X6_takeWord_b37 σ p0 p1 p2) else (if p1 = (21 : Int32) then (lt_ (fi_ σ 710 p0) fun x8 => if x8 = (1 : Int32) then (bd_ (f_X6_openIf σ p0) fun x9 s10 => f_X6_takeWord_b180 s10 ) else (f_X6_takeWord_b77 σ p0 p1 p2)) else (f_X6_takeWord_b77 σ p0 p1 p2)))))
set_option maxHeartbeats 4000000 in
set_option maxRecDepth 100000 in
theorem c_X6_takeWord {l : Launch} {D : va_G} {cy : Nat → ClassId} {ka : Nat → Nat} {σ z : TH} {p0 : Nat} {p1 : Int32} {p2 : Int32} {r : Unit} (hf : f_X6_takeWord σ p0 p1 p2 = some (r, z)) : ct_ l D cy ka yX6_takeWord 3 65 [va_rf (some p0), .int p1, .int p2] σ none z := by
  unfold f_X6_takeWord at hf
  refine v_start (cc := cX6_takeWord) (own := RX6) (maxL := 3) (ret := none) (nm := "takeWord") (by decide +kernel) kw_789 rfl rfl (by simp [lg_sl, va_rf_cat, cat_i, cat_l]) ?_
  refine v_eqL (L2 := [(0, va_rf (some p0)), (1, .int p1), (2, .int p2)]) (by simp [lv_args, va_rf_cat, cat_i, cat_l]) ?_
  refine v_aload_n (x := (some p0)) dX6_takeWord_0 rfl 0 rfl ?_
  obtain ⟨hk_p0, hf⟩ := gt_of hf
  refine v_geti cb_7 hk_p0 10 710 rfl (by decide) rfl (lk_n kw_87 rfl) hf dX6_takeWord_1 (fun x1 hf => ?_)
  refine v_iconst (v := 3) dX6_takeWord_4 (by decide) ?_
  refine v_icmp_eq (tgt := 16) hf dX6_takeWord_5 (by decide) (fun hq hf => ?_) (fun hq hf => ?_)
  · refine v_sub [0, 1, 2] (L2 := [(0, va_rf (some p0)), (1, .int p1), (2, .int p2)]) rfl ?_
    exact t_X6_takeWord_b16  hf
  · refine v_aload_n (x := (some p0)) dX6_takeWord_8 rfl 0 rfl ?_
    refine v_geti cb_7 hk_p0 10 710 rfl (by decide) rfl (lk_n kw_87 rfl) hf dX6_takeWord_9 (fun x4 hf => ?_)
    refine v_iconst (v := 4) dX6_takeWord_12 (by decide) ?_
    refine v_icmp_ne (tgt := 25) hf dX6_takeWord_13 (by decide) (fun hq hf => ?_) (fun hq hf => ?_)
    · refine v_sub [0, 1, 2] (L2 := [(0, va_rf (some p0)), (1, .int p1), (2, .int p2)]) rfl ?_
      exact t_X6_takeWord_b16  hf
    · refine v_iload_n (x := p1) dX6_takeWord_25 rfl 1 rfl ?_
      refine v_bipush (v := 22) dX6_takeWord_26 (by decide) ?_
      refine v_icmp_eq (tgt := 37) hf dX6_takeWord_28 (by decide) (fun hq hf => ?_) (fun hq hf => ?_)
      · refine v_sub [0, 1, 2] (L2 := [(0, va_rf (some p0)), (1, .int p1), (2, .int p2)]) rfl ?_
        exact t_X6_takeWord_b37  hf
      · refine v_iload_n (x := p1) dX6_takeWord_31 rfl 1 rfl ?_
        refine v_bipush (v := 23) dX6_takeWord_32 (by decide) ?_
        refine v_icmp_ne (tgt := 56) hf dX6_takeWord_34 (by decide) (fun hq hf => ?_) (fun hq hf => ?_)
        · refine v_sub [0, 1, 2] (L2 := [(0, va_rf (some p0)), (1, .int p1), (2, .int p2)]) rfl ?_
          exact t_X6_takeWord_b37  hf
        · refine v_iload_n (x := p1) dX6_takeWord_56 rfl 1 rfl ?_
          refine v_bipush (v := 21) dX6_takeWord_57 (by decide) ?_
          refine v_icmp_ne (tgt := 77) hf dX6_takeWord_59 (by decide) (fun hq hf => ?_) (fun hq hf => ?_)
          · refine v_aload_n (x := (some p0)) dX6_takeWord_62 rfl 0 rfl ?_
            refine v_geti cb_7 hk_p0 10 710 rfl (by decide) rfl (lk_n kw_87 rfl) hf dX6_takeWord_63 (fun x8 hf => ?_)
            refine v_iconst (v := 1) dX6_takeWord_66 (by decide) ?_
            refine v_icmp_ne (tgt := 77) hf dX6_takeWord_67 (by decide) (fun hq hf => ?_) (fun hq hf => ?_)
            · refine v_aload_n (x := (some p0)) dX6_takeWord_70 rfl 0 rfl ?_
              obtain ⟨x9, s10, hcs10, hf⟩ := bd_of hf
              have hts10 := c_X6_openIf (l := l) (D := D) (cy := cy) (ka := ka) hcs10
              refine v_callV cb_7 hk_p0 (As := []) (rest := []) hts10 yb_X6_openIf kw_803 kw_805 kp_34 rfl ⟨Nat.le_of_ble_eq_true rfl, Nat.le_of_ble_eq_true rfl⟩ rfl (cat_len (Nat.le_of_ble_eq_true rfl)) dX6_takeWord_71 ?_
              have hk_p0 := tk_ hts10.1 hk_p0
              show v_ l D cy ka cX6_takeWord RX6 3 none "takeWord" 3 65 (qf_ D cy σ z none) σ z _ 74 [(0, va_rf (some p0)), (1, .int p1), (2, .int p2)] []
              refine v_goto (tgt := 180) dX6_takeWord_74 (by decide) ?_
              refine v_sub [] (L2 := []) rfl ?_
              exact t_X6_takeWord_b180  hf
            · refine v_sub [0, 1, 2] (L2 := [(0, va_rf (some p0)), (1, .int p1), (2, .int p2)]) rfl ?_
              exact t_X6_takeWord_b77  hf
          · refine v_sub [0, 1, 2] (L2 := [(0, va_rf (some p0)), (1, .int p1), (2, .int p2)]) rfl ?_
            exact t_X6_takeWord_b77  hf
theorem dX9_init_0 : decode cX9_init 0 = .ok (.aload_n 0, 1) := by decide +kernel
theorem dX9_init_1 : decode cX9_init 1 = .ok (.invokespecial 1, 3) := by decide +kernel
theorem dX9_init_4 : decode cX9_init 4 = .ok (.aload_n 0, 1) := by decide +kernel
theorem dX9_init_5 : decode cX9_init 5 = .ok (.aload_n 1, 1) := by decide +kernel
theorem dX9_init_6 : decode cX9_init 6 = .ok (.putfield 7, 3) := by decide +kernel
theorem dX9_init_9 : decode cX9_init 9 = .ok (.aload_n 0, 1) := by decide +kernel
theorem dX9_init_10 : decode cX9_init 10 = .ok (.iload_n 2, 1) := by decide +kernel
theorem dX9_init_11 : decode cX9_init 11 = .ok (.putfield 13, 3) := by decide +kernel
theorem dX9_init_14 : decode cX9_init 14 = .ok (.aload_n 0, 1) := by decide +kernel
theorem dX9_init_15 : decode cX9_init 15 = .ok (.iload_n 3, 1) := by decide +kernel
theorem dX9_init_16 : decode cX9_init 16 = .ok (.putfield 17, 3) := by decide +kernel
theorem dX9_init_19 : decode cX9_init 19 = .ok (.return_, 1) := by decide +kernel
/-- LivesAhead$Text.<init>([III)V -/
def f_X9_init (σ : TH) (p0 : Nat) (p1 : Option Nat) (p2 : Int32) (p3 : Int32) : Option (Unit × TH) :=
  gt_ (kd_ σ p0 = 11) <| lt_ (sr_ σ 1000 p0 p1) fun s1 => lt_ (si_ s1 1001 p0 p2) fun s2 => lt_ (si_ s2 1002 p0 p3) fun s3 => some ((), s3)
set_option maxHeartbeats 4000000 in
set_option maxRecDepth 100000 in
theorem c_X9_init {l : Launch} {D : va_G} {cy : Nat → ClassId} {ka : Nat → Nat} {σ z : TH} {p0 : Nat} {p1 : Option Nat} {p2 : Int32} {p3 : Int32} {r : Unit} (hf : f_X9_init σ p0 p1 p2 p3 = some (r, z)) : ct_ l D cy ka yX9_init 1 20 [va_rf (some p0), va_rf p1, .int p2, .int p3] σ none z := by
  unfold f_X9_init at hf
  refine v_start (cc := cX9_init) (own := RX9) (maxL := 4) (ret := none) (nm := "<init>") (by decide +kernel) kw_865 rfl rfl (by simp [lg_sl, va_rf_cat, cat_i, cat_l]) ?_
  refine v_eqL (L2 := [(0, va_rf (some p0)), (1, va_rf p1), (2, .int p2), (3, .int p3)]) (by simp [lv_args, va_rf_cat, cat_i, cat_l]) ?_
  refine v_aload_n (x := (some p0)) dX9_init_0 rfl 0 rfl ?_
  refine v_objInit kw_866 kw_40 kw_41 (by decide) (by decide) (cat_len (Nat.le_of_ble_eq_true rfl)) dX9_init_1 ?_
  refine v_aload_n (x := (some p0)) dX9_init_4 rfl 0 rfl ?_
  refine v_aload_n (x := p1) dX9_init_5 rfl 1 rfl ?_
  obtain ⟨hk_p0, hf⟩ := gt_of hf
  refine v_putr2 cb_10 hk_p0 0 1000 rfl (by decide) rfl (lk_n kw_867 rfl) (Or.inr ⟨rfl, rfl, rfl, rfl, kw_867⟩) (nr_ _ (Or.inr ⟨_, rfl⟩)) (fr9_ _ (Or.inr ⟨_, rfl⟩)) hf dX9_init_6 (fun s1 hts1 hf => ?_)
  have hk_p0 := tk_ hts1 hk_p0
  refine v_aload_n (x := (some p0)) dX9_init_9 rfl 0 rfl ?_
  refine v_iload_n (x := p2) dX9_init_10 rfl 2 rfl ?_
  refine v_puti2 cb_10 hk_p0 1 1001 rfl (by decide) rfl (lk_n kw_869 rfl) (Or.inr ⟨rfl, rfl, rfl, rfl, kw_869⟩) rfl rfl hf dX9_init_11 (fun s2 hts2 hf => ?_)
  have hk_p0 := tk_ hts2 hk_p0
  refine v_aload_n (x := (some p0)) dX9_init_14 rfl 0 rfl ?_
  refine v_iload_n (x := p3) dX9_init_15 rfl 3 rfl ?_
  refine v_puti2 cb_10 hk_p0 2 1002 rfl (by decide) rfl (lk_n kw_871 rfl) (Or.inr ⟨rfl, rfl, rfl, rfl, kw_871⟩) rfl rfl hf dX9_init_16 (fun s3 hts3 hf => ?_)
  have hk_p0 := tk_ hts3 hk_p0
  exact v_vret hf dX9_init_19
theorem dX11_lengthToday_0 : decode cX11_lengthToday 0 = .ok (.aload_n 0, 1) := by decide +kernel
theorem dX11_lengthToday_1 : decode cX11_lengthToday 1 = .ok (.aload_n 1, 1) := by decide +kernel
theorem dX11_lengthToday_2 : decode cX11_lengthToday 2 = .ok (.invokevirtual 293, 3) := by decide +kernel
theorem dX11_lengthToday_5 : decode cX11_lengthToday 5 = .ok (.aload_n 0, 1) := by decide +kernel
theorem dX11_lengthToday_6 : decode cX11_lengthToday 6 = .ok (.getfield 48, 3) := by decide +kernel
theorem dX11_lengthToday_9 : decode cX11_lengthToday 9 = .ok (.aload_n 2, 1) := by decide +kernel
theorem dX11_lengthToday_10 : decode cX11_lengthToday 10 = .ok (.getfield 297, 3) := by decide +kernel
theorem dX11_lengthToday_13 : decode cX11_lengthToday 13 = .ok (.iconst 0, 1) := by decide +kernel
theorem dX11_lengthToday_14 : decode cX11_lengthToday 14 = .ok (.invokevirtual 300, 3) := by decide +kernel
theorem dX11_lengthToday_17 : decode cX11_lengthToday 17 = .ok (.pop, 1) := by decide +kernel
theorem dX11_lengthToday_18 : decode cX11_lengthToday 18 = .ok (.aload_n 0, 1) := by decide +kernel
theorem dX11_lengthToday_19 : decode cX11_lengthToday 19 = .ok (.getfield 48, 3) := by decide +kernel
theorem dX11_lengthToday_22 : decode cX11_lengthToday 22 = .ok (.getfield 304, 3) := by decide +kernel
theorem dX11_lengthToday_25 : decode cX11_lengthToday 25 = .ok (.ireturn, 1) := by decide +kernel
/-- LivesAhead.lengthToday(LLivesAhead$Person;LLivesAhead$Text;)I -/
def f_X11_lengthToday (σ : TH) (p0 : Nat) (p1 : Option Nat) (p2 : Option Nat) : Option (Int32 × TH) :=
  gt_ (kd_ σ p0 = 13) <| bd_ (f_X11_fillPrinter σ p0 p1) fun x1 s2 => lt_ (fr_ s2 1209 p0) fun r3 => nn_ p2 fun a4 => gt_ (kd_ s2 a4 = 11) <| lt_ (fr_ s2 1000 a4) fun r5 => nn_ r3 fun a6 => gt_ (kd_ s2 a6 = 6) <| bd_ (f_X4_run s2 a6 r5 (0 : Int32)) fun x7 s8 => lt_ (fr_ s8 1209 p0) fun r9 => nn_ r9 fun a10 => gt_ (kd_ s8 a10 = 6) <| lt_ (fi_ s8 505 a10) fun x11 => some (x11, s8)
set_option maxHeartbeats 4000000 in
set_option maxRecDepth 100000 in
theorem c_X11_lengthToday {l : Launch} {D : va_G} {cy : Nat → ClassId} {ka : Nat → Nat} {σ z : TH} {p0 : Nat} {p1 : Option Nat} {p2 : Option Nat} {r : Int32} (hf : f_X11_lengthToday σ p0 p1 p2 = some (r, z)) : ct_ l D cy ka yX11_lengthToday 4 91 [va_rf (some p0), va_rf p1, va_rf p2] σ (some (.int r)) z := by
  unfold f_X11_lengthToday at hf
  refine v_start (cc := cX11_lengthToday) (own := RX11) (maxL := 3) (ret := (some FieldType.int)) (nm := "lengthToday") (by decide +kernel) kw_902 rfl rfl (by simp [lg_sl, va_rf_cat, cat_i, cat_l]) ?_
  refine v_eqL (L2 := [(0, va_rf (some p0)), (1, va_rf p1), (2, va_rf p2)]) (by simp [lv_args, va_rf_cat, cat_i, cat_l]) ?_
  refine v_aload_n (x := (some p0)) dX11_lengthToday_0 rfl 0 rfl ?_
  refine v_aload_n (x := p1) dX11_lengthToday_1 rfl 1 rfl ?_
  obtain ⟨hk_p0, hf⟩ := gt_of hf
  obtain ⟨x1, s2, hcs2, hf⟩ := bd_of hf
  have hts2 := c_X11_fillPrinter (l := l) (D := D) (cy := cy) (ka := ka) hcs2
  refine v_callV cb_12 hk_p0 (As := [va_rf p1]) (rest := []) hts2 yb_X11_fillPrinter kw_903 kw_905 kp_47 rfl ⟨Nat.le_of_ble_eq_true rfl, Nat.le_of_ble_eq_true rfl⟩ rfl (cat_len (Nat.le_of_ble_eq_true rfl)) dX11_lengthToday_2 ?_
  have hk_p0 := tk_ hts2.1 hk_p0
  show v_ l D cy ka cX11_lengthToday RX11 3 (some FieldType.int) "lengthToday" 4 91 (qf_ D cy σ z (some (.int r))) σ z _ 5 [(0, va_rf (some p0)), (1, va_rf p1), (2, va_rf p2)] []
  refine v_aload_n (x := (some p0)) dX11_lengthToday_5 rfl 0 rfl ?_
  refine v_getr cb_12 hk_p0 9 1209 rfl (by decide) rfl (lk_n kw_248 rfl) hf dX11_lengthToday_6 (fun r3 hf => ?_)
  refine v_aload_n (x := p2) dX11_lengthToday_9 rfl 2 rfl ?_
  obtain ⟨a4, rfl, hf⟩ := nn_of hf
  obtain ⟨hk_a4, hf⟩ := gt_of hf
  refine v_getr cb_10 hk_a4 0 1000 rfl (by decide) rfl (lk_n kw_868 rfl) hf dX11_lengthToday_10 (fun r5 hf => ?_)
  refine v_iconst (v := 0) dX11_lengthToday_13 (by decide) ?_
  obtain ⟨a6, rfl, hf⟩ := nn_of hf
  obtain ⟨hk_a6, hf⟩ := gt_of hf
  obtain ⟨x7, s8, hcs8, hf⟩ := bd_of hf
  have hts8 := c_X4_run (l := l) (D := D) (cy := cy) (ka := ka) hcs8
  refine v_callV cb_5 hk_a6 (As := [va_rf r5, .int (0 : Int32)]) (rest := []) hts8 yb_X4_run kw_907 kw_908 kw_909 rfl ⟨Nat.le_of_ble_eq_true rfl, Nat.le_of_ble_eq_true rfl⟩ rfl (cat_len (Nat.le_of_ble_eq_true rfl)) dX11_lengthToday_14 ?_
  have hk_p0 := tk_ hts8.1 hk_p0
  have hk_a4 := tk_ hts8.1 hk_a4
  show v_ l D cy ka cX11_lengthToday RX11 3 (some FieldType.int) "lengthToday" 4 91 (qf_ D cy σ z (some (.int r))) σ z _ 17 [(0, va_rf (some p0)), (1, va_rf p1), (2, va_rf (some a4))] [.int x7]
  refine v_pop dX11_lengthToday_17 rfl ?_
  refine v_aload_n (x := (some p0)) dX11_lengthToday_18 rfl 0 rfl ?_
  refine v_getr cb_12 hk_p0 9 1209 rfl (by decide) rfl (lk_n kw_248 rfl) hf dX11_lengthToday_19 (fun r9 hf => ?_)
  obtain ⟨a10, rfl, hf⟩ := nn_of hf
  obtain ⟨hk_a10, hf⟩ := gt_of hf
  refine v_geti cb_5 hk_a10 5 505 rfl (by decide) rfl (lk_n kw_154 rfl) hf dX11_lengthToday_22 (fun x11 hf => ?_)
  exact v_iret hf dX11_lengthToday_25
theorem dX11_textAt_0 : decode cX11_textAt 0 = .ok (.aload_n 0, 1) := by decide +kernel
theorem dX11_textAt_1 : decode cX11_textAt 1 = .ok (.ifnull 17, 3) := by decide +kernel
theorem dX11_textAt_4 : decode cX11_textAt 4 = .ok (.iload_n 1, 1) := by decide +kernel
theorem dX11_textAt_5 : decode cX11_textAt 5 = .ok (.iconst 0, 1) := by decide +kernel
theorem dX11_textAt_6 : decode cX11_textAt 6 = .ok (.aload_n 0, 1) := by decide +kernel
theorem dX11_textAt_7 : decode cX11_textAt 7 = .ok (.getfield 179, 3) := by decide +kernel
theorem dX11_textAt_10 : decode cX11_textAt 10 = .ok (.iconst 1, 1) := by decide +kernel
theorem dX11_textAt_11 : decode cX11_textAt 11 = .ok (.isub, 1) := by decide +kernel
theorem dX11_textAt_12 : decode cX11_textAt 12 = .ok (.invokestatic 93, 3) := by decide +kernel
theorem dX11_textAt_15 : decode cX11_textAt 15 = .ok (.ifCond .ne 7, 3) := by decide +kernel
theorem dX11_textAt_18 : decode cX11_textAt 18 = .ok (.aconst_null, 1) := by decide +kernel
theorem dX11_textAt_19 : decode cX11_textAt 19 = .ok (.goto 9, 3) := by decide +kernel
theorem dX11_textAt_22 : decode cX11_textAt 22 = .ok (.aload_n 0, 1) := by decide +kernel
theorem dX11_textAt_23 : decode cX11_textAt 23 = .ok (.getfield 258, 3) := by decide +kernel
theorem dX11_textAt_26 : decode cX11_textAt 26 = .ok (.iload_n 1, 1) := by decide +kernel
theorem dX11_textAt_27 : decode cX11_textAt 27 = .ok (.aaload, 1) := by decide +kernel
theorem dX11_textAt_28 : decode cX11_textAt 28 = .ok (.areturn, 1) := by decide +kernel
def f_X11_textAt_b28 (σ : TH) (t0 : Option Nat) : Option (Option Nat × TH) :=
  some (t0, σ)
set_option maxHeartbeats 4000000 in
set_option maxRecDepth 100000 in
theorem t_X11_textAt_b28 {l : Launch} {D : va_G} {cy : Nat → ClassId} {ka : Nat → Nat} {σ0 z : TH} {r : Option Nat}  {σ : TH} {t0 : Option Nat} (hf : f_X11_textAt_b28 σ t0 = some (r, z)) : v_ l D cy ka cX11_textAt RX11 2 (some (FieldType.object "LivesAhead$Text")) "textAt" 1 22 (qf_ D cy σ0 z (some (va_rf r))) σ0 z σ 28 [] [va_rf t0] := by
  unfold f_X11_textAt_b28 at hf
  exact v_aret (x := t0) hf (Or.inl ⟨_, rfl⟩) dX11_textAt_28
def f_X11_textAt_b18 (σ : TH) : Option (Option Nat × TH) :=
  f_X11_textAt_b28 σ none
set_option maxHeartbeats 4000000 in
set_option maxRecDepth 100000 in
theorem t_X11_textAt_b18 {l : Launch} {D : va_G} {cy : Nat → ClassId} {ka : Nat → Nat} {σ0 z : TH} {r : Option Nat}  {σ : TH}  (hf : f_X11_textAt_b18 σ  = some (r, z)) : v_ l D cy ka cX11_textAt RX11 2 (some (FieldType.object "LivesAhead$Text")) "textAt" 1 22 (qf_ D cy σ0 z (some (va_rf r))) σ0 z σ 18 [] [] := by
  unfold f_X11_textAt_b18 at hf
  refine v_null dX11_textAt_18 ?_
  refine v_goto (tgt := 28) dX11_textAt_19 (by decide) ?_
  refine v_sub [] (L2 := []) rfl ?_
  exact t_X11_textAt_b28  hf
/-- LivesAhead.textAt(LLivesAhead$Person;I)LLivesAhead$Text; -/
def f_X11_textAt (σ : TH) (p0 : Option Nat) (p1 : Int32) : Option (Option Nat × TH) :=
  oc_ p0 (f_X11_textAt_b18 σ ) (fun a1 => gt_ (kd_ σ a1 = 4) <| lt_ (fi_ σ 313 a1) fun x2 => bd_ (f_X11_within σ p1 (0 : Int32) (x2 - (1 : Int32))) fun x3 s4 => if x3 = 0 then (f_X11_textAt_b18 s4 ) else (lt_ (fr_ s4 310 a1) fun r5 => nn_ r5 fun a6 => gt_ (kd_ s4 a6 = 26) <| gt_ (¬ (p1 < 0 ∨ ln_ s4 a6 ≤ p1.toNatClampNeg)) <| lt_ (ar_ s4 a6 p1.toNatClampNeg) fun r7 => f_X11_textAt_b28 s4 r7))
set_option maxHeartbeats 4000000 in
set_option maxRecDepth 100000 in
theorem c_X11_textAt {l : Launch} {D : va_G} {cy : Nat → ClassId} {ka : Nat → Nat} {σ z : TH} {p0 : Option Nat} {p1 : Int32} {r : Option Nat} (hf : f_X11_textAt σ p0 p1 = some (r, z)) : ct_ l D cy ka yX11_textAt 1 22 [va_rf p0, .int p1] σ (some (va_rf r)) z := by
  unfold f_X11_textAt at hf
  refine v_start (cc := cX11_textAt) (own := RX11) (maxL := 2) (ret := (some (FieldType.object "LivesAhead$Text"))) (nm := "textAt") (by decide +kernel) kw_886 rfl rfl (by simp [lg_sl, va_rf_cat, cat_i, cat_l]) ?_
  refine v_eqL (L2 := [(0, va_rf p0), (1, .int p1)]) (by simp [lv_args, va_rf_cat, cat_i, cat_l]) ?_
  refine v_aload_n (x := p0) dX11_textAt_0 rfl 0 rfl ?_
  refine v_ifnull2 (tgt := 18) hf dX11_textAt_1 (by decide) (fun e9 hf => ?_) (fun a1 e9 hf => ?_)
  · subst e9
    refine v_sub [] (L2 := []) rfl ?_
    exact t_X11_textAt_b18  hf
  · subst e9
    refine v_iload_n (x := p1) dX11_textAt_4 rfl 1 rfl ?_
    refine v_iconst (v := 0) dX11_textAt_5 (by decide) ?_
    refine v_aload_n (x := (some a1)) dX11_textAt_6 rfl 0 rfl ?_
    obtain ⟨hk_a1, hf⟩ := gt_of hf
    refine v_geti cb_3 hk_a1 13 313 rfl (by decide) rfl (lk_n kw_492 rfl) hf dX11_textAt_7 (fun x2 hf => ?_)
    refine v_iconst (v := 1) dX11_textAt_10 (by decide) ?_
    refine v_isub dX11_textAt_11 ?_
    obtain ⟨x3, s4, hcs4, hf⟩ := bd_of hf
    have hts4 := c_X11_within (l := l) (D := D) (cy := cy) (ka := ka) hcs4
    refine v_callS (As := [.int p1, .int (0 : Int32), .int (x2 - (1 : Int32))]) (rest := []) hts4 yb_X11_within kw_304 kw_305 rfl ⟨Nat.le_of_ble_eq_true rfl, Nat.le_of_ble_eq_true rfl⟩ rfl (cat_len (Nat.le_of_ble_eq_true rfl)) dX11_textAt_12 ?_
    have hk_a1 := tk_ hts4.1 hk_a1
    show v_ l D cy ka cX11_textAt RX11 2 (some (FieldType.object "LivesAhead$Text")) "textAt" 1 22 (qf_ D cy σ z (some (va_rf r))) σ z _ 15 [(0, va_rf (some a1)), (1, .int p1)] [.int x3]
    refine v_if_ne (tgt := 22) hf dX11_textAt_15 (by decide) (fun hq hf => ?_) (fun hq hf => ?_)
    · refine v_sub [] (L2 := []) rfl ?_
      exact t_X11_textAt_b18  hf
    · refine v_aload_n (x := (some a1)) dX11_textAt_22 rfl 0 rfl ?_
      refine v_getr cb_3 hk_a1 10 310 rfl (by decide) rfl (lk_n kw_486 rfl) hf dX11_textAt_23 (fun r5 hf => ?_)
      refine v_iload_n (x := p1) dX11_textAt_26 rfl 1 rfl ?_
      obtain ⟨a6, rfl, hf⟩ := nn_of hf
      obtain ⟨hk_a6, hf⟩ := gt_of hf
      refine v_aald 25 6 RX9 hk_a6 (by decide) rfl hf dX11_textAt_27 (fun r7 hf => ?_)
      refine v_sub [] (L2 := []) rfl ?_
      exact t_X11_textAt_b28  hf
theorem dX11_pass_0 : decode cX11_pass 0 = .ok (.iload_n 1, 1) := by decide +kernel
theorem dX11_pass_1 : decode cX11_pass 1 = .ok (.iconst 1, 1) := by decide +kernel
theorem dX11_pass_2 : decode cX11_pass 2 = .ok (.ldc_w 460, 3) := by decide +kernel
theorem dX11_pass_5 : decode cX11_pass 5 = .ok (.invokestatic 93, 3) := by decide +kernel
theorem dX11_pass_8 : decode cX11_pass 8 = .ok (.ifCond .eq 19, 3) := by decide +kernel
theorem dX11_pass_11 : decode cX11_pass 11 = .ok (.aload_n 0, 1) := by decide +kernel
theorem dX11_pass_12 : decode cX11_pass 12 = .ok (.getfield 66, 3) := by decide +kernel
theorem dX11_pass_15 : decode cX11_pass 15 = .ok (.iload_n 1, 1) := by decide +kernel
theorem dX11_pass_16 : decode cX11_pass 16 = .ok (.iadd, 1) := by decide +kernel
theorem dX11_pass_17 : decode cX11_pass 17 = .ok (.sipush 1440, 3) := by decide +kernel
theorem dX11_pass_20 : decode cX11_pass 20 = .ok (.idiv, 1) := by decide +kernel
theorem dX11_pass_21 : decode cX11_pass 21 = .ok (.sipush 3650, 3) := by decide +kernel
theorem dX11_pass_24 : decode cX11_pass 24 = .ok (.if_icmp .le 9, 3) := by decide +kernel
theorem dX11_pass_27 : decode cX11_pass 27 = .ok (.aload_n 0, 1) := by decide +kernel
theorem dX11_pass_28 : decode cX11_pass 28 = .ok (.iconst 2, 1) := by decide +kernel
theorem dX11_pass_29 : decode cX11_pass 29 = .ok (.invokevirtual 97, 3) := by decide +kernel
theorem dX11_pass_32 : decode cX11_pass 32 = .ok (.ireturn, 1) := by decide +kernel
theorem dX11_pass_33 : decode cX11_pass 33 = .ok (.aload_n 0, 1) := by decide +kernel
theorem dX11_pass_34 : decode cX11_pass 34 = .ok (.dup, 1) := by decide +kernel
theorem dX11_pass_35 : decode cX11_pass 35 = .ok (.getfield 66, 3) := by decide +kernel
theorem dX11_pass_38 : decode cX11_pass 38 = .ok (.iload_n 1, 1) := by decide +kernel
theorem dX11_pass_39 : decode cX11_pass 39 = .ok (.iadd, 1) := by decide +kernel
theorem dX11_pass_40 : decode cX11_pass 40 = .ok (.putfield 66, 3) := by decide +kernel
theorem dX11_pass_43 : decode cX11_pass 43 = .ok (.aload_n 0, 1) := by decide +kernel
theorem dX11_pass_44 : decode cX11_pass 44 = .ok (.aload_n 0, 1) := by decide +kernel
theorem dX11_pass_45 : decode cX11_pass 45 = .ok (.invokevirtual 188, 3) := by decide +kernel
theorem dX11_pass_48 : decode cX11_pass 48 = .ok (.invokevirtual 114, 3) := by decide +kernel
theorem dX11_pass_51 : decode cX11_pass 51 = .ok (.ireturn, 1) := by decide +kernel
def f_X11_pass_b27 (σ : TH) (l0 : Nat) : Option (Int32 × TH) :=
  gt_ (kd_ σ l0 = 13) <| bd_ (f_X11_refused σ l0 (2 : Int32)) fun x3 s4 => some (x3, s4)
set_option maxHeartbeats 4000000 in
set_option maxRecDepth 100000 in
theorem t_X11_pass_b27 {l : Launch} {D : va_G} {cy : Nat → ClassId} {ka : Nat → Nat} {σ0 z : TH} {r : Int32}  {σ : TH} {l0 : Nat} (hf : f_X11_pass_b27 σ l0 = some (r, z)) : v_ l D cy ka cX11_pass RX11 2 (some FieldType.int) "pass" 1 22 (qf_ D cy σ0 z (some (.int r))) σ0 z σ 27 [(0, va_rf (some l0))] [] := by
  unfold f_X11_pass_b27 at hf
  refine v_aload_n (x := (some l0)) dX11_pass_27 rfl 0 rfl ?_
  refine v_iconst (v := 2) dX11_pass_28 (by decide) ?_
  obtain ⟨hk_l0, hf⟩ := gt_of hf
  obtain ⟨x3, s4, hcs4, hf⟩ := bd_of hf
  have hts4 := c_X11_refused (l := l) (D := D) (cy := cy) (ka := ka) hcs4
  refine v_callV cb_12 hk_l0 (As := [.int (2 : Int32)]) (rest := []) hts4 yb_X11_refused kw_307 kw_309 kp_0 rfl ⟨Nat.le_of_ble_eq_true rfl, Nat.le_of_ble_eq_true rfl⟩ rfl (cat_len (Nat.le_of_ble_eq_true rfl)) dX11_pass_29 ?_
  have hk_l0 := tk_ hts4.1 hk_l0
  show v_ l D cy ka cX11_pass RX11 2 (some FieldType.int) "pass" 1 22 (qf_ D cy σ0 z (some (.int r))) σ0 z _ 32 [(0, va_rf (some l0))] [.int x3]
  exact v_iret hf dX11_pass_32
/-- LivesAhead.pass(I)I -/
def f_X11_pass (σ : TH) (p0 : Nat) (p1 : Int32) : Option (Int32 × TH) :=
  bd_ (f_X11_within σ p1 (1 : Int32) (100000 : Int32)) fun x1 s2 => if x1 = 0 then (f_X11_pass_b27 s2 p0) else (gt_ (kd_ s2 p0 = 13) <| lt_ (fi_ s2 1213 p0) fun x5 => gt_ (¬ (1440 : Int32) = 0) <| if ((x5 + p1) / (1440 : Int32)) ≤ (3650 : Int32) then (lt_ (fi_ s2 1213 p0) fun x6 => lt_ (si_ s2 1213 p0 (x6 + p1)) fun s7 => bd_ (f_X11_today s7 p0) fun x8 s9 => bd_ (f_X11_granted s9 p0 x8) fun x10 s11 => some (x10, s11)) else (f_X11_pass_b27 s2 p0))
set_option maxHeartbeats 4000000 in
set_option maxRecDepth 100000 in
theorem c_X11_pass {l : Launch} {D : va_G} {cy : Nat → ClassId} {ka : Nat → Nat} {σ z : TH} {p0 : Nat} {p1 : Int32} {r : Int32} (hf : f_X11_pass σ p0 p1 = some (r, z)) : ct_ l D cy ka yX11_pass 1 22 [va_rf (some p0), .int p1] σ (some (.int r)) z := by
  unfold f_X11_pass at hf
  refine v_start (cc := cX11_pass) (own := RX11) (maxL := 2) (ret := (some FieldType.int)) (nm := "pass") (by decide +kernel) kw_1325 rfl rfl (by simp [lg_sl, va_rf_cat, cat_i, cat_l]) ?_
  refine v_eqL (L2 := [(0, va_rf (some p0)), (1, .int p1)]) (by simp [lv_args, va_rf_cat, cat_i, cat_l]) ?_
  refine v_iload_n (x := p1) dX11_pass_0 rfl 1 rfl ?_
  refine v_iconst (v := 1) dX11_pass_1 (by decide) ?_
  refine v_ldcw (v := 100000) kw_1326 dX11_pass_2 ?_
  obtain ⟨x1, s2, hcs2, hf⟩ := bd_of hf
  have hts2 := c_X11_within (l := l) (D := D) (cy := cy) (ka := ka) hcs2
  refine v_callS (As := [.int p1, .int (1 : Int32), .int (100000 : Int32)]) (rest := []) hts2 yb_X11_within kw_304 kw_305 rfl ⟨Nat.le_of_ble_eq_true rfl, Nat.le_of_ble_eq_true rfl⟩ rfl (cat_len (Nat.le_of_ble_eq_true rfl)) dX11_pass_5 ?_
  show v_ l D cy ka cX11_pass RX11 2 (some FieldType.int) "pass" 1 22 (qf_ D cy σ z (some (.int r))) σ z _ 8 [(0, va_rf (some p0)), (1, .int p1)] [.int x1]
  refine v_if_eq (tgt := 27) hf dX11_pass_8 (by decide) (fun hq hf => ?_) (fun hq hf => ?_)
  · refine v_sub [0] (L2 := [(0, va_rf (some p0))]) rfl ?_
    exact t_X11_pass_b27  hf
  · refine v_aload_n (x := (some p0)) dX11_pass_11 rfl 0 rfl ?_
    obtain ⟨hk_p0, hf⟩ := gt_of hf
    refine v_geti cb_12 hk_p0 13 1213 rfl (by decide) rfl (lk_n kw_252 rfl) hf dX11_pass_12 (fun x5 hf => ?_)
    refine v_iload_n (x := p1) dX11_pass_15 rfl 1 rfl ?_
    refine v_iadd dX11_pass_16 ?_
    refine v_sipush (v := 1440) dX11_pass_17 (by decide) ?_
    refine v_idiv hf dX11_pass_20 (fun hf => ?_)
    refine v_sipush (v := 3650) dX11_pass_21 (by decide) ?_
    refine v_icmp_le (tgt := 33) hf dX11_pass_24 (by decide) (fun hq hf => ?_) (fun hq hf => ?_)
    · refine v_aload_n (x := (some p0)) dX11_pass_33 rfl 0 rfl ?_
      refine v_dup dX11_pass_34 (va_rf_cat _) ?_
      refine v_geti cb_12 hk_p0 13 1213 rfl (by decide) rfl (lk_n kw_252 rfl) hf dX11_pass_35 (fun x6 hf => ?_)
      refine v_iload_n (x := p1) dX11_pass_38 rfl 1 rfl ?_
      refine v_iadd dX11_pass_39 ?_
      refine v_puti2 cb_12 hk_p0 13 1213 rfl (by decide) rfl (lk_n kw_252 rfl) (Or.inl rfl) rfl rfl hf dX11_pass_40 (fun s7 hts7 hf => ?_)
      have hk_p0 := tk_ hts7 hk_p0
      refine v_aload_n (x := (some p0)) dX11_pass_43 rfl 0 rfl ?_
      refine v_aload_n (x := (some p0)) dX11_pass_44 rfl 0 rfl ?_
      obtain ⟨x8, s9, hcs9, hf⟩ := bd_of hf
      have hts9 := c_X11_today (l := l) (D := D) (cy := cy) (ka := ka) hcs9
      refine v_callV cb_12 hk_p0 (As := []) (rest := [va_rf (some p0)]) hts9 yb_X11_today kw_538 kw_540 kp_13 rfl ⟨Nat.le_of_ble_eq_true rfl, Nat.le_of_ble_eq_true rfl⟩ rfl (cat_len (Nat.le_of_ble_eq_true rfl)) dX11_pass_45 ?_
      have hk_p0 := tk_ hts9.1 hk_p0
      show v_ l D cy ka cX11_pass RX11 2 (some FieldType.int) "pass" 1 22 (qf_ D cy σ z (some (.int r))) σ z _ 48 [(0, va_rf (some p0)), (1, .int p1)] [.int x8, va_rf (some p0)]
      obtain ⟨x10, s11, hcs11, hf⟩ := bd_of hf
      have hts11 := c_X11_granted (l := l) (D := D) (cy := cy) (ka := ka) hcs11
      refine v_callV cb_12 hk_p0 (As := [.int x8]) (rest := []) hts11 yb_X11_granted kw_395 kw_397 kp_4 rfl ⟨Nat.le_of_ble_eq_true rfl, Nat.le_of_ble_eq_true rfl⟩ rfl (cat_len (Nat.le_of_ble_eq_true rfl)) dX11_pass_48 ?_
      have hk_p0 := tk_ hts11.1 hk_p0
      show v_ l D cy ka cX11_pass RX11 2 (some FieldType.int) "pass" 1 22 (qf_ D cy σ z (some (.int r))) σ z _ 51 [(0, va_rf (some p0)), (1, .int p1)] [.int x10]
      exact v_iret hf dX11_pass_51
    · refine v_sub [0] (L2 := [(0, va_rf (some p0))]) rfl ?_
      exact t_X11_pass_b27  hf
theorem dX2_init_0 : decode cX2_init 0 = .ok (.aload_n 0, 1) := by decide +kernel
theorem dX2_init_1 : decode cX2_init 1 = .ok (.invokespecial 3, 3) := by decide +kernel
theorem dX2_init_4 : decode cX2_init 4 = .ok (.aload_n 0, 1) := by decide +kernel
theorem dX2_init_5 : decode cX2_init 5 = .ok (.bipush (-2), 2) := by decide +kernel
theorem dX2_init_7 : decode cX2_init 7 = .ok (.putfield 9, 3) := by decide +kernel
theorem dX2_init_10 : decode cX2_init 10 = .ok (.aload_n 0, 1) := by decide +kernel
theorem dX2_init_11 : decode cX2_init 11 = .ok (.iconst 0, 1) := by decide +kernel
theorem dX2_init_12 : decode cX2_init 12 = .ok (.putfield 15, 3) := by decide +kernel
theorem dX2_init_15 : decode cX2_init 15 = .ok (.aload_n 0, 1) := by decide +kernel
theorem dX2_init_16 : decode cX2_init 16 = .ok (.iconst 0, 1) := by decide +kernel
theorem dX2_init_17 : decode cX2_init 17 = .ok (.putfield 19, 3) := by decide +kernel
theorem dX2_init_20 : decode cX2_init 20 = .ok (.aload_n 0, 1) := by decide +kernel
theorem dX2_init_21 : decode cX2_init 21 = .ok (.iconst 0, 1) := by decide +kernel
theorem dX2_init_22 : decode cX2_init 22 = .ok (.putfield 22, 3) := by decide +kernel
theorem dX2_init_25 : decode cX2_init 25 = .ok (.aload_n 0, 1) := by decide +kernel
theorem dX2_init_26 : decode cX2_init 26 = .ok (.bipush 10, 2) := by decide +kernel
theorem dX2_init_28 : decode cX2_init 28 = .ok (.anewarray 25, 3) := by decide +kernel
theorem dX2_init_31 : decode cX2_init 31 = .ok (.putfield 27, 3) := by decide +kernel
theorem dX2_init_34 : decode cX2_init 34 = .ok (.aload_n 0, 1) := by decide +kernel
theorem dX2_init_35 : decode cX2_init 35 = .ok (.bipush 14, 2) := by decide +kernel
theorem dX2_init_37 : decode cX2_init 37 = .ok (.anewarray 31, 3) := by decide +kernel
theorem dX2_init_40 : decode cX2_init 40 = .ok (.putfield 33, 3) := by decide +kernel
theorem dX2_init_43 : decode cX2_init 43 = .ok (.aload_n 0, 1) := by decide +kernel
theorem dX2_init_44 : decode cX2_init 44 = .ok (.bipush 14, 2) := by decide +kernel
theorem dX2_init_46 : decode cX2_init 46 = .ok (.newarray .int, 2) := by decide +kernel
theorem dX2_init_48 : decode cX2_init 48 = .ok (.putfield 37, 3) := by decide +kernel
theorem dX2_init_51 : decode cX2_init 51 = .ok (.aload_n 0, 1) := by decide +kernel
theorem dX2_init_52 : decode cX2_init 52 = .ok (.bipush 14, 2) := by decide +kernel
theorem dX2_init_54 : decode cX2_init 54 = .ok (.newarray .int, 2) := by decide +kernel
theorem dX2_init_56 : decode cX2_init 56 = .ok (.putfield 41, 3) := by decide +kernel
theorem dX2_init_59 : decode cX2_init 59 = .ok (.aload_n 0, 1) := by decide +kernel
theorem dX2_init_60 : decode cX2_init 60 = .ok (.iconst 0, 1) := by decide +kernel
theorem dX2_init_61 : decode cX2_init 61 = .ok (.putfield 44, 3) := by decide +kernel
theorem dX2_init_64 : decode cX2_init 64 = .ok (.aload_n 0, 1) := by decide +kernel
theorem dX2_init_65 : decode cX2_init 65 = .ok (.iload_n 1, 1) := by decide +kernel
theorem dX2_init_66 : decode cX2_init 66 = .ok (.putfield 47, 3) := by decide +kernel
theorem dX2_init_69 : decode cX2_init 69 = .ok (.aload_n 0, 1) := by decide +kernel
theorem dX2_init_70 : decode cX2_init 70 = .ok (.iload_n 2, 1) := by decide +kernel
theorem dX2_init_71 : decode cX2_init 71 = .ok (.putfield 50, 3) := by decide +kernel
theorem dX2_init_74 : decode cX2_init 74 = .ok (.aload_n 0, 1) := by decide +kernel
theorem dX2_init_75 : decode cX2_init 75 = .ok (.iload_n 3, 1) := by decide +kernel
theorem dX2_init_76 : decode cX2_init 76 = .ok (.putfield 53, 3) := by decide +kernel
theorem dX2_init_79 : decode cX2_init 79 = .ok (.aload_n 0, 1) := by decide +kernel
theorem dX2_init_80 : decode cX2_init 80 = .ok (.iload 4, 2) := by decide +kernel
theorem dX2_init_82 : decode cX2_init 82 = .ok (.putfield 56, 3) := by decide +kernel
theorem dX2_init_85 : decode cX2_init 85 = .ok (.aload_n 0, 1) := by decide +kernel
theorem dX2_init_86 : decode cX2_init 86 = .ok (.iload 5, 2) := by decide +kernel
theorem dX2_init_88 : decode cX2_init 88 = .ok (.putfield 59, 3) := by decide +kernel
theorem dX2_init_91 : decode cX2_init 91 = .ok (.return_, 1) := by decide +kernel
/-- LivesAhead$Person.<init>(IIIII)V -/
def f_X2_init (σ : TH) (p0 : Nat) (p1 : Int32) (p2 : Int32) (p3 : Int32) (p4 : Int32) (p5 : Int32) : Option (Unit × TH) :=
  gt_ (kd_ σ p0 = 4) <| lt_ (si_ σ 305 p0 (-2 : Int32)) fun s1 => lt_ (si_ s1 306 p0 (0 : Int32)) fun s2 => lt_ (si_ s2 307 p0 (0 : Int32)) fun s3 => lt_ (si_ s3 308 p0 (0 : Int32)) fun s4 => gt_ (¬ (10 : Int32) < 0 ∧ (10 : Int32).toNatClampNeg ≤ 100000 ∧ kd_ s4 (nx_ s4) = 0) <| lt_ (nx_ s4) fun a5 => lt_ (nw_ s4 25 ((10 : Int32).toNatClampNeg) ((10 : Int32).toNatClampNeg)) fun s6 => lt_ (sr_ s6 309 p0 ((some a5))) fun s7 => gt_ (¬ (14 : Int32) < 0 ∧ (14 : Int32).toNatClampNeg ≤ 100000 ∧ kd_ s7 (nx_ s7) = 0) <| lt_ (nx_ s7) fun a8 => lt_ (nw_ s7 26 ((14 : Int32).toNatClampNeg) ((14 : Int32).toNatClampNeg)) fun s9 => lt_ (sr_ s9 310 p0 ((some a8))) fun s10 => gt_ (¬ (14 : Int32) < 0 ∧ (14 : Int32).toNatClampNeg ≤ 100000 ∧ kd_ s10 (nx_ s10) = 0) <| lt_ (nx_ s10) fun a11 => lt_ (nw_ s10 20 ((14 : Int32).toNatClampNeg) ((14 : Int32).toNatClampNeg)) fun s12 => lt_ (sr_ s12 311 p0 ((some a11))) fun s13 => gt_ (¬ (14 : Int32) < 0 ∧ (14 : Int32).toNatClampNeg ≤ 100000 ∧ kd_ s13 (nx_ s13) = 0) <| lt_ (nx_ s13) fun a14 => lt_ (nw_ s13 20 ((14 : Int32).toNatClampNeg) ((14 : Int32).toNatClampNeg)) fun s15 => lt_ (sr_ s15 312 p0 ((some a14))) fun s16 => lt_ (si_ s16 313 p0 (0 : Int32)) fun s17 => lt_ (si_ s17 300 p0 p1) fun s18 => lt_ (si_ s18 301 p0 p2) fun s19 => lt_ (si_ s19 302 p0 p3) fun s20 => lt_ (si_ s20 303 p0 p4) fun s21 => lt_ (si_ s21 304 p0 p5) fun s22 => some ((), s22)
set_option maxHeartbeats 4000000 in
set_option maxRecDepth 100000 in
theorem c_X2_init {l : Launch} {D : va_G} {cy : Nat → ClassId} {ka : Nat → Nat} {σ z : TH} {p0 : Nat} {p1 : Int32} {p2 : Int32} {p3 : Int32} {p4 : Int32} {p5 : Int32} {r : Unit} (hf : f_X2_init σ p0 p1 p2 p3 p4 p5 = some (r, z)) : ct_ l D cy ka yX2_init 1 20 [va_rf (some p0), .int p1, .int p2, .int p3, .int p4, .int p5] σ none z := by
  unfold f_X2_init at hf
  refine v_start (cc := cX2_init) (own := RX2) (maxL := 6) (ret := none) (nm := "<init>") (by decide +kernel) kw_457 rfl rfl (by simp [lg_sl, va_rf_cat, cat_i, cat_l]) ?_
  refine v_eqL (L2 := [(0, va_rf (some p0)), (1, .int p1), (2, .int p2), (3, .int p3), (4, .int p4), (5, .int p5)]) (by simp [lv_args, va_rf_cat, cat_i, cat_l]) ?_
  refine v_aload_n (x := (some p0)) dX2_init_0 rfl 0 rfl ?_
  refine v_objInit kw_458 kw_40 kw_41 (by decide) (by decide) (cat_len (Nat.le_of_ble_eq_true rfl)) dX2_init_1 ?_
  refine v_aload_n (x := (some p0)) dX2_init_4 rfl 0 rfl ?_
  refine v_bipush (v := (-2)) dX2_init_5 (by decide) ?_
  obtain ⟨hk_p0, hf⟩ := gt_of hf
  refine v_puti2 cb_3 hk_p0 5 305 rfl (by decide) rfl (lk_n kw_474 rfl) (Or.inl rfl) rfl rfl hf dX2_init_7 (fun s1 hts1 hf => ?_)
  have hk_p0 := tk_ hts1 hk_p0
  refine v_aload_n (x := (some p0)) dX2_init_10 rfl 0 rfl ?_
  refine v_iconst (v := 0) dX2_init_11 (by decide) ?_
  refine v_puti2 cb_3 hk_p0 6 306 rfl (by decide) rfl (lk_n kw_476 rfl) (Or.inl rfl) rfl rfl hf dX2_init_12 (fun s2 hts2 hf => ?_)
  have hk_p0 := tk_ hts2 hk_p0
  refine v_aload_n (x := (some p0)) dX2_init_15 rfl 0 rfl ?_
  refine v_iconst (v := 0) dX2_init_16 (by decide) ?_
  refine v_puti2 cb_3 hk_p0 7 307 rfl (by decide) rfl (lk_n kw_478 rfl) (Or.inl rfl) rfl rfl hf dX2_init_17 (fun s3 hts3 hf => ?_)
  have hk_p0 := tk_ hts3 hk_p0
  refine v_aload_n (x := (some p0)) dX2_init_20 rfl 0 rfl ?_
  refine v_iconst (v := 0) dX2_init_21 (by decide) ?_
  refine v_puti2 cb_3 hk_p0 8 308 rfl (by decide) rfl (lk_n kw_480 rfl) (Or.inl rfl) rfl rfl hf dX2_init_22 (fun s4 hts4 hf => ?_)
  have hk_p0 := tk_ hts4 hk_p0
  refine v_aload_n (x := (some p0)) dX2_init_25 rfl 0 rfl ?_
  refine v_bipush (v := 10) dX2_init_26 (by decide) ?_
  refine v_anew2 25 5 RX8 rfl (by decide) kw_459 (by decide) hf dX2_init_28 (fun a5 s6 hts6 hk_a5 hf => ?_)
  have hk_p0 := tk_ hts6 hk_p0
  refine v_putr2 cb_3 hk_p0 9 309 rfl (by decide) rfl (lk_n kw_482 rfl) (Or.inr ⟨rfl, rfl, rfl, rfl, kw_482⟩) (nr_ _ (Or.inr ⟨_, rfl⟩)) (fr9_ _ (Or.inr ⟨_, rfl⟩)) hf dX2_init_31 (fun s7 hts7 hf => ?_)
  have hk_p0 := tk_ hts7 hk_p0
  refine v_aload_n (x := (some p0)) dX2_init_34 rfl 0 rfl ?_
  refine v_bipush (v := 14) dX2_init_35 (by decide) ?_
  refine v_anew2 26 6 RX9 rfl (by decide) kw_461 (by decide) hf dX2_init_37 (fun a8 s9 hts9 hk_a8 hf => ?_)
  have hk_p0 := tk_ hts9 hk_p0
  refine v_putr2 cb_3 hk_p0 10 310 rfl (by decide) rfl (lk_n kw_485 rfl) (Or.inr ⟨rfl, rfl, rfl, rfl, kw_485⟩) (nr_ _ (Or.inr ⟨_, rfl⟩)) (fr9_ _ (Or.inr ⟨_, rfl⟩)) hf dX2_init_40 (fun s10 hts10 hf => ?_)
  have hk_p0 := tk_ hts10 hk_p0
  refine v_aload_n (x := (some p0)) dX2_init_43 rfl 0 rfl ?_
  refine v_bipush (v := 14) dX2_init_44 (by decide) ?_
  refine v_newaI2 kw_135 hf dX2_init_46 (fun a11 s12 hts12 hk_a11 hf => ?_)
  have hk_p0 := tk_ hts12 hk_p0
  refine v_putr2 cb_3 hk_p0 11 311 rfl (by decide) rfl (lk_n kw_487 rfl) (Or.inr ⟨rfl, rfl, rfl, rfl, kw_487⟩) (nr_ _ (Or.inr ⟨_, rfl⟩)) (fr9_ _ (Or.inr ⟨_, rfl⟩)) hf dX2_init_48 (fun s13 hts13 hf => ?_)
  have hk_p0 := tk_ hts13 hk_p0
  refine v_aload_n (x := (some p0)) dX2_init_51 rfl 0 rfl ?_
  refine v_bipush (v := 14) dX2_init_52 (by decide) ?_
  refine v_newaI2 kw_135 hf dX2_init_54 (fun a14 s15 hts15 hk_a14 hf => ?_)
  have hk_p0 := tk_ hts15 hk_p0
  refine v_putr2 cb_3 hk_p0 12 312 rfl (by decide) rfl (lk_n kw_489 rfl) (Or.inr ⟨rfl, rfl, rfl, rfl, kw_489⟩) (nr_ _ (Or.inr ⟨_, rfl⟩)) (fr9_ _ (Or.inr ⟨_, rfl⟩)) hf dX2_init_56 (fun s16 hts16 hf => ?_)
  have hk_p0 := tk_ hts16 hk_p0
  refine v_aload_n (x := (some p0)) dX2_init_59 rfl 0 rfl ?_
  refine v_iconst (v := 0) dX2_init_60 (by decide) ?_
  refine v_puti2 cb_3 hk_p0 13 313 rfl (by decide) rfl (lk_n kw_491 rfl) (Or.inl rfl) rfl rfl hf dX2_init_61 (fun s17 hts17 hf => ?_)
  have hk_p0 := tk_ hts17 hk_p0
  refine v_aload_n (x := (some p0)) dX2_init_64 rfl 0 rfl ?_
  refine v_iload_n (x := p1) dX2_init_65 rfl 1 rfl ?_
  refine v_puti2 cb_3 hk_p0 0 300 rfl (by decide) rfl (lk_n kw_463 rfl) (Or.inr ⟨rfl, rfl, rfl, rfl, kw_463⟩) rfl rfl hf dX2_init_66 (fun s18 hts18 hf => ?_)
  have hk_p0 := tk_ hts18 hk_p0
  refine v_aload_n (x := (some p0)) dX2_init_69 rfl 0 rfl ?_
  refine v_iload_n (x := p2) dX2_init_70 rfl 2 rfl ?_
  refine v_puti2 cb_3 hk_p0 1 301 rfl (by decide) rfl (lk_n kw_465 rfl) (Or.inr ⟨rfl, rfl, rfl, rfl, kw_465⟩) rfl rfl hf dX2_init_71 (fun s19 hts19 hf => ?_)
  have hk_p0 := tk_ hts19 hk_p0
  refine v_aload_n (x := (some p0)) dX2_init_74 rfl 0 rfl ?_
  refine v_iload_n (x := p3) dX2_init_75 rfl 3 rfl ?_
  refine v_puti2 cb_3 hk_p0 2 302 rfl (by decide) rfl (lk_n kw_468 rfl) (Or.inr ⟨rfl, rfl, rfl, rfl, kw_468⟩) rfl rfl hf dX2_init_76 (fun s20 hts20 hf => ?_)
  have hk_p0 := tk_ hts20 hk_p0
  refine v_aload_n (x := (some p0)) dX2_init_79 rfl 0 rfl ?_
  refine v_iload (x := p4) dX2_init_80 4 rfl ?_
  refine v_puti2 cb_3 hk_p0 3 303 rfl (by decide) rfl (lk_n kw_470 rfl) (Or.inr ⟨rfl, rfl, rfl, rfl, kw_470⟩) rfl rfl hf dX2_init_82 (fun s21 hts21 hf => ?_)
  have hk_p0 := tk_ hts21 hk_p0
  refine v_aload_n (x := (some p0)) dX2_init_85 rfl 0 rfl ?_
  refine v_iload (x := p5) dX2_init_86 5 rfl ?_
  refine v_puti2 cb_3 hk_p0 4 304 rfl (by decide) rfl (lk_n kw_472 rfl) (Or.inl rfl) rfl rfl hf dX2_init_88 (fun s22 hts22 hf => ?_)
  have hk_p0 := tk_ hts22 hk_p0
  exact v_vret hf dX2_init_91
theorem dX3_init_0 : decode cX3_init 0 = .ok (.aload_n 0, 1) := by decide +kernel
theorem dX3_init_1 : decode cX3_init 1 = .ok (.invokespecial 1, 3) := by decide +kernel
theorem dX3_init_4 : decode cX3_init 4 = .ok (.aload_n 0, 1) := by decide +kernel
theorem dX3_init_5 : decode cX3_init 5 = .ok (.iconst 0, 1) := by decide +kernel
theorem dX3_init_6 : decode cX3_init 6 = .ok (.putfield 7, 3) := by decide +kernel
theorem dX3_init_9 : decode cX3_init 9 = .ok (.aload_n 0, 1) := by decide +kernel
theorem dX3_init_10 : decode cX3_init 10 = .ok (.iload_n 1, 1) := by decide +kernel
theorem dX3_init_11 : decode cX3_init 11 = .ok (.putfield 13, 3) := by decide +kernel
theorem dX3_init_14 : decode cX3_init 14 = .ok (.aload_n 0, 1) := by decide +kernel
theorem dX3_init_15 : decode cX3_init 15 = .ok (.iload_n 2, 1) := by decide +kernel
theorem dX3_init_16 : decode cX3_init 16 = .ok (.putfield 16, 3) := by decide +kernel
theorem dX3_init_19 : decode cX3_init 19 = .ok (.aload_n 0, 1) := by decide +kernel
theorem dX3_init_20 : decode cX3_init 20 = .ok (.iload_n 3, 1) := by decide +kernel
theorem dX3_init_21 : decode cX3_init 21 = .ok (.putfield 19, 3) := by decide +kernel
theorem dX3_init_24 : decode cX3_init 24 = .ok (.aload_n 0, 1) := by decide +kernel
theorem dX3_init_25 : decode cX3_init 25 = .ok (.iload 4, 2) := by decide +kernel
theorem dX3_init_27 : decode cX3_init 27 = .ok (.putfield 22, 3) := by decide +kernel
theorem dX3_init_30 : decode cX3_init 30 = .ok (.aload_n 0, 1) := by decide +kernel
theorem dX3_init_31 : decode cX3_init 31 = .ok (.iload 5, 2) := by decide +kernel
theorem dX3_init_33 : decode cX3_init 33 = .ok (.putfield 25, 3) := by decide +kernel
theorem dX3_init_36 : decode cX3_init 36 = .ok (.return_, 1) := by decide +kernel
/-- LivesAhead$Picture.<init>(IIIII)V -/
def f_X3_init (σ : TH) (p0 : Nat) (p1 : Int32) (p2 : Int32) (p3 : Int32) (p4 : Int32) (p5 : Int32) : Option (Unit × TH) :=
  gt_ (kd_ σ p0 = 5) <| lt_ (si_ σ 405 p0 (0 : Int32)) fun s1 => lt_ (si_ s1 400 p0 p1) fun s2 => lt_ (si_ s2 401 p0 p2) fun s3 => lt_ (si_ s3 402 p0 p3) fun s4 => lt_ (si_ s4 403 p0 p4) fun s5 => lt_ (si_ s5 404 p0 p5) fun s6 => some ((), s6)
set_option maxHeartbeats 4000000 in
set_option maxRecDepth 100000 in
theorem c_X3_init {l : Launch} {D : va_G} {cy : Nat → ClassId} {ka : Nat → Nat} {σ z : TH} {p0 : Nat} {p1 : Int32} {p2 : Int32} {p3 : Int32} {p4 : Int32} {p5 : Int32} {r : Unit} (hf : f_X3_init σ p0 p1 p2 p3 p4 p5 = some (r, z)) : ct_ l D cy ka yX3_init 1 20 [va_rf (some p0), .int p1, .int p2, .int p3, .int p4, .int p5] σ none z := by
  unfold f_X3_init at hf
  refine v_start (cc := cX3_init) (own := RX3) (maxL := 6) (ret := none) (nm := "<init>") (by decide +kernel) kw_1105 rfl rfl (by simp [lg_sl, va_rf_cat, cat_i, cat_l]) ?_
  refine v_eqL (L2 := [(0, va_rf (some p0)), (1, .int p1), (2, .int p2), (3, .int p3), (4, .int p4), (5, .int p5)]) (by simp [lv_args, va_rf_cat, cat_i, cat_l]) ?_
  refine v_aload_n (x := (some p0)) dX3_init_0 rfl 0 rfl ?_
  refine v_objInit kw_1106 kw_40 kw_41 (by decide) (by decide) (cat_len (Nat.le_of_ble_eq_true rfl)) dX3_init_1 ?_
  refine v_aload_n (x := (some p0)) dX3_init_4 rfl 0 rfl ?_
  refine v_iconst (v := 0) dX3_init_5 (by decide) ?_
  obtain ⟨hk_p0, hf⟩ := gt_of hf
  refine v_puti2 cb_4 hk_p0 5 405 rfl (by decide) rfl (lk_n kw_1114 rfl) (Or.inl rfl) rfl rfl hf dX3_init_6 (fun s1 hts1 hf => ?_)
  have hk_p0 := tk_ hts1 hk_p0
  refine v_aload_n (x := (some p0)) dX3_init_9 rfl 0 rfl ?_
  refine v_iload_n (x := p1) dX3_init_10 rfl 1 rfl ?_
  refine v_puti2 cb_4 hk_p0 0 400 rfl (by decide) rfl (lk_n kw_1107 rfl) (Or.inr ⟨rfl, rfl, rfl, rfl, kw_1107⟩) rfl rfl hf dX3_init_11 (fun s2 hts2 hf => ?_)
  have hk_p0 := tk_ hts2 hk_p0
  refine v_aload_n (x := (some p0)) dX3_init_14 rfl 0 rfl ?_
  refine v_iload_n (x := p2) dX3_init_15 rfl 2 rfl ?_
  refine v_puti2 cb_4 hk_p0 1 401 rfl (by decide) rfl (lk_n kw_1109 rfl) (Or.inr ⟨rfl, rfl, rfl, rfl, kw_1109⟩) rfl rfl hf dX3_init_16 (fun s3 hts3 hf => ?_)
  have hk_p0 := tk_ hts3 hk_p0
  refine v_aload_n (x := (some p0)) dX3_init_19 rfl 0 rfl ?_
  refine v_iload_n (x := p3) dX3_init_20 rfl 3 rfl ?_
  refine v_puti2 cb_4 hk_p0 2 402 rfl (by decide) rfl (lk_n kw_1111 rfl) (Or.inr ⟨rfl, rfl, rfl, rfl, kw_1111⟩) rfl rfl hf dX3_init_21 (fun s4 hts4 hf => ?_)
  have hk_p0 := tk_ hts4 hk_p0
  refine v_aload_n (x := (some p0)) dX3_init_24 rfl 0 rfl ?_
  refine v_iload (x := p4) dX3_init_25 4 rfl ?_
  refine v_puti2 cb_4 hk_p0 3 403 rfl (by decide) rfl (lk_n kw_1112 rfl) (Or.inr ⟨rfl, rfl, rfl, rfl, kw_1112⟩) rfl rfl hf dX3_init_27 (fun s5 hts5 hf => ?_)
  have hk_p0 := tk_ hts5 hk_p0
  refine v_aload_n (x := (some p0)) dX3_init_30 rfl 0 rfl ?_
  refine v_iload (x := p5) dX3_init_31 5 rfl ?_
  refine v_puti2 cb_4 hk_p0 4 404 rfl (by decide) rfl (lk_n kw_1113 rfl) (Or.inr ⟨rfl, rfl, rfl, rfl, kw_1113⟩) rfl rfl hf dX3_init_33 (fun s6 hts6 hf => ?_)
  have hk_p0 := tk_ hts6 hk_p0
  exact v_vret hf dX3_init_36
theorem dX11_isHeard_0 : decode cX11_isHeard 0 = .ok (.iload_n 1, 1) := by decide +kernel
theorem dX11_isHeard_1 : decode cX11_isHeard 1 = .ok (.iconst 0, 1) := by decide +kernel
theorem dX11_isHeard_2 : decode cX11_isHeard 2 = .ok (.aload_n 0, 1) := by decide +kernel
theorem dX11_isHeard_3 : decode cX11_isHeard 3 = .ok (.invokevirtual 188, 3) := by decide +kernel
theorem dX11_isHeard_6 : decode cX11_isHeard 6 = .ok (.invokestatic 93, 3) := by decide +kernel
theorem dX11_isHeard_9 : decode cX11_isHeard 9 = .ok (.ifCond .eq 16, 3) := by decide +kernel
theorem dX11_isHeard_12 : decode cX11_isHeard 12 = .ok (.iload_n 2, 1) := by decide +kernel
theorem dX11_isHeard_13 : decode cX11_isHeard 13 = .ok (.iconst 0, 1) := by decide +kernel
theorem dX11_isHeard_14 : decode cX11_isHeard 14 = .ok (.iconst 4, 1) := by decide +kernel
theorem dX11_isHeard_15 : decode cX11_isHeard 15 = .ok (.invokestatic 93, 3) := by decide +kernel
theorem dX11_isHeard_18 : decode cX11_isHeard 18 = .ok (.ifCond .eq 7, 3) := by decide +kernel
theorem dX11_isHeard_21 : decode cX11_isHeard 21 = .ok (.iconst 1, 1) := by decide +kernel
theorem dX11_isHeard_22 : decode cX11_isHeard 22 = .ok (.goto 4, 3) := by decide +kernel
theorem dX11_isHeard_25 : decode cX11_isHeard 25 = .ok (.iconst 0, 1) := by decide +kernel
theorem dX11_isHeard_26 : decode cX11_isHeard 26 = .ok (.ireturn, 1) := by decide +kernel
def f_X11_isHeard_b26 (σ : TH) (t0 : Int32) : Option (Int32 × TH) :=
  gt_ (t0 = 0 ∨ t0 = 1) <| some (t0, σ)
set_option maxHeartbeats 4000000 in
set_option maxRecDepth 100000 in
theorem t_X11_isHeard_b26 {l : Launch} {D : va_G} {cy : Nat → ClassId} {ka : Nat → Nat} {σ0 z : TH} {r : Int32}  {σ : TH} {t0 : Int32} (hf : f_X11_isHeard_b26 σ t0 = some (r, z)) : v_ l D cy ka cX11_isHeard RX11 3 (some FieldType.boolean) "isHeard" 1 22 (qf_ D cy σ0 z (some (.int r))) σ0 z σ 26 [] [.int t0] := by
  unfold f_X11_isHeard_b26 at hf
  obtain ⟨hb9, hf⟩ := gt_of hf
  exact v_zret hf (nz_ hb9) dX11_isHeard_26
def f_X11_isHeard_b25 (σ : TH) : Option (Int32 × TH) :=
  f_X11_isHeard_b26 σ (0 : Int32)
set_option maxHeartbeats 4000000 in
set_option maxRecDepth 100000 in
theorem t_X11_isHeard_b25 {l : Launch} {D : va_G} {cy : Nat → ClassId} {ka : Nat → Nat} {σ0 z : TH} {r : Int32}  {σ : TH}  (hf : f_X11_isHeard_b25 σ  = some (r, z)) : v_ l D cy ka cX11_isHeard RX11 3 (some FieldType.boolean) "isHeard" 1 22 (qf_ D cy σ0 z (some (.int r))) σ0 z σ 25 [] [] := by
  unfold f_X11_isHeard_b25 at hf
  refine v_iconst (v := 0) dX11_isHeard_25 (by decide) ?_
  refine v_sub [] (L2 := []) rfl ?_
  exact t_X11_isHeard_b26  hf
/-- LivesAhead.isHeard(II)Z -/
def f_X11_isHeard (σ : TH) (p0 : Nat) (p1 : Int32) (p2 : Int32) : Option (Int32 × TH) :=
  gt_ (kd_ σ p0 = 13) <| bd_ (f_X11_today σ p0) fun x1 s2 => bd_ (f_X11_within s2 p1 (0 : Int32) x1) fun x3 s4 => if x3 = 0 then (f_X11_isHeard_b25 s4 ) else (bd_ (f_X11_within s4 p2 (0 : Int32) (4 : Int32)) fun x5 s6 => if x5 = 0 then (f_X11_isHeard_b25 s6 ) else (f_X11_isHeard_b26 s6 (1 : Int32)))
set_option maxHeartbeats 4000000 in
set_option maxRecDepth 100000 in
theorem c_X11_isHeard {l : Launch} {D : va_G} {cy : Nat → ClassId} {ka : Nat → Nat} {σ z : TH} {p0 : Nat} {p1 : Int32} {p2 : Int32} {r : Int32} (hf : f_X11_isHeard σ p0 p1 p2 = some (r, z)) : ct_ l D cy ka yX11_isHeard 1 22 [va_rf (some p0), .int p1, .int p2] σ (some (.int r)) z := by
  unfold f_X11_isHeard at hf
  refine v_start (cc := cX11_isHeard) (own := RX11) (maxL := 3) (ret := (some FieldType.boolean)) (nm := "isHeard") (by decide +kernel) kw_995 rfl rfl (by simp [lg_sl, va_rf_cat, cat_i, cat_l]) ?_
  refine v_eqL (L2 := [(0, va_rf (some p0)), (1, .int p1), (2, .int p2)]) (by simp [lv_args, va_rf_cat, cat_i, cat_l]) ?_
  refine v_iload_n (x := p1) dX11_isHeard_0 rfl 1 rfl ?_
  refine v_iconst (v := 0) dX11_isHeard_1 (by decide) ?_
  refine v_aload_n (x := (some p0)) dX11_isHeard_2 rfl 0 rfl ?_
  obtain ⟨hk_p0, hf⟩ := gt_of hf
  obtain ⟨x1, s2, hcs2, hf⟩ := bd_of hf
  have hts2 := c_X11_today (l := l) (D := D) (cy := cy) (ka := ka) hcs2
  refine v_callV cb_12 hk_p0 (As := []) (rest := [.int (0 : Int32), .int p1]) hts2 yb_X11_today kw_538 kw_540 kp_13 rfl ⟨Nat.le_of_ble_eq_true rfl, Nat.le_of_ble_eq_true rfl⟩ rfl (cat_len (Nat.le_of_ble_eq_true rfl)) dX11_isHeard_3 ?_
  have hk_p0 := tk_ hts2.1 hk_p0
  show v_ l D cy ka cX11_isHeard RX11 3 (some FieldType.boolean) "isHeard" 1 22 (qf_ D cy σ z (some (.int r))) σ z _ 6 [(0, va_rf (some p0)), (1, .int p1), (2, .int p2)] [.int x1, .int (0 : Int32), .int p1]
  obtain ⟨x3, s4, hcs4, hf⟩ := bd_of hf
  have hts4 := c_X11_within (l := l) (D := D) (cy := cy) (ka := ka) hcs4
  refine v_callS (As := [.int p1, .int (0 : Int32), .int x1]) (rest := []) hts4 yb_X11_within kw_304 kw_305 rfl ⟨Nat.le_of_ble_eq_true rfl, Nat.le_of_ble_eq_true rfl⟩ rfl (cat_len (Nat.le_of_ble_eq_true rfl)) dX11_isHeard_6 ?_
  have hk_p0 := tk_ hts4.1 hk_p0
  show v_ l D cy ka cX11_isHeard RX11 3 (some FieldType.boolean) "isHeard" 1 22 (qf_ D cy σ z (some (.int r))) σ z _ 9 [(0, va_rf (some p0)), (1, .int p1), (2, .int p2)] [.int x3]
  refine v_if_eq (tgt := 25) hf dX11_isHeard_9 (by decide) (fun hq hf => ?_) (fun hq hf => ?_)
  · refine v_sub [] (L2 := []) rfl ?_
    exact t_X11_isHeard_b25  hf
  · refine v_iload_n (x := p2) dX11_isHeard_12 rfl 2 rfl ?_
    refine v_iconst (v := 0) dX11_isHeard_13 (by decide) ?_
    refine v_iconst (v := 4) dX11_isHeard_14 (by decide) ?_
    obtain ⟨x5, s6, hcs6, hf⟩ := bd_of hf
    have hts6 := c_X11_within (l := l) (D := D) (cy := cy) (ka := ka) hcs6
    refine v_callS (As := [.int p2, .int (0 : Int32), .int (4 : Int32)]) (rest := []) hts6 yb_X11_within kw_304 kw_305 rfl ⟨Nat.le_of_ble_eq_true rfl, Nat.le_of_ble_eq_true rfl⟩ rfl (cat_len (Nat.le_of_ble_eq_true rfl)) dX11_isHeard_15 ?_
    have hk_p0 := tk_ hts6.1 hk_p0
    show v_ l D cy ka cX11_isHeard RX11 3 (some FieldType.boolean) "isHeard" 1 22 (qf_ D cy σ z (some (.int r))) σ z _ 18 [(0, va_rf (some p0)), (1, .int p1), (2, .int p2)] [.int x5]
    refine v_if_eq (tgt := 25) hf dX11_isHeard_18 (by decide) (fun hq hf => ?_) (fun hq hf => ?_)
    · refine v_sub [] (L2 := []) rfl ?_
      exact t_X11_isHeard_b25  hf
    · refine v_iconst (v := 1) dX11_isHeard_21 (by decide) ?_
      refine v_goto (tgt := 26) dX11_isHeard_22 (by decide) ?_
      refine v_sub [] (L2 := []) rfl ?_
      exact t_X11_isHeard_b26  hf
theorem dX7_init_0 : decode cX7_init 0 = .ok (.aload_n 0, 1) := by decide +kernel
theorem dX7_init_1 : decode cX7_init 1 = .ok (.invokespecial 3, 3) := by decide +kernel
theorem dX7_init_4 : decode cX7_init 4 = .ok (.aload_n 0, 1) := by decide +kernel
theorem dX7_init_5 : decode cX7_init 5 = .ok (.iconst 3, 1) := by decide +kernel
theorem dX7_init_6 : decode cX7_init 6 = .ok (.newarray .int, 2) := by decide +kernel
theorem dX7_init_8 : decode cX7_init 8 = .ok (.putfield 9, 3) := by decide +kernel
theorem dX7_init_11 : decode cX7_init 11 = .ok (.aload_n 0, 1) := by decide +kernel
theorem dX7_init_12 : decode cX7_init 12 = .ok (.iconst 3, 1) := by decide +kernel
theorem dX7_init_13 : decode cX7_init 13 = .ok (.newarray .int, 2) := by decide +kernel
theorem dX7_init_15 : decode cX7_init 15 = .ok (.putfield 15, 3) := by decide +kernel
theorem dX7_init_18 : decode cX7_init 18 = .ok (.aload_n 0, 1) := by decide +kernel
theorem dX7_init_19 : decode cX7_init 19 = .ok (.iconst 0, 1) := by decide +kernel
theorem dX7_init_20 : decode cX7_init 20 = .ok (.putfield 18, 3) := by decide +kernel
theorem dX7_init_23 : decode cX7_init 23 = .ok (.aload_n 0, 1) := by decide +kernel
theorem dX7_init_24 : decode cX7_init 24 = .ok (.iconst 0, 1) := by decide +kernel
theorem dX7_init_25 : decode cX7_init 25 = .ok (.putfield 22, 3) := by decide +kernel
theorem dX7_init_28 : decode cX7_init 28 = .ok (.aload_n 0, 1) := by decide +kernel
theorem dX7_init_29 : decode cX7_init 29 = .ok (.iconst 0, 1) := by decide +kernel
theorem dX7_init_30 : decode cX7_init 30 = .ok (.putfield 26, 3) := by decide +kernel
theorem dX7_init_33 : decode cX7_init 33 = .ok (.aload_n 0, 1) := by decide +kernel
theorem dX7_init_34 : decode cX7_init 34 = .ok (.iload_n 1, 1) := by decide +kernel
theorem dX7_init_35 : decode cX7_init 35 = .ok (.putfield 29, 3) := by decide +kernel
theorem dX7_init_38 : decode cX7_init 38 = .ok (.aload_n 0, 1) := by decide +kernel
theorem dX7_init_39 : decode cX7_init 39 = .ok (.iload_n 2, 1) := by decide +kernel
theorem dX7_init_40 : decode cX7_init 40 = .ok (.putfield 32, 3) := by decide +kernel
theorem dX7_init_43 : decode cX7_init 43 = .ok (.aload_n 0, 1) := by decide +kernel
theorem dX7_init_44 : decode cX7_init 44 = .ok (.iload_n 3, 1) := by decide +kernel
theorem dX7_init_45 : decode cX7_init 45 = .ok (.putfield 35, 3) := by decide +kernel
theorem dX7_init_48 : decode cX7_init 48 = .ok (.aload_n 0, 1) := by decide +kernel
theorem dX7_init_49 : decode cX7_init 49 = .ok (.iload 4, 2) := by decide +kernel
theorem dX7_init_51 : decode cX7_init 51 = .ok (.putfield 38, 3) := by decide +kernel
theorem dX7_init_54 : decode cX7_init 54 = .ok (.aload_n 0, 1) := by decide +kernel
theorem dX7_init_55 : decode cX7_init 55 = .ok (.iload 5, 2) := by decide +kernel
theorem dX7_init_57 : decode cX7_init 57 = .ok (.putfield 41, 3) := by decide +kernel
theorem dX7_init_60 : decode cX7_init 60 = .ok (.return_, 1) := by decide +kernel
/-- LivesAhead$Report.<init>(IIIII)V -/
def f_X7_init (σ : TH) (p0 : Nat) (p1 : Int32) (p2 : Int32) (p3 : Int32) (p4 : Int32) (p5 : Int32) : Option (Unit × TH) :=
  gt_ (¬ (3 : Int32) < 0 ∧ (3 : Int32).toNatClampNeg ≤ 100000 ∧ kd_ σ (nx_ σ) = 0) <| lt_ (nx_ σ) fun a1 => lt_ (nw_ σ 20 ((3 : Int32).toNatClampNeg) ((3 : Int32).toNatClampNeg)) fun s2 => gt_ (kd_ s2 p0 = 9) <| lt_ (sr_ s2 805 p0 ((some a1))) fun s3 => gt_ (¬ (3 : Int32) < 0 ∧ (3 : Int32).toNatClampNeg ≤ 100000 ∧ kd_ s3 (nx_ s3) = 0) <| lt_ (nx_ s3) fun a4 => lt_ (nw_ s3 20 ((3 : Int32).toNatClampNeg) ((3 : Int32).toNatClampNeg)) fun s5 => lt_ (sr_ s5 806 p0 ((some a4))) fun s6 => lt_ (si_ s6 807 p0 (0 : Int32)) fun s7 => lt_ (si_ s7 808 p0 (0 : Int32)) fun s8 => lt_ (si_ s8 809 p0 (0 : Int32)) fun s9 => lt_ (si_ s9 800 p0 p1) fun s10 => lt_ (si_ s10 801 p0 p2) fun s11 => lt_ (si_ s11 802 p0 p3) fun s12 => lt_ (si_ s12 803 p0 p4) fun s13 => lt_ (si_ s13 804 p0 p5) fun s14 => some ((), s14)
set_option maxHeartbeats 4000000 in
set_option maxRecDepth 100000 in
theorem c_X7_init {l : Launch} {D : va_G} {cy : Nat → ClassId} {ka : Nat → Nat} {σ z : TH} {p0 : Nat} {p1 : Int32} {p2 : Int32} {p3 : Int32} {p4 : Int32} {p5 : Int32} {r : Unit} (hf : f_X7_init σ p0 p1 p2 p3 p4 p5 = some (r, z)) : ct_ l D cy ka yX7_init 1 20 [va_rf (some p0), .int p1, .int p2, .int p3, .int p4, .int p5] σ none z := by
  unfold f_X7_init at hf
  refine v_start (cc := cX7_init) (own := RX7) (maxL := 6) (ret := none) (nm := "<init>") (by decide +kernel) kw_1000 rfl rfl (by simp [lg_sl, va_rf_cat, cat_i, cat_l]) ?_
  refine v_eqL (L2 := [(0, va_rf (some p0)), (1, .int p1), (2, .int p2), (3, .int p3), (4, .int p4), (5, .int p5)]) (by simp [lv_args, va_rf_cat, cat_i, cat_l]) ?_
  refine v_aload_n (x := (some p0)) dX7_init_0 rfl 0 rfl ?_
  refine v_objInit kw_1001 kw_40 kw_41 (by decide) (by decide) (cat_len (Nat.le_of_ble_eq_true rfl)) dX7_init_1 ?_
  refine v_aload_n (x := (some p0)) dX7_init_4 rfl 0 rfl ?_
  refine v_iconst (v := 3) dX7_init_5 (by decide) ?_
  refine v_newaI2 kw_135 hf dX7_init_6 (fun a1 s2 hts2 hk_a1 hf => ?_)
  obtain ⟨hk_p0, hf⟩ := gt_of hf
  refine v_putr2 cb_8 hk_p0 5 805 rfl (by decide) rfl (lk_n kw_1011 rfl) (Or.inr ⟨rfl, rfl, rfl, rfl, kw_1011⟩) (nr_ _ (Or.inr ⟨_, rfl⟩)) (fr9_ _ (Or.inr ⟨_, rfl⟩)) hf dX7_init_8 (fun s3 hts3 hf => ?_)
  have hk_p0 := tk_ hts3 hk_p0
  refine v_aload_n (x := (some p0)) dX7_init_11 rfl 0 rfl ?_
  refine v_iconst (v := 3) dX7_init_12 (by decide) ?_
  refine v_newaI2 kw_135 hf dX7_init_13 (fun a4 s5 hts5 hk_a4 hf => ?_)
  have hk_p0 := tk_ hts5 hk_p0
  refine v_putr2 cb_8 hk_p0 6 806 rfl (by decide) rfl (lk_n kw_1012 rfl) (Or.inr ⟨rfl, rfl, rfl, rfl, kw_1012⟩) (nr_ _ (Or.inr ⟨_, rfl⟩)) (fr9_ _ (Or.inr ⟨_, rfl⟩)) hf dX7_init_15 (fun s6 hts6 hf => ?_)
  have hk_p0 := tk_ hts6 hk_p0
  refine v_aload_n (x := (some p0)) dX7_init_18 rfl 0 rfl ?_
  refine v_iconst (v := 0) dX7_init_19 (by decide) ?_
  refine v_puti2 cb_8 hk_p0 7 807 rfl (by decide) rfl (lk_n kw_1013 rfl) (Or.inl rfl) rfl rfl hf dX7_init_20 (fun s7 hts7 hf => ?_)
  have hk_p0 := tk_ hts7 hk_p0
  refine v_aload_n (x := (some p0)) dX7_init_23 rfl 0 rfl ?_
  refine v_iconst (v := 0) dX7_init_24 (by decide) ?_
  refine v_puti2 cb_8 hk_p0 8 808 rfl (by decide) rfl (lk_n kw_1014 rfl) (Or.inl rfl) rfl rfl hf dX7_init_25 (fun s8 hts8 hf => ?_)
  have hk_p0 := tk_ hts8 hk_p0
  refine v_aload_n (x := (some p0)) dX7_init_28 rfl 0 rfl ?_
  refine v_iconst (v := 0) dX7_init_29 (by decide) ?_
  refine v_puti2 cb_8 hk_p0 9 809 rfl (by decide) rfl (lk_n kw_1015 rfl) (Or.inl rfl) rfl rfl hf dX7_init_30 (fun s9 hts9 hf => ?_)
  have hk_p0 := tk_ hts9 hk_p0
  refine v_aload_n (x := (some p0)) dX7_init_33 rfl 0 rfl ?_
  refine v_iload_n (x := p1) dX7_init_34 rfl 1 rfl ?_
  refine v_puti2 cb_8 hk_p0 0 800 rfl (by decide) rfl (lk_n kw_1002 rfl) (Or.inr ⟨rfl, rfl, rfl, rfl, kw_1002⟩) rfl rfl hf dX7_init_35 (fun s10 hts10 hf => ?_)
  have hk_p0 := tk_ hts10 hk_p0
  refine v_aload_n (x := (some p0)) dX7_init_38 rfl 0 rfl ?_
  refine v_iload_n (x := p2) dX7_init_39 rfl 2 rfl ?_
  refine v_puti2 cb_8 hk_p0 1 801 rfl (by decide) rfl (lk_n kw_1004 rfl) (Or.inr ⟨rfl, rfl, rfl, rfl, kw_1004⟩) rfl rfl hf dX7_init_40 (fun s11 hts11 hf => ?_)
  have hk_p0 := tk_ hts11 hk_p0
  refine v_aload_n (x := (some p0)) dX7_init_43 rfl 0 rfl ?_
  refine v_iload_n (x := p3) dX7_init_44 rfl 3 rfl ?_
  refine v_puti2 cb_8 hk_p0 2 802 rfl (by decide) rfl (lk_n kw_1005 rfl) (Or.inr ⟨rfl, rfl, rfl, rfl, kw_1005⟩) rfl rfl hf dX7_init_45 (fun s12 hts12 hf => ?_)
  have hk_p0 := tk_ hts12 hk_p0
  refine v_aload_n (x := (some p0)) dX7_init_48 rfl 0 rfl ?_
  refine v_iload (x := p4) dX7_init_49 4 rfl ?_
  refine v_puti2 cb_8 hk_p0 3 803 rfl (by decide) rfl (lk_n kw_1007 rfl) (Or.inr ⟨rfl, rfl, rfl, rfl, kw_1007⟩) rfl rfl hf dX7_init_51 (fun s13 hts13 hf => ?_)
  have hk_p0 := tk_ hts13 hk_p0
  refine v_aload_n (x := (some p0)) dX7_init_54 rfl 0 rfl ?_
  refine v_iload (x := p5) dX7_init_55 5 rfl ?_
  refine v_puti2 cb_8 hk_p0 4 804 rfl (by decide) rfl (lk_n kw_1009 rfl) (Or.inr ⟨rfl, rfl, rfl, rfl, kw_1009⟩) rfl rfl hf dX7_init_57 (fun s14 hts14 hf => ?_)
  have hk_p0 := tk_ hts14 hk_p0
  exact v_vret hf dX7_init_60
theorem dX7_tellFact_0 : decode cX7_tellFact 0 = .ok (.aload_n 0, 1) := by decide +kernel
theorem dX7_tellFact_1 : decode cX7_tellFact 1 = .ok (.aload_n 0, 1) := by decide +kernel
theorem dX7_tellFact_2 : decode cX7_tellFact 2 = .ok (.getfield 22, 3) := by decide +kernel
theorem dX7_tellFact_5 : decode cX7_tellFact 5 = .ok (.ifCond .ne 8, 3) := by decide +kernel
theorem dX7_tellFact_8 : decode cX7_tellFact 8 = .ok (.iload_n 1, 1) := by decide +kernel
theorem dX7_tellFact_9 : decode cX7_tellFact 9 = .ok (.iconst (-1), 1) := by decide +kernel
theorem dX7_tellFact_10 : decode cX7_tellFact 10 = .ok (.if_icmp .ne 7, 3) := by decide +kernel
theorem dX7_tellFact_13 : decode cX7_tellFact 13 = .ok (.iconst 1, 1) := by decide +kernel
theorem dX7_tellFact_14 : decode cX7_tellFact 14 = .ok (.goto 4, 3) := by decide +kernel
theorem dX7_tellFact_17 : decode cX7_tellFact 17 = .ok (.iconst 0, 1) := by decide +kernel
theorem dX7_tellFact_18 : decode cX7_tellFact 18 = .ok (.putfield 22, 3) := by decide +kernel
theorem dX7_tellFact_21 : decode cX7_tellFact 21 = .ok (.aload_n 0, 1) := by decide +kernel
theorem dX7_tellFact_22 : decode cX7_tellFact 22 = .ok (.getfield 22, 3) := by decide +kernel
theorem dX7_tellFact_25 : decode cX7_tellFact 25 = .ok (.ifCond .eq 5, 3) := by decide +kernel
theorem dX7_tellFact_28 : decode cX7_tellFact 28 = .ok (.iconst 1, 1) := by decide +kernel
theorem dX7_tellFact_29 : decode cX7_tellFact 29 = .ok (.ireturn, 1) := by decide +kernel
theorem dX7_tellFact_30 : decode cX7_tellFact 30 = .ok (.iload_n 1, 1) := by decide +kernel
theorem dX7_tellFact_31 : decode cX7_tellFact 31 = .ok (.invokestatic 44, 3) := by decide +kernel
theorem dX7_tellFact_34 : decode cX7_tellFact 34 = .ok (.ifCond .eq 18, 3) := by decide +kernel
theorem dX7_tellFact_37 : decode cX7_tellFact 37 = .ok (.iload_n 2, 1) := by decide +kernel
theorem dX7_tellFact_38 : decode cX7_tellFact 38 = .ok (.invokestatic 48, 3) := by decide +kernel
theorem dX7_tellFact_41 : decode cX7_tellFact 41 = .ok (.ifCond .eq 11, 3) := by decide +kernel
theorem dX7_tellFact_44 : decode cX7_tellFact 44 = .ok (.aload_n 0, 1) := by decide +kernel
theorem dX7_tellFact_45 : decode cX7_tellFact 45 = .ok (.getfield 18, 3) := by decide +kernel
theorem dX7_tellFact_48 : decode cX7_tellFact 48 = .ok (.iconst 3, 1) := by decide +kernel
theorem dX7_tellFact_49 : decode cX7_tellFact 49 = .ok (.if_icmp .lt 5, 3) := by decide +kernel
theorem dX7_tellFact_52 : decode cX7_tellFact 52 = .ok (.iconst 0, 1) := by decide +kernel
theorem dX7_tellFact_53 : decode cX7_tellFact 53 = .ok (.ireturn, 1) := by decide +kernel
theorem dX7_tellFact_54 : decode cX7_tellFact 54 = .ok (.aload_n 0, 1) := by decide +kernel
theorem dX7_tellFact_55 : decode cX7_tellFact 55 = .ok (.getfield 9, 3) := by decide +kernel
theorem dX7_tellFact_58 : decode cX7_tellFact 58 = .ok (.aload_n 0, 1) := by decide +kernel
theorem dX7_tellFact_59 : decode cX7_tellFact 59 = .ok (.getfield 18, 3) := by decide +kernel
theorem dX7_tellFact_62 : decode cX7_tellFact 62 = .ok (.iload_n 1, 1) := by decide +kernel
theorem dX7_tellFact_63 : decode cX7_tellFact 63 = .ok (.iastore, 1) := by decide +kernel
theorem dX7_tellFact_64 : decode cX7_tellFact 64 = .ok (.aload_n 0, 1) := by decide +kernel
theorem dX7_tellFact_65 : decode cX7_tellFact 65 = .ok (.getfield 15, 3) := by decide +kernel
theorem dX7_tellFact_68 : decode cX7_tellFact 68 = .ok (.aload_n 0, 1) := by decide +kernel
theorem dX7_tellFact_69 : decode cX7_tellFact 69 = .ok (.getfield 18, 3) := by decide +kernel
theorem dX7_tellFact_72 : decode cX7_tellFact 72 = .ok (.iload_n 2, 1) := by decide +kernel
theorem dX7_tellFact_73 : decode cX7_tellFact 73 = .ok (.iastore, 1) := by decide +kernel
theorem dX7_tellFact_74 : decode cX7_tellFact 74 = .ok (.aload_n 0, 1) := by decide +kernel
theorem dX7_tellFact_75 : decode cX7_tellFact 75 = .ok (.dup, 1) := by decide +kernel
theorem dX7_tellFact_76 : decode cX7_tellFact 76 = .ok (.getfield 18, 3) := by decide +kernel
theorem dX7_tellFact_79 : decode cX7_tellFact 79 = .ok (.iconst 1, 1) := by decide +kernel
theorem dX7_tellFact_80 : decode cX7_tellFact 80 = .ok (.iadd, 1) := by decide +kernel
theorem dX7_tellFact_81 : decode cX7_tellFact 81 = .ok (.putfield 18, 3) := by decide +kernel
theorem dX7_tellFact_84 : decode cX7_tellFact 84 = .ok (.iconst 1, 1) := by decide +kernel
theorem dX7_tellFact_85 : decode cX7_tellFact 85 = .ok (.ireturn, 1) := by decide +kernel
def f_X7_tellFact_b52 (σ : TH) : Option (Int32 × TH) :=
  some ((0 : Int32), σ)
set_option maxHeartbeats 4000000 in
set_option maxRecDepth 100000 in
theorem t_X7_tellFact_b52 {l : Launch} {D : va_G} {cy : Nat → ClassId} {ka : Nat → Nat} {σ0 z : TH} {r : Int32}  {σ : TH}  (hf : f_X7_tellFact_b52 σ  = some (r, z)) : v_ l D cy ka cX7_tellFact RX7 3 (some FieldType.boolean) "tellFact" 2 42 (qf_ D cy σ0 z (some (.int r))) σ0 z σ 52 [] [] := by
  unfold f_X7_tellFact_b52 at hf
  refine v_iconst (v := 0) dX7_tellFact_52 (by decide) ?_
  exact v_zret hf rfl dX7_tellFact_53
def f_X7_tellFact_b18 (σ : TH) (l0 : Nat) (l1 : Int32) (l2 : Int32) (t0 : Int32) (t1 : Option Nat) : Option (Int32 × TH) :=
  nn_ t1 fun a2 => gt_ (kd_ σ a2 = 9) <| gt_ (t0 = 0 ∨ t0 = 1) <| lt_ (si_ σ 808 a2 t0) fun s3 => gt_ (kd_ s3 l0 = 9) <| lt_ (fi_ s3 808 l0) fun x4 => if x4 = 0 then (bd_ (f_X11_isKind s3 l1) fun x5 s6 => if x5 = 0 then (f_X7_tellFact_b52 s6 ) else (bd_ (f_X11_isValue s6 l2) fun x7 s8 => if x7 = 0 then (f_X7_tellFact_b52 s8 ) else (lt_ (fi_ s8 807 l0) fun x9 => if x9 < (3 : Int32) then (lt_ (fr_ s8 805 l0) fun r10 => lt_ (fi_ s8 807 l0) fun x11 => nn_ r10 fun a12 => gt_ (kd_ s8 a12 = 20) <| gt_ (¬ (x11 < 0 ∨ ln_ s8 a12 ≤ x11.toNatClampNeg)) <| lt_ (sa_ s8 a12 x11.toNatClampNeg l1) fun s13 => lt_ (fr_ s13 806 l0) fun r14 => lt_ (fi_ s13 807 l0) fun x15 => nn_ r14 fun a16 => gt_ (kd_ s13 a16 = 20) <| gt_ (¬ (x15 < 0 ∨ ln_ s13 a16 ≤ x15.toNatClampNeg)) <| lt_ (sa_ s13 a16 x15.toNatClampNeg l2) fun s17 => lt_ (fi_ s17 807 l0) fun x18 => lt_ (si_ s17 807 l0 (x18 + (1 : Int32))) fun s19 => some ((1 : Int32), s19)) else (f_X7_tellFact_b52 s8 )))) else (some ((1 : Int32), s3))
set_option maxHeartbeats 4000000 in
set_option maxRecDepth 100000 in
theorem t_X7_tellFact_b18 {l : Launch} {D : va_G} {cy : Nat → ClassId} {ka : Nat → Nat} {σ0 z : TH} {r : Int32}  {σ : TH} {l0 : Nat} {l1 : Int32} {l2 : Int32} {t0 : Int32} {t1 : Option Nat} (hf : f_X7_tellFact_b18 σ l0 l1 l2 t0 t1 = some (r, z)) : v_ l D cy ka cX7_tellFact RX7 3 (some FieldType.boolean) "tellFact" 2 42 (qf_ D cy σ0 z (some (.int r))) σ0 z σ 18 [(0, va_rf (some l0)), (1, .int l1), (2, .int l2)] [.int t0, va_rf t1] := by
  unfold f_X7_tellFact_b18 at hf
  obtain ⟨a2, rfl, hf⟩ := nn_of hf
  obtain ⟨hk_a2, hf⟩ := gt_of hf
  obtain ⟨hbs3, hf⟩ := gt_of hf
  refine v_puti2 cb_8 hk_a2 8 808 rfl (by decide) rfl (lk_n kw_1014 rfl) (Or.inl rfl) (nz_ hbs3) (fz_ hbs3) hf dX7_tellFact_18 (fun s3 hts3 hf => ?_)
  refine v_aload_n (x := (some l0)) dX7_tellFact_21 rfl 0 rfl ?_
  obtain ⟨hk_l0, hf⟩ := gt_of hf
  refine v_geti cb_8 hk_l0 8 808 rfl (by decide) rfl (lk_n kw_1014 rfl) hf dX7_tellFact_22 (fun x4 hf => ?_)
  refine v_if_eq (tgt := 30) hf dX7_tellFact_25 (by decide) (fun hq hf => ?_) (fun hq hf => ?_)
  · refine v_iload_n (x := l1) dX7_tellFact_30 rfl 1 rfl ?_
    obtain ⟨x5, s6, hcs6, hf⟩ := bd_of hf
    have hts6 := c_X11_isKind (l := l) (D := D) (cy := cy) (ka := ka) hcs6
    refine v_callSN (As := [.int l1]) (rest := []) hts6 yb_X11_isKind kw_1050 kw_569 rfl ⟨Nat.le_of_ble_eq_true rfl, Nat.le_of_ble_eq_true rfl⟩ rfl (cat_len (Nat.le_of_ble_eq_true rfl)) dX7_tellFact_31 ?_
    have hk_l0 := tk_ hts6.1 hk_l0
    show v_ l D cy ka cX7_tellFact RX7 3 (some FieldType.boolean) "tellFact" 2 42 (qf_ D cy σ0 z (some (.int r))) σ0 z _ 34 [(0, va_rf (some l0)), (1, .int l1), (2, .int l2)] [.int x5]
    refine v_if_eq (tgt := 52) hf dX7_tellFact_34 (by decide) (fun hq hf => ?_) (fun hq hf => ?_)
    · refine v_sub [] (L2 := []) rfl ?_
      exact t_X7_tellFact_b52  hf
    · refine v_iload_n (x := l2) dX7_tellFact_37 rfl 2 rfl ?_
      obtain ⟨x7, s8, hcs8, hf⟩ := bd_of hf
      have hts8 := c_X11_isValue (l := l) (D := D) (cy := cy) (ka := ka) hcs8
      refine v_callSN (As := [.int l2]) (rest := []) hts8 yb_X11_isValue kw_1051 kw_576 rfl ⟨Nat.le_of_ble_eq_true rfl, Nat.le_of_ble_eq_true rfl⟩ rfl (cat_len (Nat.le_of_ble_eq_true rfl)) dX7_tellFact_38 ?_
      have hk_l0 := tk_ hts8.1 hk_l0
      show v_ l D cy ka cX7_tellFact RX7 3 (some FieldType.boolean) "tellFact" 2 42 (qf_ D cy σ0 z (some (.int r))) σ0 z _ 41 [(0, va_rf (some l0)), (1, .int l1), (2, .int l2)] [.int x7]
      refine v_if_eq (tgt := 52) hf dX7_tellFact_41 (by decide) (fun hq hf => ?_) (fun hq hf => ?_)
      · refine v_sub [] (L2 := []) rfl ?_
        exact t_X7_tellFact_b52  hf
      · refine v_aload_n (x := (some l0)) dX7_tellFact_44 rfl 0 rfl ?_
        refine v_geti cb_8 hk_l0 7 807 rfl (by decide) rfl (lk_n kw_1013 rfl) hf dX7_tellFact_45 (fun x9 hf => ?_)
        refine v_iconst (v := 3) dX7_tellFact_48 (by decide) ?_
        refine v_icmp_lt (tgt := 54) hf dX7_tellFact_49 (by decide) (fun hq hf => ?_) (fun hq hf => ?_)
        · refine v_aload_n (x := (some l0)) dX7_tellFact_54 rfl 0 rfl ?_
          refine v_getr cb_8 hk_l0 5 805 rfl (by decide) rfl (lk_n kw_1011 rfl) hf dX7_tellFact_55 (fun r10 hf => ?_)
          refine v_aload_n (x := (some l0)) dX7_tellFact_58 rfl 0 rfl ?_
          refine v_geti cb_8 hk_l0 7 807 rfl (by decide) rfl (lk_n kw_1013 rfl) hf dX7_tellFact_59 (fun x11 hf => ?_)
          refine v_iload_n (x := l1) dX7_tellFact_62 rfl 1 rfl ?_
          obtain ⟨a12, rfl, hf⟩ := nn_of hf
          obtain ⟨hk_a12, hf⟩ := gt_of hf
          refine v_iast2 hk_a12 hf dX7_tellFact_63 (fun s13 hts13 hf => ?_)
          have hk_l0 := tk_ hts13 hk_l0
          refine v_aload_n (x := (some l0)) dX7_tellFact_64 rfl 0 rfl ?_
          refine v_getr cb_8 hk_l0 6 806 rfl (by decide) rfl (lk_n kw_1012 rfl) hf dX7_tellFact_65 (fun r14 hf => ?_)
          refine v_aload_n (x := (some l0)) dX7_tellFact_68 rfl 0 rfl ?_
          refine v_geti cb_8 hk_l0 7 807 rfl (by decide) rfl (lk_n kw_1013 rfl) hf dX7_tellFact_69 (fun x15 hf => ?_)
          refine v_iload_n (x := l2) dX7_tellFact_72 rfl 2 rfl ?_
          obtain ⟨a16, rfl, hf⟩ := nn_of hf
          obtain ⟨hk_a16, hf⟩ := gt_of hf
          refine v_iast2 hk_a16 hf dX7_tellFact_73 (fun s17 hts17 hf => ?_)
          have hk_l0 := tk_ hts17 hk_l0
          refine v_aload_n (x := (some l0)) dX7_tellFact_74 rfl 0 rfl ?_
          refine v_dup dX7_tellFact_75 (va_rf_cat _) ?_
          refine v_geti cb_8 hk_l0 7 807 rfl (by decide) rfl (lk_n kw_1013 rfl) hf dX7_tellFact_76 (fun x18 hf => ?_)
          refine v_iconst (v := 1) dX7_tellFact_79 (by decide) ?_
          refine v_iadd dX7_tellFact_80 ?_
          refine v_puti2 cb_8 hk_l0 7 807 rfl (by decide) rfl (lk_n kw_1013 rfl) (Or.inl rfl) rfl rfl hf dX7_tellFact_81 (fun s19 hts19 hf => ?_)
          have hk_l0 := tk_ hts19 hk_l0
          refine v_iconst (v := 1) dX7_tellFact_84 (by decide) ?_
          exact v_zret hf rfl dX7_tellFact_85
        · refine v_sub [] (L2 := []) rfl ?_
          exact t_X7_tellFact_b52  hf
  · refine v_iconst (v := 1) dX7_tellFact_28 (by decide) ?_
    exact v_zret hf rfl dX7_tellFact_29
def f_X7_tellFact_b13 (σ : TH) (l0 : Nat) (l1 : Int32) (l2 : Int32) (t0 : Option Nat) : Option (Int32 × TH) :=
  f_X7_tellFact_b18 σ l0 l1 l2 (1 : Int32) t0
set_option maxHeartbeats 4000000 in
set_option maxRecDepth 100000 in
theorem t_X7_tellFact_b13 {l : Launch} {D : va_G} {cy : Nat → ClassId} {ka : Nat → Nat} {σ0 z : TH} {r : Int32}  {σ : TH} {l0 : Nat} {l1 : Int32} {l2 : Int32} {t0 : Option Nat} (hf : f_X7_tellFact_b13 σ l0 l1 l2 t0 = some (r, z)) : v_ l D cy ka cX7_tellFact RX7 3 (some FieldType.boolean) "tellFact" 2 42 (qf_ D cy σ0 z (some (.int r))) σ0 z σ 13 [(0, va_rf (some l0)), (1, .int l1), (2, .int l2)] [va_rf t0] := by
  unfold f_X7_tellFact_b13 at hf
  refine v_iconst (v := 1) dX7_tellFact_13 (by decide) ?_
  refine v_goto (tgt := 18) dX7_tellFact_14 (by decide) ?_
  refine v_sub [0, 1, 2] (L2 := [(0, va_rf (some l0)), (1, .int l1), (2, .int l2)]) rfl ?_
  exact t_X7_tellFact_b18  hf
/-- LivesAhead$Report.tellFact(II)Z -/
def f_X7_tellFact (σ : TH) (p0 : Nat) (p1 : Int32) (p2 : Int32) : Option (Int32 × TH) :=
  gt_ (kd_ σ p0 = 9) <| lt_ (fi_ σ 808 p0) fun x1 => if x1 = 0 then (if p1 = (-1 : Int32) then (f_X7_tellFact_b13 σ p0 p1 p2 (some p0)) else (f_X7_tellFact_b18 σ p0 p1 p2 (0 : Int32) (some p0))) else (f_X7_tellFact_b13 σ p0 p1 p2 (some p0))
set_option maxHeartbeats 4000000 in
set_option maxRecDepth 100000 in
theorem c_X7_tellFact {l : Launch} {D : va_G} {cy : Nat → ClassId} {ka : Nat → Nat} {σ z : TH} {p0 : Nat} {p1 : Int32} {p2 : Int32} {r : Int32} (hf : f_X7_tellFact σ p0 p1 p2 = some (r, z)) : ct_ l D cy ka yX7_tellFact 2 42 [va_rf (some p0), .int p1, .int p2] σ (some (.int r)) z := by
  unfold f_X7_tellFact at hf
  refine v_start (cc := cX7_tellFact) (own := RX7) (maxL := 3) (ret := (some FieldType.boolean)) (nm := "tellFact") (by decide +kernel) kw_1049 rfl rfl (by simp [lg_sl, va_rf_cat, cat_i, cat_l]) ?_
  refine v_eqL (L2 := [(0, va_rf (some p0)), (1, .int p1), (2, .int p2)]) (by simp [lv_args, va_rf_cat, cat_i, cat_l]) ?_
  refine v_aload_n (x := (some p0)) dX7_tellFact_0 rfl 0 rfl ?_
  refine v_aload_n (x := (some p0)) dX7_tellFact_1 rfl 0 rfl ?_
  obtain ⟨hk_p0, hf⟩ := gt_of hf
  refine v_geti cb_8 hk_p0 8 808 rfl (by decide) rfl (lk_n kw_1014 rfl) hf dX7_tellFact_2 (fun x1 hf => ?_)
  refine v_if_ne (tgt := 13) hf dX7_tellFact_5 (by decide) (fun hq hf => ?_) (fun hq hf => ?_)
  · refine v_iload_n (x := p1) dX7_tellFact_8 rfl 1 rfl ?_
    refine v_iconst (v := (-1)) dX7_tellFact_9 (by decide) ?_
    refine v_icmp_ne (tgt := 17) hf dX7_tellFact_10 (by decide) (fun hq hf => ?_) (fun hq hf => ?_)
    · refine v_sub [0, 1, 2] (L2 := [(0, va_rf (some p0)), (1, .int p1), (2, .int p2)]) rfl ?_
      exact t_X7_tellFact_b13  hf
    · refine v_iconst (v := 0) dX7_tellFact_17 (by decide) ?_
      refine v_sub [0, 1, 2] (L2 := [(0, va_rf (some p0)), (1, .int p1), (2, .int p2)]) rfl ?_
      exact t_X7_tellFact_b18  hf
  · refine v_sub [0, 1, 2] (L2 := [(0, va_rf (some p0)), (1, .int p1), (2, .int p2)]) rfl ?_
    exact t_X7_tellFact_b13  hf
theorem dX11_takes_0 : decode cX11_takes 0 = .ok (.aload_n 0, 1) := by decide +kernel
theorem dX11_takes_1 : decode cX11_takes 1 = .ok (.getfield 84, 3) := by decide +kernel
theorem dX11_takes_4 : decode cX11_takes 4 = .ok (.ireturn, 1) := by decide +kernel
/-- LivesAhead.takes()I -/
def f_X11_takes (σ : TH) (p0 : Nat) : Option (Int32 × TH) :=
  gt_ (kd_ σ p0 = 13) <| lt_ (fi_ σ 1219 p0) fun x1 => some (x1, σ)
set_option maxHeartbeats 4000000 in
set_option maxRecDepth 100000 in
theorem c_X11_takes {l : Launch} {D : va_G} {cy : Nat → ClassId} {ka : Nat → Nat} {σ z : TH} {p0 : Nat} {r : Int32} (hf : f_X11_takes σ p0 = some (r, z)) : ct_ l D cy ka yX11_takes 0 0 [va_rf (some p0)] σ (some (.int r)) z := by
  unfold f_X11_takes at hf
  refine v_start (cc := cX11_takes) (own := RX11) (maxL := 1) (ret := (some FieldType.int)) (nm := "takes") (by decide +kernel) kw_1313 rfl rfl (by simp [lg_sl, va_rf_cat, cat_i, cat_l]) ?_
  refine v_eqL (L2 := [(0, va_rf (some p0))]) (by simp [lv_args, va_rf_cat, cat_i, cat_l]) ?_
  refine v_aload_n (x := (some p0)) dX11_takes_0 rfl 0 rfl ?_
  obtain ⟨hk_p0, hf⟩ := gt_of hf
  refine v_geti cb_12 hk_p0 19 1219 rfl (by decide) rfl (lk_n kw_258 rfl) hf dX11_takes_1 (fun x1 hf => ?_)
  exact v_iret hf dX11_takes_4
theorem dX11_trouble_0 : decode cX11_trouble 0 = .ok (.aload_n 0, 1) := by decide +kernel
theorem dX11_trouble_1 : decode cX11_trouble 1 = .ok (.getfield 69, 3) := by decide +kernel
theorem dX11_trouble_4 : decode cX11_trouble 4 = .ok (.ireturn, 1) := by decide +kernel
/-- LivesAhead.trouble()I -/
def f_X11_trouble (σ : TH) (p0 : Nat) : Option (Int32 × TH) :=
  gt_ (kd_ σ p0 = 13) <| lt_ (fi_ σ 1214 p0) fun x1 => some (x1, σ)
set_option maxHeartbeats 4000000 in
set_option maxRecDepth 100000 in
theorem c_X11_trouble {l : Launch} {D : va_G} {cy : Nat → ClassId} {ka : Nat → Nat} {σ z : TH} {p0 : Nat} {r : Int32} (hf : f_X11_trouble σ p0 = some (r, z)) : ct_ l D cy ka yX11_trouble 0 0 [va_rf (some p0)] σ (some (.int r)) z := by
  unfold f_X11_trouble at hf
  refine v_start (cc := cX11_trouble) (own := RX11) (maxL := 1) (ret := (some FieldType.int)) (nm := "trouble") (by decide +kernel) kw_1342 rfl rfl (by simp [lg_sl, va_rf_cat, cat_i, cat_l]) ?_
  refine v_eqL (L2 := [(0, va_rf (some p0))]) (by simp [lv_args, va_rf_cat, cat_i, cat_l]) ?_
  refine v_aload_n (x := (some p0)) dX11_trouble_0 rfl 0 rfl ?_
  obtain ⟨hk_p0, hf⟩ := gt_of hf
  refine v_geti cb_12 hk_p0 14 1214 rfl (by decide) rfl (lk_n kw_253 rfl) hf dX11_trouble_1 (fun x1 hf => ?_)
  exact v_iret hf dX11_trouble_4
