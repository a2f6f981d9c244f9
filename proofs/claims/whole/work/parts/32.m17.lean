/-! Functions over the typed heap and contracts, by wip/gen/gen.py: X15_term X15_sum X15_bare X15_one X15_test X15_goesBrace X15_goesText X15_goes X15_lengthOf X15_ruleHolds X15_mayBeTold -/
theorem dX15_term_0 : decode cX15_term 0 = .ok (.aload_n 0, 1) := by decide +kernel
theorem dX15_term_1 : decode cX15_term 1 = .ok (.getfield 296, 3) := by decide +kernel
theorem dX15_term_4 : decode cX15_term 4 = .ok (.iconst 3, 1) := by decide +kernel
theorem dX15_term_5 : decode cX15_term 5 = .ok (.if_icmp .eq 11, 3) := by decide +kernel
theorem dX15_term_8 : decode cX15_term 8 = .ok (.aload_n 0, 1) := by decide +kernel
theorem dX15_term_9 : decode cX15_term 9 = .ok (.getfield 296, 3) := by decide +kernel
theorem dX15_term_12 : decode cX15_term 12 = .ok (.iconst 2, 1) := by decide +kernel
theorem dX15_term_13 : decode cX15_term 13 = .ok (.if_icmp .ne 10, 3) := by decide +kernel
theorem dX15_term_16 : decode cX15_term 16 = .ok (.aload_n 0, 1) := by decide +kernel
theorem dX15_term_17 : decode cX15_term 17 = .ok (.invokevirtual 416, 3) := by decide +kernel
theorem dX15_term_20 : decode cX15_term 20 = .ok (.ifCond .eq 13, 3) := by decide +kernel
theorem dX15_term_23 : decode cX15_term 23 = .ok (.aload_n 0, 1) := by decide +kernel
theorem dX15_term_24 : decode cX15_term 24 = .ok (.iconst 1, 1) := by decide +kernel
theorem dX15_term_25 : decode cX15_term 25 = .ok (.aload_n 0, 1) := by decide +kernel
theorem dX15_term_26 : decode cX15_term 26 = .ok (.getfield 295, 3) := by decide +kernel
theorem dX15_term_29 : decode cX15_term 29 = .ok (.invokevirtual 342, 3) := by decide +kernel
theorem dX15_term_32 : decode cX15_term 32 = .ok (.athrow, 1) := by decide +kernel
theorem dX15_term_33 : decode cX15_term 33 = .ok (.aload_n 0, 1) := by decide +kernel
theorem dX15_term_34 : decode cX15_term 34 = .ok (.getfield 296, 3) := by decide +kernel
theorem dX15_term_37 : decode cX15_term 37 = .ok (.iconst 2, 1) := by decide +kernel
theorem dX15_term_38 : decode cX15_term 38 = .ok (.if_icmp .ne 37, 3) := by decide +kernel
theorem dX15_term_41 : decode cX15_term 41 = .ok (.aload_n 0, 1) := by decide +kernel
theorem dX15_term_42 : decode cX15_term 42 = .ok (.getfield 388, 3) := by decide +kernel
theorem dX15_term_45 : decode cX15_term 45 = .ok (.ifCond .eq 13, 3) := by decide +kernel
theorem dX15_term_48 : decode cX15_term 48 = .ok (.aload_n 0, 1) := by decide +kernel
theorem dX15_term_49 : decode cX15_term 49 = .ok (.invokevirtual 419, 3) := by decide +kernel
theorem dX15_term_52 : decode cX15_term 52 = .ok (.ifCond .eq 13, 3) := by decide +kernel
theorem dX15_term_55 : decode cX15_term 55 = .ok (.goto 20, 3) := by decide +kernel
theorem dX15_term_58 : decode cX15_term 58 = .ok (.aload_n 0, 1) := by decide +kernel
theorem dX15_term_59 : decode cX15_term 59 = .ok (.invokevirtual 422, 3) := by decide +kernel
theorem dX15_term_62 : decode cX15_term 62 = .ok (.ifCond .ne 13, 3) := by decide +kernel
theorem dX15_term_65 : decode cX15_term 65 = .ok (.aload_n 0, 1) := by decide +kernel
theorem dX15_term_66 : decode cX15_term 66 = .ok (.iconst 2, 1) := by decide +kernel
theorem dX15_term_67 : decode cX15_term 67 = .ok (.aload_n 0, 1) := by decide +kernel
theorem dX15_term_68 : decode cX15_term 68 = .ok (.getfield 295, 3) := by decide +kernel
theorem dX15_term_71 : decode cX15_term 71 = .ok (.invokevirtual 342, 3) := by decide +kernel
theorem dX15_term_74 : decode cX15_term 74 = .ok (.athrow, 1) := by decide +kernel
theorem dX15_term_75 : decode cX15_term 75 = .ok (.aload_n 0, 1) := by decide +kernel
theorem dX15_term_76 : decode cX15_term 76 = .ok (.getfield 425, 3) := by decide +kernel
theorem dX15_term_79 : decode cX15_term 79 = .ok (.bipush 30, 2) := by decide +kernel
theorem dX15_term_81 : decode cX15_term 81 = .ok (.if_icmp .ne 13, 3) := by decide +kernel
theorem dX15_term_84 : decode cX15_term 84 = .ok (.aload_n 0, 1) := by decide +kernel
theorem dX15_term_85 : decode cX15_term 85 = .ok (.iconst 3, 1) := by decide +kernel
theorem dX15_term_86 : decode cX15_term 86 = .ok (.aload_n 0, 1) := by decide +kernel
theorem dX15_term_87 : decode cX15_term 87 = .ok (.getfield 295, 3) := by decide +kernel
theorem dX15_term_90 : decode cX15_term 90 = .ok (.invokevirtual 342, 3) := by decide +kernel
theorem dX15_term_93 : decode cX15_term 93 = .ok (.athrow, 1) := by decide +kernel
theorem dX15_term_94 : decode cX15_term 94 = .ok (.aload_n 0, 1) := by decide +kernel
theorem dX15_term_95 : decode cX15_term 95 = .ok (.dup, 1) := by decide +kernel
theorem dX15_term_96 : decode cX15_term 96 = .ok (.getfield 425, 3) := by decide +kernel
theorem dX15_term_99 : decode cX15_term 99 = .ok (.iconst 1, 1) := by decide +kernel
theorem dX15_term_100 : decode cX15_term 100 = .ok (.iadd, 1) := by decide +kernel
theorem dX15_term_101 : decode cX15_term 101 = .ok (.putfield 425, 3) := by decide +kernel
theorem dX15_term_104 : decode cX15_term 104 = .ok (.aload_n 0, 1) := by decide +kernel
theorem dX15_term_105 : decode cX15_term 105 = .ok (.getfield 296, 3) := by decide +kernel
theorem dX15_term_108 : decode cX15_term 108 = .ok (.iconst 3, 1) := by decide +kernel
theorem dX15_term_109 : decode cX15_term 109 = .ok (.if_icmp .ne 10, 3) := by decide +kernel
theorem dX15_term_112 : decode cX15_term 112 = .ok (.aload_n 0, 1) := by decide +kernel
theorem dX15_term_113 : decode cX15_term 113 = .ok (.getfield 315, 3) := by decide +kernel
theorem dX15_term_116 : decode cX15_term 116 = .ok (.goto 21, 3) := by decide +kernel
theorem dX15_term_119 : decode cX15_term 119 = .ok (.aload_n 0, 1) := by decide +kernel
theorem dX15_term_120 : decode cX15_term 120 = .ok (.getfield 388, 3) := by decide +kernel
theorem dX15_term_123 : decode cX15_term 123 = .ok (.ifCond .eq 10, 3) := by decide +kernel
theorem dX15_term_126 : decode cX15_term 126 = .ok (.aload_n 0, 1) := by decide +kernel
theorem dX15_term_127 : decode cX15_term 127 = .ok (.invokevirtual 428, 3) := by decide +kernel
theorem dX15_term_130 : decode cX15_term 130 = .ok (.goto 7, 3) := by decide +kernel
theorem dX15_term_133 : decode cX15_term 133 = .ok (.aload_n 0, 1) := by decide +kernel
theorem dX15_term_134 : decode cX15_term 134 = .ok (.invokevirtual 431, 3) := by decide +kernel
theorem dX15_term_137 : decode cX15_term 137 = .ok (.istore_n 1, 1) := by decide +kernel
theorem dX15_term_138 : decode cX15_term 138 = .ok (.aload_n 0, 1) := by decide +kernel
theorem dX15_term_139 : decode cX15_term 139 = .ok (.invokevirtual 352, 3) := by decide +kernel
theorem dX15_term_142 : decode cX15_term 142 = .ok (.iload_n 1, 1) := by decide +kernel
theorem dX15_term_143 : decode cX15_term 143 = .ok (.ireturn, 1) := by decide +kernel
def f_X15_term_b65 (σ : TH) (l0 : Nat) : Option ((Int32 ⊕ Nat) × TH) :=
  gt_ (kd_ σ l0 = 17) <| lt_ (fi_ σ 1634 l0) fun x8 => bd_ (f_X15_stop σ l0 (2 : Int32) x8) fun r9 s10 => nn_ r9 fun a11 => gt_ (kd_ s10 a11 = 16) <| some (.inr a11, s10)
set_option maxHeartbeats 4000000 in
set_option maxRecDepth 100000 in
theorem t_X15_term_b65 {l : Launch} {D : va_G} {cy : Nat → ClassId} {ka : Nat → Nat} {σ0 z : TH} {w : (Int32 ⊕ Nat)}  {σ : TH} {l0 : Nat} (hf : f_X15_term_b65 σ l0 = some (w, z)) : v_ l D cy ka cX15_term RX15 2 (some FieldType.int) "term" 8 172 (qm_ D cy σ0 z (fun r : Int32 => some (.int r)) w) σ0 z σ 65 [(0, va_rf (some l0))] [] := by
  unfold f_X15_term_b65 at hf
  refine v_aload_n (x := (some l0)) dX15_term_65 rfl 0 rfl ?_
  refine v_iconst (v := 2) dX15_term_66 (by decide) ?_
  refine v_aload_n (x := (some l0)) dX15_term_67 rfl 0 rfl ?_
  obtain ⟨hk_l0, hf⟩ := gt_of hf
  refine v_geti cb_16 hk_l0 34 1634 rfl (by decide) rfl (lk_n kw_1491 rfl) hf dX15_term_68 (fun x8 hf => ?_)
  obtain ⟨r9, s10, hcs10, hf⟩ := bd_of hf
  have hts10 := c_X15_stop (l := l) (D := D) (cy := cy) (ka := ka) hcs10
  refine v_callV cb_16 hk_l0 (As := [.int (2 : Int32), .int x8]) (rest := []) hts10 yb_X15_stop kw_1888 kw_1890 kp_99 rfl ⟨Nat.le_of_ble_eq_true rfl, Nat.le_of_ble_eq_true rfl⟩ rfl (cat_len (Nat.le_of_ble_eq_true rfl)) dX15_term_71 ?_
  have hk_l0 := tk_ hts10.1 hk_l0
  show v_ l D cy ka cX15_term RX15 2 (some FieldType.int) "term" 8 172 (qm_ D cy σ0 z (fun r : Int32 => some (.int r)) w) σ0 z _ 74 [(0, va_rf (some l0))] [va_rf r9]
  obtain ⟨a11, rfl, hf⟩ := nn_of hf
  obtain ⟨hk_a11, hf⟩ := gt_of hf
  exact v_athrow hk_a11 (by decide +kernel) hf dX15_term_74
def f_X15_term_b137 (σ : TH) (l0 : Nat) (t0 : Int32) : Option ((Int32 ⊕ Nat) × TH) :=
  gt_ (kd_ σ l0 = 17) <| bd_ (f_X15_next σ l0) fun x21 s22 => some (.inl (t0), s22)
set_option maxHeartbeats 4000000 in
set_option maxRecDepth 100000 in
theorem t_X15_term_b137 {l : Launch} {D : va_G} {cy : Nat → ClassId} {ka : Nat → Nat} {σ0 z : TH} {w : (Int32 ⊕ Nat)}  {σ : TH} {l0 : Nat} {t0 : Int32} (hf : f_X15_term_b137 σ l0 t0 = some (w, z)) : v_ l D cy ka cX15_term RX15 2 (some FieldType.int) "term" 8 172 (qm_ D cy σ0 z (fun r : Int32 => some (.int r)) w) σ0 z σ 137 [(0, va_rf (some l0))] [.int t0] := by
  unfold f_X15_term_b137 at hf
  refine v_istore_n [(1, .int t0), (0, va_rf (some l0))] dX15_term_137 rfl (by decide) rfl ?_
  refine v_aload_n (x := (some l0)) dX15_term_138 rfl 1 rfl ?_
  obtain ⟨hk_l0, hf⟩ := gt_of hf
  obtain ⟨x21, s22, hcs22, hf⟩ := bd_of hf
  have hts22 := c_X15_next (l := l) (D := D) (cy := cy) (ka := ka) hcs22
  refine v_callV cb_16 hk_l0 (As := []) (rest := []) hts22 yb_X15_next kw_1896 kw_1898 kp_101 rfl ⟨Nat.le_of_ble_eq_true rfl, Nat.le_of_ble_eq_true rfl⟩ rfl (cat_len (Nat.le_of_ble_eq_true rfl)) dX15_term_139 ?_
  have hk_l0 := tk_ hts22.1 hk_l0
  show v_ l D cy ka cX15_term RX15 2 (some FieldType.int) "term" 8 172 (qm_ D cy σ0 z (fun r : Int32 => some (.int r)) w) σ0 z _ 142 [(1, .int t0), (0, va_rf (some l0))] []
  refine v_iload_n (x := t0) dX15_term_142 rfl 0 rfl ?_
  exact v_iretM hf dX15_term_143
def f_X15_term_b75 (σ : TH) (l0 : Nat) : Option ((Int32 ⊕ Nat) × TH) :=
  gt_ (kd_ σ l0 = 17) <| lt_ (fi_ σ 1639 l0) fun x12 => if x12 = (30 : Int32) then (lt_ (fi_ σ 1634 l0) fun x13 => bd_ (f_X15_stop σ l0 (3 : Int32) x13) fun r14 s15 => nn_ r14 fun a16 => gt_ (kd_ s15 a16 = 16) <| some (.inr a16, s15)) else (lt_ (fi_ σ 1639 l0) fun x17 => lt_ (si_ σ 1639 l0 (x17 + (1 : Int32))) fun s18 => lt_ (fi_ s18 1633 l0) fun x19 => if x19 = (3 : Int32) then (lt_ (fi_ s18 1636 l0) fun x20 => f_X15_term_b137 s18 l0 x20) else (lt_ (fi_ s18 1645 l0) fun x23 => if x23 = 0 then (bd_ (f_X15_value s18 l0) fun x24 s25 => f_X15_term_b137 s25 l0 x24) else (bd_ (f_X15_ruleValue s18 l0) fun x26 s27 => f_X15_term_b137 s27 l0 x26)))
set_option maxHeartbeats 4000000 in
set_option maxRecDepth 100000 in
theorem t_X15_term_b75 {l : Launch} {D : va_G} {cy : Nat → ClassId} {ka : Nat → Nat} {σ0 z : TH} {w : (Int32 ⊕ Nat)}  {σ : TH} {l0 : Nat} (hf : f_X15_term_b75 σ l0 = some (w, z)) : v_ l D cy ka cX15_term RX15 2 (some FieldType.int) "term" 8 172 (qm_ D cy σ0 z (fun r : Int32 => some (.int r)) w) σ0 z σ 75 [(0, va_rf (some l0))] [] := by
  unfold f_X15_term_b75 at hf
  refine v_aload_n (x := (some l0)) dX15_term_75 rfl 0 rfl ?_
  obtain ⟨hk_l0, hf⟩ := gt_of hf
  refine v_geti cb_16 hk_l0 39 1639 rfl (by decide) rfl (lk_n kw_1496 rfl) hf dX15_term_76 (fun x12 hf => ?_)
  refine v_bipush (v := 30) dX15_term_79 (by decide) ?_
  refine v_icmp_ne (tgt := 94) hf dX15_term_81 (by decide) (fun hq hf => ?_) (fun hq hf => ?_)
  · refine v_aload_n (x := (some l0)) dX15_term_84 rfl 0 rfl ?_
    refine v_iconst (v := 3) dX15_term_85 (by decide) ?_
    refine v_aload_n (x := (some l0)) dX15_term_86 rfl 0 rfl ?_
    refine v_geti cb_16 hk_l0 34 1634 rfl (by decide) rfl (lk_n kw_1491 rfl) hf dX15_term_87 (fun x13 hf => ?_)
    obtain ⟨r14, s15, hcs15, hf⟩ := bd_of hf
    have hts15 := c_X15_stop (l := l) (D := D) (cy := cy) (ka := ka) hcs15
    refine v_callV cb_16 hk_l0 (As := [.int (3 : Int32), .int x13]) (rest := []) hts15 yb_X15_stop kw_1888 kw_1890 kp_99 rfl ⟨Nat.le_of_ble_eq_true rfl, Nat.le_of_ble_eq_true rfl⟩ rfl (cat_len (Nat.le_of_ble_eq_true rfl)) dX15_term_90 ?_
    have hk_l0 := tk_ hts15.1 hk_l0
    show v_ l D cy ka cX15_term RX15 2 (some FieldType.int) "term" 8 172 (qm_ D cy σ0 z (fun r : Int32 => some (.int r)) w) σ0 z _ 93 [(0, va_rf (some l0))] [va_rf r14]
    obtain ⟨a16, rfl, hf⟩ := nn_of hf
    obtain ⟨hk_a16, hf⟩ := gt_of hf
    exact v_athrow hk_a16 (by decide +kernel) hf dX15_term_93
  · refine v_aload_n (x := (some l0)) dX15_term_94 rfl 0 rfl ?_
    refine v_dup dX15_term_95 (va_rf_cat _) ?_
    refine v_geti cb_16 hk_l0 39 1639 rfl (by decide) rfl (lk_n kw_1496 rfl) hf dX15_term_96 (fun x17 hf => ?_)
    refine v_iconst (v := 1) dX15_term_99 (by decide) ?_
    refine v_iadd dX15_term_100 ?_
    refine v_puti2 cb_16 hk_l0 39 1639 rfl (by decide) rfl (lk_n kw_1496 rfl) (Or.inl rfl) rfl rfl hf dX15_term_101 (fun s18 hts18 hf => ?_)
    have hk_l0 := tk_ hts18 hk_l0
    refine v_aload_n (x := (some l0)) dX15_term_104 rfl 0 rfl ?_
    refine v_geti cb_16 hk_l0 33 1633 rfl (by decide) rfl (lk_n kw_1490 rfl) hf dX15_term_105 (fun x19 hf => ?_)
    refine v_iconst (v := 3) dX15_term_108 (by decide) ?_
    refine v_icmp_ne (tgt := 119) hf dX15_term_109 (by decide) (fun hq hf => ?_) (fun hq hf => ?_)
    · refine v_aload_n (x := (some l0)) dX15_term_112 rfl 0 rfl ?_
      refine v_geti cb_16 hk_l0 36 1636 rfl (by decide) rfl (lk_n kw_1493 rfl) hf dX15_term_113 (fun x20 hf => ?_)
      refine v_goto (tgt := 137) dX15_term_116 (by decide) ?_
      refine v_sub [0] (L2 := [(0, va_rf (some l0))]) rfl ?_
      exact t_X15_term_b137  hf
    · refine v_aload_n (x := (some l0)) dX15_term_119 rfl 0 rfl ?_
      refine v_geti cb_16 hk_l0 45 1645 rfl (by decide) rfl (lk_n kw_1502 rfl) hf dX15_term_120 (fun x23 hf => ?_)
      refine v_if_eq (tgt := 133) hf dX15_term_123 (by decide) (fun hq hf => ?_) (fun hq hf => ?_)
      · refine v_aload_n (x := (some l0)) dX15_term_133 rfl 0 rfl ?_
        obtain ⟨x24, s25, hcs25, hf⟩ := bd_of hf
        have hts25 := c_X15_value (l := l) (D := D) (cy := cy) (ka := ka) hcs25
        refine v_callV cb_16 hk_l0 (As := []) (rest := []) hts25 yb_X15_value kw_1990 kw_1992 kp_116 rfl ⟨Nat.le_of_ble_eq_true rfl, Nat.le_of_ble_eq_true rfl⟩ rfl (cat_len (Nat.le_of_ble_eq_true rfl)) dX15_term_134 ?_
        have hk_l0 := tk_ hts25.1 hk_l0
        show v_ l D cy ka cX15_term RX15 2 (some FieldType.int) "term" 8 172 (qm_ D cy σ0 z (fun r : Int32 => some (.int r)) w) σ0 z _ 137 [(0, va_rf (some l0))] [.int x24]
        refine v_sub [0] (L2 := [(0, va_rf (some l0))]) rfl ?_
        exact t_X15_term_b137  hf
      · refine v_aload_n (x := (some l0)) dX15_term_126 rfl 0 rfl ?_
        obtain ⟨x26, s27, hcs27, hf⟩ := bd_of hf
        have hts27 := c_X15_ruleValue (l := l) (D := D) (cy := cy) (ka := ka) hcs27
        refine v_callV cb_16 hk_l0 (As := []) (rest := []) hts27 yb_X15_ruleValue kw_1966 kw_1968 kp_110 rfl ⟨Nat.le_of_ble_eq_true rfl, Nat.le_of_ble_eq_true rfl⟩ rfl (cat_len (Nat.le_of_ble_eq_true rfl)) dX15_term_127 ?_
        have hk_l0 := tk_ hts27.1 hk_l0
        show v_ l D cy ka cX15_term RX15 2 (some FieldType.int) "term" 8 172 (qm_ D cy σ0 z (fun r : Int32 => some (.int r)) w) σ0 z _ 130 [(0, va_rf (some l0))] [.int x26]
        refine v_goto (tgt := 137) dX15_term_130 (by decide) ?_
        refine v_sub [0] (L2 := [(0, va_rf (some l0))]) rfl ?_
        exact t_X15_term_b137  hf
def f_X15_term_b23 (σ : TH) (l0 : Nat) : Option ((Int32 ⊕ Nat) × TH) :=
  gt_ (kd_ σ l0 = 17) <| lt_ (fi_ σ 1634 l0) fun x30 => bd_ (f_X15_stop σ l0 (1 : Int32) x30) fun r31 s32 => nn_ r31 fun a33 => gt_ (kd_ s32 a33 = 16) <| some (.inr a33, s32)
set_option maxHeartbeats 4000000 in
set_option maxRecDepth 100000 in
theorem t_X15_term_b23 {l : Launch} {D : va_G} {cy : Nat → ClassId} {ka : Nat → Nat} {σ0 z : TH} {w : (Int32 ⊕ Nat)}  {σ : TH} {l0 : Nat} (hf : f_X15_term_b23 σ l0 = some (w, z)) : v_ l D cy ka cX15_term RX15 2 (some FieldType.int) "term" 8 172 (qm_ D cy σ0 z (fun r : Int32 => some (.int r)) w) σ0 z σ 23 [(0, va_rf (some l0))] [] := by
  unfold f_X15_term_b23 at hf
  refine v_aload_n (x := (some l0)) dX15_term_23 rfl 0 rfl ?_
  refine v_iconst (v := 1) dX15_term_24 (by decide) ?_
  refine v_aload_n (x := (some l0)) dX15_term_25 rfl 0 rfl ?_
  obtain ⟨hk_l0, hf⟩ := gt_of hf
  refine v_geti cb_16 hk_l0 34 1634 rfl (by decide) rfl (lk_n kw_1491 rfl) hf dX15_term_26 (fun x30 hf => ?_)
  obtain ⟨r31, s32, hcs32, hf⟩ := bd_of hf
  have hts32 := c_X15_stop (l := l) (D := D) (cy := cy) (ka := ka) hcs32
  refine v_callV cb_16 hk_l0 (As := [.int (1 : Int32), .int x30]) (rest := []) hts32 yb_X15_stop kw_1888 kw_1890 kp_99 rfl ⟨Nat.le_of_ble_eq_true rfl, Nat.le_of_ble_eq_true rfl⟩ rfl (cat_len (Nat.le_of_ble_eq_true rfl)) dX15_term_29 ?_
  have hk_l0 := tk_ hts32.1 hk_l0
  show v_ l D cy ka cX15_term RX15 2 (some FieldType.int) "term" 8 172 (qm_ D cy σ0 z (fun r : Int32 => some (.int r)) w) σ0 z _ 32 [(0, va_rf (some l0))] [va_rf r31]
  obtain ⟨a33, rfl, hf⟩ := nn_of hf
  obtain ⟨hk_a33, hf⟩ := gt_of hf
  exact v_athrow hk_a33 (by decide +kernel) hf dX15_term_32
def f_X15_term_b16 (σ : TH) (l0 : Nat) : Option ((Int32 ⊕ Nat) × TH) :=
  gt_ (kd_ σ l0 = 17) <| bd_ (f_X15_isKept σ l0) fun x2 s3 => if x2 = 0 then (lt_ (fi_ s3 1633 l0) fun x4 => if x4 = (2 : Int32) then (lt_ (fi_ s3 1645 l0) fun x5 => if x5 = 0 then (bd_ (f_X15_isName s3 l0) fun x6 s7 => if x6 = 0 then (f_X15_term_b65 s7 l0) else (f_X15_term_b75 s7 l0)) else (bd_ (f_X15_isRuleName s3 l0) fun x28 s29 => if x28 = 0 then (f_X15_term_b65 s29 l0) else (f_X15_term_b75 s29 l0))) else (f_X15_term_b75 s3 l0)) else (f_X15_term_b23 s3 l0)
set_option maxHeartbeats 4000000 in
set_option maxRecDepth 100000 in
theorem t_X15_term_b16 {l : Launch} {D : va_G} {cy : Nat → ClassId} {ka : Nat → Nat} {σ0 z : TH} {w : (Int32 ⊕ Nat)}  {σ : TH} {l0 : Nat} (hf : f_X15_term_b16 σ l0 = some (w, z)) : v_ l D cy ka cX15_term RX15 2 (some FieldType.int) "term" 8 172 (qm_ D cy σ0 z (fun r : Int32 => some (.int r)) w) σ0 z σ 16 [(0, va_rf (some l0))] [] := by
  unfold f_X15_term_b16 at hf
  refine v_aload_n (x := (some l0)) dX15_term_16 rfl 0 rfl ?_
  obtain ⟨hk_l0, hf⟩ := gt_of hf
  obtain ⟨x2, s3, hcs3, hf⟩ := bd_of hf
  have hts3 := c_X15_isKept (l := l) (D := D) (cy := cy) (ka := ka) hcs3
  refine v_callV cb_16 hk_l0 (As := []) (rest := []) hts3 yb_X15_isKept kw_1928 kw_1930 kp_105 rfl ⟨Nat.le_of_ble_eq_true rfl, Nat.le_of_ble_eq_true rfl⟩ rfl (cat_len (Nat.le_of_ble_eq_true rfl)) dX15_term_17 ?_
  have hk_l0 := tk_ hts3.1 hk_l0
  show v_ l D cy ka cX15_term RX15 2 (some FieldType.int) "term" 8 172 (qm_ D cy σ0 z (fun r : Int32 => some (.int r)) w) σ0 z _ 20 [(0, va_rf (some l0))] [.int x2]
  refine v_if_eq (tgt := 33) hf dX15_term_20 (by decide) (fun hq hf => ?_) (fun hq hf => ?_)
  · refine v_aload_n (x := (some l0)) dX15_term_33 rfl 0 rfl ?_
    refine v_geti cb_16 hk_l0 33 1633 rfl (by decide) rfl (lk_n kw_1490 rfl) hf dX15_term_34 (fun x4 hf => ?_)
    refine v_iconst (v := 2) dX15_term_37 (by decide) ?_
    refine v_icmp_ne (tgt := 75) hf dX15_term_38 (by decide) (fun hq hf => ?_) (fun hq hf => ?_)
    · refine v_aload_n (x := (some l0)) dX15_term_41 rfl 0 rfl ?_
      refine v_geti cb_16 hk_l0 45 1645 rfl (by decide) rfl (lk_n kw_1502 rfl) hf dX15_term_42 (fun x5 hf => ?_)
      refine v_if_eq (tgt := 58) hf dX15_term_45 (by decide) (fun hq hf => ?_) (fun hq hf => ?_)
      · refine v_aload_n (x := (some l0)) dX15_term_58 rfl 0 rfl ?_
        obtain ⟨x6, s7, hcs7, hf⟩ := bd_of hf
        have hts7 := c_X15_isName (l := l) (D := D) (cy := cy) (ka := ka) hcs7
        refine v_callV cb_16 hk_l0 (As := []) (rest := []) hts7 yb_X15_isName kw_1955 kw_1957 kp_108 rfl ⟨Nat.le_of_ble_eq_true rfl, Nat.le_of_ble_eq_true rfl⟩ rfl (cat_len (Nat.le_of_ble_eq_true rfl)) dX15_term_59 ?_
        have hk_l0 := tk_ hts7.1 hk_l0
        show v_ l D cy ka cX15_term RX15 2 (some FieldType.int) "term" 8 172 (qm_ D cy σ0 z (fun r : Int32 => some (.int r)) w) σ0 z _ 62 [(0, va_rf (some l0))] [.int x6]
        refine v_if_ne (tgt := 75) hf dX15_term_62 (by decide) (fun hq hf => ?_) (fun hq hf => ?_)
        · refine v_sub [0] (L2 := [(0, va_rf (some l0))]) rfl ?_
          exact t_X15_term_b65  hf
        · refine v_sub [0] (L2 := [(0, va_rf (some l0))]) rfl ?_
          exact t_X15_term_b75  hf
      · refine v_aload_n (x := (some l0)) dX15_term_48 rfl 0 rfl ?_
        obtain ⟨x28, s29, hcs29, hf⟩ := bd_of hf
        have hts29 := c_X15_isRuleName (l := l) (D := D) (cy := cy) (ka := ka) hcs29
        refine v_callV cb_16 hk_l0 (As := []) (rest := []) hts29 yb_X15_isRuleName kw_1938 kw_1940 kp_106 rfl ⟨Nat.le_of_ble_eq_true rfl, Nat.le_of_ble_eq_true rfl⟩ rfl (cat_len (Nat.le_of_ble_eq_true rfl)) dX15_term_49 ?_
        have hk_l0 := tk_ hts29.1 hk_l0
        show v_ l D cy ka cX15_term RX15 2 (some FieldType.int) "term" 8 172 (qm_ D cy σ0 z (fun r : Int32 => some (.int r)) w) σ0 z _ 52 [(0, va_rf (some l0))] [.int x28]
        refine v_if_eq (tgt := 65) hf dX15_term_52 (by decide) (fun hq hf => ?_) (fun hq hf => ?_)
        · refine v_sub [0] (L2 := [(0, va_rf (some l0))]) rfl ?_
          exact t_X15_term_b65  hf
        · refine v_goto (tgt := 75) dX15_term_55 (by decide) ?_
          refine v_sub [0] (L2 := [(0, va_rf (some l0))]) rfl ?_
          exact t_X15_term_b75  hf
    · refine v_sub [0] (L2 := [(0, va_rf (some l0))]) rfl ?_
      exact t_X15_term_b75  hf
  · refine v_sub [0] (L2 := [(0, va_rf (some l0))]) rfl ?_
    exact t_X15_term_b23  hf
/-- LivesAheadModel.term()I -/
def f_X15_term (σ : TH) (p0 : Nat) : Option ((Int32 ⊕ Nat) × TH) :=
  gt_ (kd_ σ p0 = 17) <| lt_ (fi_ σ 1633 p0) fun x1 => if x1 = (3 : Int32) then (f_X15_term_b16 σ p0) else (lt_ (fi_ σ 1633 p0) fun x34 => if x34 = (2 : Int32) then (f_X15_term_b16 σ p0) else (f_X15_term_b23 σ p0))
set_option maxHeartbeats 4000000 in
set_option maxRecDepth 100000 in
theorem c_X15_term {l : Launch} {D : va_G} {cy : Nat → ClassId} {ka : Nat → Nat} {σ z : TH} {p0 : Nat} {w : (Int32 ⊕ Nat)} (hf : f_X15_term σ p0 = some (w, z)) : cm_ l D cy ka yX15_term 8 172 [va_rf (some p0)] σ (fun r : Int32 => some (.int r)) w z := by
  unfold f_X15_term at hf
  refine m_start (rf := (fun r : Int32 => some (.int r))) (w := w) (cc := cX15_term) (own := RX15) (maxL := 2) (ret := (some FieldType.int)) (nm := "term") (by decide +kernel) kw_1927 rfl rfl (by simp [lg_sl, va_rf_cat, cat_i, cat_l]) ?_
  refine v_eqL (L2 := [(0, va_rf (some p0))]) (by simp [lv_args, va_rf_cat, cat_i, cat_l]) ?_
  refine v_aload_n (x := (some p0)) dX15_term_0 rfl 0 rfl ?_
  obtain ⟨hk_p0, hf⟩ := gt_of hf
  refine v_geti cb_16 hk_p0 33 1633 rfl (by decide) rfl (lk_n kw_1490 rfl) hf dX15_term_1 (fun x1 hf => ?_)
  refine v_iconst (v := 3) dX15_term_4 (by decide) ?_
  refine v_icmp_eq (tgt := 16) hf dX15_term_5 (by decide) (fun hq hf => ?_) (fun hq hf => ?_)
  · refine v_sub [0] (L2 := [(0, va_rf (some p0))]) rfl ?_
    exact t_X15_term_b16  hf
  · refine v_aload_n (x := (some p0)) dX15_term_8 rfl 0 rfl ?_
    refine v_geti cb_16 hk_p0 33 1633 rfl (by decide) rfl (lk_n kw_1490 rfl) hf dX15_term_9 (fun x34 hf => ?_)
    refine v_iconst (v := 2) dX15_term_12 (by decide) ?_
    refine v_icmp_ne (tgt := 23) hf dX15_term_13 (by decide) (fun hq hf => ?_) (fun hq hf => ?_)
    · refine v_sub [0] (L2 := [(0, va_rf (some p0))]) rfl ?_
      exact t_X15_term_b16  hf
    · refine v_sub [0] (L2 := [(0, va_rf (some p0))]) rfl ?_
      exact t_X15_term_b23  hf
theorem dX15_sum_0 : decode cX15_sum 0 = .ok (.aload_n 0, 1) := by decide +kernel
theorem dX15_sum_1 : decode cX15_sum 1 = .ok (.invokevirtual 413, 3) := by decide +kernel
theorem dX15_sum_4 : decode cX15_sum 4 = .ok (.istore_n 1, 1) := by decide +kernel
theorem dX15_sum_5 : decode cX15_sum 5 = .ok (.aload_n 0, 1) := by decide +kernel
theorem dX15_sum_6 : decode cX15_sum 6 = .ok (.bipush 43, 2) := by decide +kernel
theorem dX15_sum_8 : decode cX15_sum 8 = .ok (.invokevirtual 364, 3) := by decide +kernel
theorem dX15_sum_11 : decode cX15_sum 11 = .ok (.ifCond .ne 12, 3) := by decide +kernel
theorem dX15_sum_14 : decode cX15_sum 14 = .ok (.aload_n 0, 1) := by decide +kernel
theorem dX15_sum_15 : decode cX15_sum 15 = .ok (.bipush 45, 2) := by decide +kernel
theorem dX15_sum_17 : decode cX15_sum 17 = .ok (.invokevirtual 364, 3) := by decide +kernel
theorem dX15_sum_20 : decode cX15_sum 20 = .ok (.ifCond .eq 34, 3) := by decide +kernel
theorem dX15_sum_23 : decode cX15_sum 23 = .ok (.aload_n 0, 1) := by decide +kernel
theorem dX15_sum_24 : decode cX15_sum 24 = .ok (.bipush 43, 2) := by decide +kernel
theorem dX15_sum_26 : decode cX15_sum 26 = .ok (.invokevirtual 364, 3) := by decide +kernel
theorem dX15_sum_29 : decode cX15_sum 29 = .ok (.ifCond .eq 7, 3) := by decide +kernel
theorem dX15_sum_32 : decode cX15_sum 32 = .ok (.iconst 1, 1) := by decide +kernel
theorem dX15_sum_33 : decode cX15_sum 33 = .ok (.goto 4, 3) := by decide +kernel
theorem dX15_sum_36 : decode cX15_sum 36 = .ok (.iconst (-1), 1) := by decide +kernel
theorem dX15_sum_37 : decode cX15_sum 37 = .ok (.istore_n 2, 1) := by decide +kernel
theorem dX15_sum_38 : decode cX15_sum 38 = .ok (.aload_n 0, 1) := by decide +kernel
theorem dX15_sum_39 : decode cX15_sum 39 = .ok (.invokevirtual 352, 3) := by decide +kernel
theorem dX15_sum_42 : decode cX15_sum 42 = .ok (.iload_n 1, 1) := by decide +kernel
theorem dX15_sum_43 : decode cX15_sum 43 = .ok (.iload_n 2, 1) := by decide +kernel
theorem dX15_sum_44 : decode cX15_sum 44 = .ok (.aload_n 0, 1) := by decide +kernel
theorem dX15_sum_45 : decode cX15_sum 45 = .ok (.invokevirtual 413, 3) := by decide +kernel
theorem dX15_sum_48 : decode cX15_sum 48 = .ok (.imul, 1) := by decide +kernel
theorem dX15_sum_49 : decode cX15_sum 49 = .ok (.iadd, 1) := by decide +kernel
theorem dX15_sum_50 : decode cX15_sum 50 = .ok (.istore_n 1, 1) := by decide +kernel
theorem dX15_sum_51 : decode cX15_sum 51 = .ok (.goto (-46), 3) := by decide +kernel
theorem dX15_sum_54 : decode cX15_sum 54 = .ok (.iload_n 1, 1) := by decide +kernel
theorem dX15_sum_55 : decode cX15_sum 55 = .ok (.ireturn, 1) := by decide +kernel
def f_X15_sum_b37 (rec_5 : TH → Nat → Int32 → Option ((Int32 ⊕ Nat) × TH)) (σ : TH) (l0 : Nat) (l1 : Int32) (t0 : Int32) : Option ((Int32 ⊕ Nat) × TH) :=
  gt_ (kd_ σ l0 = 17) <| bd_ (f_X15_next σ l0) fun x9 s10 => bx_ (f_X15_term s10 l0) fun x11 s12 => lt_ (l1 + (t0 * x11)) fun x13 => rec_5 s12 l0 x13
set_option maxHeartbeats 4000000 in
set_option maxRecDepth 100000 in
theorem t_X15_sum_b37 {l : Launch} {D : va_G} {cy : Nat → ClassId} {ka : Nat → Nat} {σ0 z : TH} {w : (Int32 ⊕ Nat)} {rec_5 : TH → Nat → Int32 → Option ((Int32 ⊕ Nat) × TH)} (hrec_5 : ∀ (σ : TH) (l0 : Nat) (l1 : Int32), rec_5 σ l0 l1 = some (w, z) → v_ l D cy ka cX15_sum RX15 3 (some FieldType.int) "sum" 9 193 (qm_ D cy σ0 z (fun r : Int32 => some (.int r)) w) σ0 z σ 5 [(0, va_rf (some l0)), (1, .int l1)] []) {σ : TH} {l0 : Nat} {l1 : Int32} {t0 : Int32} (hf : f_X15_sum_b37 rec_5 σ l0 l1 t0 = some (w, z)) : v_ l D cy ka cX15_sum RX15 3 (some FieldType.int) "sum" 9 193 (qm_ D cy σ0 z (fun r : Int32 => some (.int r)) w) σ0 z σ 37 [(0, va_rf (some l0)), (1, .int l1)] [.int t0] := by
  unfold f_X15_sum_b37 at hf
  refine v_istore_n [(2, .int t0), (0, va_rf (some l0)), (1, .int l1)] dX15_sum_37 rfl (by decide) rfl ?_
  refine v_aload_n (x := (some l0)) dX15_sum_38 rfl 1 rfl ?_
  obtain ⟨hk_l0, hf⟩ := gt_of hf
  obtain ⟨x9, s10, hcs10, hf⟩ := bd_of hf
  have hts10 := c_X15_next (l := l) (D := D) (cy := cy) (ka := ka) hcs10
  refine v_callV cb_16 hk_l0 (As := []) (rest := []) hts10 yb_X15_next kw_1896 kw_1898 kp_101 rfl ⟨Nat.le_of_ble_eq_true rfl, Nat.le_of_ble_eq_true rfl⟩ rfl (cat_len (Nat.le_of_ble_eq_true rfl)) dX15_sum_39 ?_
  have hk_l0 := tk_ hts10.1 hk_l0
  show v_ l D cy ka cX15_sum RX15 3 (some FieldType.int) "sum" 9 193 (qm_ D cy σ0 z (fun r : Int32 => some (.int r)) w) σ0 z _ 42 [(2, .int t0), (0, va_rf (some l0)), (1, .int l1)] []
  refine v_iload_n (x := l1) dX15_sum_42 rfl 2 rfl ?_
  refine v_iload_n (x := t0) dX15_sum_43 rfl 0 rfl ?_
  refine v_aload_n (x := (some l0)) dX15_sum_44 rfl 1 rfl ?_
  rcases bx_of hf with ⟨x11, s12, hcs12, hf⟩ | ⟨q9, s9, hc9, hf⟩
  rotate_left
  · have ht9 := c_X15_term (l := l) (D := D) (cy := cy) (ka := ka) hc9
    exact v_callVX cb_16 hk_l0 (As := []) (rest := [.int t0, .int l1]) ht9 yb_X15_term kw_1924 kw_1926 kp_104 rfl ⟨Nat.le_of_ble_eq_true rfl, Nat.le_of_ble_eq_true rfl⟩ rfl (cat_len (Nat.le_of_ble_eq_true rfl)) (by decide +kernel) hf dX15_sum_45
  have hts12 := c_X15_term (l := l) (D := D) (cy := cy) (ka := ka) hcs12
  refine v_callV cb_16 hk_l0 (As := []) (rest := [.int t0, .int l1]) hts12 yb_X15_term kw_1924 kw_1926 kp_104 rfl ⟨Nat.le_of_ble_eq_true rfl, Nat.le_of_ble_eq_true rfl⟩ rfl (cat_len (Nat.le_of_ble_eq_true rfl)) dX15_sum_45 ?_
  have hk_l0 := tk_ hts12.1 hk_l0
  show v_ l D cy ka cX15_sum RX15 3 (some FieldType.int) "sum" 9 193 (qm_ D cy σ0 z (fun r : Int32 => some (.int r)) w) σ0 z _ 48 [(2, .int t0), (0, va_rf (some l0)), (1, .int l1)] [.int x11, .int t0, .int l1]
  refine v_imul dX15_sum_48 ?_
  refine v_iadd dX15_sum_49 ?_
  obtain ⟨x13, ex13⟩ : ∃ y : Int32, y = l1 + (t0 * x11) := ⟨_, rfl⟩
  rw [lt_e, ← ex13] at hf
  rw [← ex13]
  refine v_istore_n [(1, .int x13), (2, .int t0), (0, va_rf (some l0))] dX15_sum_50 rfl (by decide) rfl ?_
  refine v_goto (tgt := 5) dX15_sum_51 (by decide) ?_
  refine v_sub [2, 0] (L2 := [(0, va_rf (some l0)), (1, .int x13)]) rfl ?_
  exact hrec_5 _ _ _ hf
def f_X15_sum_b23 (rec_5 : TH → Nat → Int32 → Option ((Int32 ⊕ Nat) × TH)) (σ : TH) (l0 : Nat) (l1 : Int32) : Option ((Int32 ⊕ Nat) × TH) :=
  gt_ (kd_ σ l0 = 17) <| bd_ (f_X15_is σ l0 (43 : Int32)) fun x7 s8 => if x7 = 0 then (f_X15_sum_b37 rec_5 s8 l0 l1 (-1 : Int32)) else (f_X15_sum_b37 rec_5 s8 l0 l1 (1 : Int32))
set_option maxHeartbeats 4000000 in
set_option maxRecDepth 100000 in
theorem t_X15_sum_b23 {l : Launch} {D : va_G} {cy : Nat → ClassId} {ka : Nat → Nat} {σ0 z : TH} {w : (Int32 ⊕ Nat)} {rec_5 : TH → Nat → Int32 → Option ((Int32 ⊕ Nat) × TH)} (hrec_5 : ∀ (σ : TH) (l0 : Nat) (l1 : Int32), rec_5 σ l0 l1 = some (w, z) → v_ l D cy ka cX15_sum RX15 3 (some FieldType.int) "sum" 9 193 (qm_ D cy σ0 z (fun r : Int32 => some (.int r)) w) σ0 z σ 5 [(0, va_rf (some l0)), (1, .int l1)] []) {σ : TH} {l0 : Nat} {l1 : Int32} (hf : f_X15_sum_b23 rec_5 σ l0 l1 = some (w, z)) : v_ l D cy ka cX15_sum RX15 3 (some FieldType.int) "sum" 9 193 (qm_ D cy σ0 z (fun r : Int32 => some (.int r)) w) σ0 z σ 23 [(0, va_rf (some l0)), (1, .int l1)] [] := by
  unfold f_X15_sum_b23 at hf
  refine v_aload_n (x := (some l0)) dX15_sum_23 rfl 0 rfl ?_
  refine v_bipush (v := 43) dX15_sum_24 (by decide) ?_
  obtain ⟨hk_l0, hf⟩ := gt_of hf
  obtain ⟨x7, s8, hcs8, hf⟩ := bd_of hf
  have hts8 := c_X15_is (l := l) (D := D) (cy := cy) (ka := ka) hcs8
  refine v_callV cb_16 hk_l0 (As := [.int (43 : Int32)]) (rest := []) hts8 yb_X15_is kw_1998 kw_2000 kp_118 rfl ⟨Nat.le_of_ble_eq_true rfl, Nat.le_of_ble_eq_true rfl⟩ rfl (cat_len (Nat.le_of_ble_eq_true rfl)) dX15_sum_26 ?_
  have hk_l0 := tk_ hts8.1 hk_l0
  show v_ l D cy ka cX15_sum RX15 3 (some FieldType.int) "sum" 9 193 (qm_ D cy σ0 z (fun r : Int32 => some (.int r)) w) σ0 z _ 29 [(0, va_rf (some l0)), (1, .int l1)] [.int x7]
  refine v_if_eq (tgt := 36) hf dX15_sum_29 (by decide) (fun hq hf => ?_) (fun hq hf => ?_)
  · refine v_iconst (v := (-1)) dX15_sum_36 (by decide) ?_
    refine v_sub [0, 1] (L2 := [(0, va_rf (some l0)), (1, .int l1)]) rfl ?_
    exact t_X15_sum_b37 hrec_5 hf
  · refine v_iconst (v := 1) dX15_sum_32 (by decide) ?_
    refine v_goto (tgt := 37) dX15_sum_33 (by decide) ?_
    refine v_sub [0, 1] (L2 := [(0, va_rf (some l0)), (1, .int l1)]) rfl ?_
    exact t_X15_sum_b37 hrec_5 hf
def f_X15_sum_b5 : Nat → TH → Nat → Int32 → Option ((Int32 ⊕ Nat) × TH)
  | 0, _, _, _ => none
  | n + 1, σ, l0, l1 => gt_ (kd_ σ l0 = 17) <| bd_ (f_X15_is σ l0 (43 : Int32)) fun x3 s4 => if x3 = 0 then (bd_ (f_X15_is s4 l0 (45 : Int32)) fun x5 s6 => if x5 = 0 then (some (.inl (l1), s6)) else (f_X15_sum_b23 (f_X15_sum_b5 n) s6 l0 l1)) else (f_X15_sum_b23 (f_X15_sum_b5 n) s4 l0 l1)
set_option maxHeartbeats 4000000 in
set_option maxRecDepth 100000 in
theorem t_X15_sum_b5 {l : Launch} {D : va_G} {cy : Nat → ClassId} {ka : Nat → Nat} {σ0 z : TH} {w : (Int32 ⊕ Nat)}  : ∀ (n : Nat) (σ : TH) (l0 : Nat) (l1 : Int32), f_X15_sum_b5 n σ l0 l1 = some (w, z) → v_ l D cy ka cX15_sum RX15 3 (some FieldType.int) "sum" 9 193 (qm_ D cy σ0 z (fun r : Int32 => some (.int r)) w) σ0 z σ 5 [(0, va_rf (some l0)), (1, .int l1)] [] := by
  intro n
  induction n with
  | zero => intro σ l0 l1 hf; unfold f_X15_sum_b5 at hf; cases hf
  | succ n ih =>
    intro σ l0 l1 hf
    unfold f_X15_sum_b5 at hf
    have hrec_5 := ih
    refine v_aload_n (x := (some l0)) dX15_sum_5 rfl 0 rfl ?_
    refine v_bipush (v := 43) dX15_sum_6 (by decide) ?_
    obtain ⟨hk_l0, hf⟩ := gt_of hf
    obtain ⟨x3, s4, hcs4, hf⟩ := bd_of hf
    have hts4 := c_X15_is (l := l) (D := D) (cy := cy) (ka := ka) hcs4
    refine v_callV cb_16 hk_l0 (As := [.int (43 : Int32)]) (rest := []) hts4 yb_X15_is kw_1998 kw_2000 kp_118 rfl ⟨Nat.le_of_ble_eq_true rfl, Nat.le_of_ble_eq_true rfl⟩ rfl (cat_len (Nat.le_of_ble_eq_true rfl)) dX15_sum_8 ?_
    have hk_l0 := tk_ hts4.1 hk_l0
    show v_ l D cy ka cX15_sum RX15 3 (some FieldType.int) "sum" 9 193 (qm_ D cy σ0 z (fun r : Int32 => some (.int r)) w) σ0 z _ 11 [(0, va_rf (some l0)), (1, .int l1)] [.int x3]
    refine v_if_ne (tgt := 23) hf dX15_sum_11 (by decide) (fun hq hf => ?_) (fun hq hf => ?_)
    · refine v_aload_n (x := (some l0)) dX15_sum_14 rfl 0 rfl ?_
      refine v_bipush (v := 45) dX15_sum_15 (by decide) ?_
      obtain ⟨x5, s6, hcs6, hf⟩ := bd_of hf
      have hts6 := c_X15_is (l := l) (D := D) (cy := cy) (ka := ka) hcs6
      refine v_callV cb_16 hk_l0 (As := [.int (45 : Int32)]) (rest := []) hts6 yb_X15_is kw_1998 kw_2000 kp_118 rfl ⟨Nat.le_of_ble_eq_true rfl, Nat.le_of_ble_eq_true rfl⟩ rfl (cat_len (Nat.le_of_ble_eq_true rfl)) dX15_sum_17 ?_
      have hk_l0 := tk_ hts6.1 hk_l0
      show v_ l D cy ka cX15_sum RX15 3 (some FieldType.int) "sum" 9 193 (qm_ D cy σ0 z (fun r : Int32 => some (.int r)) w) σ0 z _ 20 [(0, va_rf (some l0)), (1, .int l1)] [.int x5]
      refine v_if_eq (tgt := 54) hf dX15_sum_20 (by decide) (fun hq hf => ?_) (fun hq hf => ?_)
      · refine v_iload_n (x := l1) dX15_sum_54 rfl 1 rfl ?_
        exact v_iretM hf dX15_sum_55
      · refine v_sub [0, 1] (L2 := [(0, va_rf (some l0)), (1, .int l1)]) rfl ?_
        exact t_X15_sum_b23 hrec_5 hf
    · refine v_sub [0, 1] (L2 := [(0, va_rf (some l0)), (1, .int l1)]) rfl ?_
      exact t_X15_sum_b23 hrec_5 hf
/-- LivesAheadModel.sum()I -/
def f_X15_sum (σ : TH) (p0 : Nat) : Option ((Int32 ⊕ Nat) × TH) :=
  gt_ (kd_ σ p0 = 17) <| bx_ (f_X15_term σ p0) fun x1 s2 => f_X15_sum_b5 fu_ s2 p0 x1
set_option maxHeartbeats 4000000 in
set_option maxRecDepth 100000 in
theorem c_X15_sum {l : Launch} {D : va_G} {cy : Nat → ClassId} {ka : Nat → Nat} {σ z : TH} {p0 : Nat} {w : (Int32 ⊕ Nat)} (hf : f_X15_sum σ p0 = some (w, z)) : cm_ l D cy ka yX15_sum 9 193 [va_rf (some p0)] σ (fun r : Int32 => some (.int r)) w z := by
  unfold f_X15_sum at hf
  refine m_start (rf := (fun r : Int32 => some (.int r))) (w := w) (cc := cX15_sum) (own := RX15) (maxL := 3) (ret := (some FieldType.int)) (nm := "sum") (by decide +kernel) kw_1923 rfl rfl (by simp [lg_sl, va_rf_cat, cat_i, cat_l]) ?_
  refine v_eqL (L2 := [(0, va_rf (some p0))]) (by simp [lv_args, va_rf_cat, cat_i, cat_l]) ?_
  refine v_aload_n (x := (some p0)) dX15_sum_0 rfl 0 rfl ?_
  obtain ⟨hk_p0, hf⟩ := gt_of hf
  rcases bx_of hf with ⟨x1, s2, hcs2, hf⟩ | ⟨q9, s9, hc9, hf⟩
  rotate_left
  · have ht9 := c_X15_term (l := l) (D := D) (cy := cy) (ka := ka) hc9
    exact v_callVX cb_16 hk_p0 (As := []) (rest := []) ht9 yb_X15_term kw_1924 kw_1926 kp_104 rfl ⟨Nat.le_of_ble_eq_true rfl, Nat.le_of_ble_eq_true rfl⟩ rfl (cat_len (Nat.le_of_ble_eq_true rfl)) (by decide +kernel) hf dX15_sum_1
  have hts2 := c_X15_term (l := l) (D := D) (cy := cy) (ka := ka) hcs2
  refine v_callV cb_16 hk_p0 (As := []) (rest := []) hts2 yb_X15_term kw_1924 kw_1926 kp_104 rfl ⟨Nat.le_of_ble_eq_true rfl, Nat.le_of_ble_eq_true rfl⟩ rfl (cat_len (Nat.le_of_ble_eq_true rfl)) dX15_sum_1 ?_
  have hk_p0 := tk_ hts2.1 hk_p0
  show v_ l D cy ka cX15_sum RX15 3 (some FieldType.int) "sum" 9 193 (qm_ D cy σ z (fun r : Int32 => some (.int r)) w) σ z _ 4 [(0, va_rf (some p0))] [.int x1]
  refine v_istore_n [(1, .int x1), (0, va_rf (some p0))] dX15_sum_4 rfl (by decide) rfl ?_
  refine v_sub [1, 0] (L2 := [(0, va_rf (some p0)), (1, .int x1)]) rfl ?_
  exact t_X15_sum_b5  _ _ _ _ hf
theorem dX15_bare_0 : decode cX15_bare 0 = .ok (.aload_n 0, 1) := by decide +kernel
theorem dX15_bare_1 : decode cX15_bare 1 = .ok (.getfield 388, 3) := by decide +kernel
theorem dX15_bare_4 : decode cX15_bare 4 = .ok (.ifCond .ne 17, 3) := by decide +kernel
theorem dX15_bare_7 : decode cX15_bare 7 = .ok (.aload_n 0, 1) := by decide +kernel
theorem dX15_bare_8 : decode cX15_bare 8 = .ok (.ldc_w 392, 3) := by decide +kernel
theorem dX15_bare_11 : decode cX15_bare 11 = .ok (.invokevirtual 357, 3) := by decide +kernel
theorem dX15_bare_14 : decode cX15_bare 14 = .ok (.ifCond .eq 7, 3) := by decide +kernel
theorem dX15_bare_17 : decode cX15_bare 17 = .ok (.iconst 1, 1) := by decide +kernel
theorem dX15_bare_18 : decode cX15_bare 18 = .ok (.goto 4, 3) := by decide +kernel
theorem dX15_bare_21 : decode cX15_bare 21 = .ok (.iconst 0, 1) := by decide +kernel
theorem dX15_bare_22 : decode cX15_bare 22 = .ok (.istore_n 1, 1) := by decide +kernel
theorem dX15_bare_23 : decode cX15_bare 23 = .ok (.iload_n 1, 1) := by decide +kernel
theorem dX15_bare_24 : decode cX15_bare 24 = .ok (.ifCond .ne 20, 3) := by decide +kernel
theorem dX15_bare_27 : decode cX15_bare 27 = .ok (.aload_n 0, 1) := by decide +kernel
theorem dX15_bare_28 : decode cX15_bare 28 = .ok (.getfield 388, 3) := by decide +kernel
theorem dX15_bare_31 : decode cX15_bare 31 = .ok (.ifCond .ne 98, 3) := by decide +kernel
theorem dX15_bare_34 : decode cX15_bare 34 = .ok (.aload_n 0, 1) := by decide +kernel
theorem dX15_bare_35 : decode cX15_bare 35 = .ok (.ldc_w 394, 3) := by decide +kernel
theorem dX15_bare_38 : decode cX15_bare 38 = .ok (.invokevirtual 357, 3) := by decide +kernel
theorem dX15_bare_41 : decode cX15_bare 41 = .ok (.ifCond .eq 88, 3) := by decide +kernel
theorem dX15_bare_44 : decode cX15_bare 44 = .ok (.aload_n 0, 1) := by decide +kernel
theorem dX15_bare_45 : decode cX15_bare 45 = .ok (.invokevirtual 352, 3) := by decide +kernel
theorem dX15_bare_48 : decode cX15_bare 48 = .ok (.aload_n 0, 1) := by decide +kernel
theorem dX15_bare_49 : decode cX15_bare 49 = .ok (.invokevirtual 396, 3) := by decide +kernel
theorem dX15_bare_52 : decode cX15_bare 52 = .ok (.ifCond .ne 13, 3) := by decide +kernel
theorem dX15_bare_55 : decode cX15_bare 55 = .ok (.aload_n 0, 1) := by decide +kernel
theorem dX15_bare_56 : decode cX15_bare 56 = .ok (.iconst 1, 1) := by decide +kernel
theorem dX15_bare_57 : decode cX15_bare 57 = .ok (.aload_n 0, 1) := by decide +kernel
theorem dX15_bare_58 : decode cX15_bare 58 = .ok (.getfield 295, 3) := by decide +kernel
theorem dX15_bare_61 : decode cX15_bare 61 = .ok (.invokevirtual 342, 3) := by decide +kernel
theorem dX15_bare_64 : decode cX15_bare 64 = .ok (.athrow, 1) := by decide +kernel
theorem dX15_bare_65 : decode cX15_bare 65 = .ok (.aload_n 0, 1) := by decide +kernel
theorem dX15_bare_66 : decode cX15_bare 66 = .ok (.getfield 309, 3) := by decide +kernel
theorem dX15_bare_69 : decode cX15_bare 69 = .ok (.istore_n 2, 1) := by decide +kernel
theorem dX15_bare_70 : decode cX15_bare 70 = .ok (.aload_n 0, 1) := by decide +kernel
theorem dX15_bare_71 : decode cX15_bare 71 = .ok (.dup, 1) := by decide +kernel
theorem dX15_bare_72 : decode cX15_bare 72 = .ok (.getfield 399, 3) := by decide +kernel
theorem dX15_bare_75 : decode cX15_bare 75 = .ok (.iconst 1, 1) := by decide +kernel
theorem dX15_bare_76 : decode cX15_bare 76 = .ok (.iload_n 2, 1) := by decide +kernel
theorem dX15_bare_77 : decode cX15_bare 77 = .ok (.ishl, 1) := by decide +kernel
theorem dX15_bare_78 : decode cX15_bare 78 = .ok (.ior, 1) := by decide +kernel
theorem dX15_bare_79 : decode cX15_bare 79 = .ok (.putfield 399, 3) := by decide +kernel
theorem dX15_bare_82 : decode cX15_bare 82 = .ok (.aload_n 0, 1) := by decide +kernel
theorem dX15_bare_83 : decode cX15_bare 83 = .ok (.invokevirtual 352, 3) := by decide +kernel
theorem dX15_bare_86 : decode cX15_bare 86 = .ok (.iload_n 1, 1) := by decide +kernel
theorem dX15_bare_87 : decode cX15_bare 87 = .ok (.ifCond .eq 28, 3) := by decide +kernel
theorem dX15_bare_90 : decode cX15_bare 90 = .ok (.aload_n 0, 1) := by decide +kernel
theorem dX15_bare_91 : decode cX15_bare 91 = .ok (.aload_n 0, 1) := by decide +kernel
theorem dX15_bare_92 : decode cX15_bare 92 = .ok (.getfield 402, 3) := by decide +kernel
theorem dX15_bare_95 : decode cX15_bare 95 = .ok (.iload_n 2, 1) := by decide +kernel
theorem dX15_bare_96 : decode cX15_bare 96 = .ok (.aload_n 0, 1) := by decide +kernel
theorem dX15_bare_97 : decode cX15_bare 97 = .ok (.getfield 405, 3) := by decide +kernel
theorem dX15_bare_100 : decode cX15_bare 100 = .ok (.invokevirtual 408, 3) := by decide +kernel
theorem dX15_bare_103 : decode cX15_bare 103 = .ok (.iconst (-1), 1) := by decide +kernel
theorem dX15_bare_104 : decode cX15_bare 104 = .ok (.if_icmp .eq 7, 3) := by decide +kernel
theorem dX15_bare_107 : decode cX15_bare 107 = .ok (.iconst 1, 1) := by decide +kernel
theorem dX15_bare_108 : decode cX15_bare 108 = .ok (.goto 20, 3) := by decide +kernel
theorem dX15_bare_111 : decode cX15_bare 111 = .ok (.iconst 0, 1) := by decide +kernel
theorem dX15_bare_112 : decode cX15_bare 112 = .ok (.goto 16, 3) := by decide +kernel
theorem dX15_bare_115 : decode cX15_bare 115 = .ok (.aload_n 0, 1) := by decide +kernel
theorem dX15_bare_116 : decode cX15_bare 116 = .ok (.aload_n 0, 1) := by decide +kernel
theorem dX15_bare_117 : decode cX15_bare 117 = .ok (.getfield 402, 3) := by decide +kernel
theorem dX15_bare_120 : decode cX15_bare 120 = .ok (.iload_n 2, 1) := by decide +kernel
theorem dX15_bare_121 : decode cX15_bare 121 = .ok (.aload_n 0, 1) := by decide +kernel
theorem dX15_bare_122 : decode cX15_bare 122 = .ok (.getfield 405, 3) := by decide +kernel
theorem dX15_bare_125 : decode cX15_bare 125 = .ok (.invokevirtual 259, 3) := by decide +kernel
theorem dX15_bare_128 : decode cX15_bare 128 = .ok (.ireturn, 1) := by decide +kernel
theorem dX15_bare_129 : decode cX15_bare 129 = .ok (.aload_n 0, 1) := by decide +kernel
theorem dX15_bare_130 : decode cX15_bare 130 = .ok (.getfield 388, 3) := by decide +kernel
theorem dX15_bare_133 : decode cX15_bare 133 = .ok (.ifCond .ne 30, 3) := by decide +kernel
theorem dX15_bare_136 : decode cX15_bare 136 = .ok (.aload_n 0, 1) := by decide +kernel
theorem dX15_bare_137 : decode cX15_bare 137 = .ok (.ldc_w 411, 3) := by decide +kernel
theorem dX15_bare_140 : decode cX15_bare 140 = .ok (.invokevirtual 357, 3) := by decide +kernel
theorem dX15_bare_143 : decode cX15_bare 143 = .ok (.ifCond .eq 20, 3) := by decide +kernel
theorem dX15_bare_146 : decode cX15_bare 146 = .ok (.aload_n 0, 1) := by decide +kernel
theorem dX15_bare_147 : decode cX15_bare 147 = .ok (.invokevirtual 352, 3) := by decide +kernel
theorem dX15_bare_150 : decode cX15_bare 150 = .ok (.aload_n 0, 1) := by decide +kernel
theorem dX15_bare_151 : decode cX15_bare 151 = .ok (.aload_n 0, 1) := by decide +kernel
theorem dX15_bare_152 : decode cX15_bare 152 = .ok (.getfield 402, 3) := by decide +kernel
theorem dX15_bare_155 : decode cX15_bare 155 = .ok (.aload_n 0, 1) := by decide +kernel
theorem dX15_bare_156 : decode cX15_bare 156 = .ok (.getfield 405, 3) := by decide +kernel
theorem dX15_bare_159 : decode cX15_bare 159 = .ok (.invokevirtual 223, 3) := by decide +kernel
theorem dX15_bare_162 : decode cX15_bare 162 = .ok (.ireturn, 1) := by decide +kernel
theorem dX15_bare_163 : decode cX15_bare 163 = .ok (.aload_n 0, 1) := by decide +kernel
theorem dX15_bare_164 : decode cX15_bare 164 = .ok (.invokevirtual 361, 3) := by decide +kernel
theorem dX15_bare_167 : decode cX15_bare 167 = .ok (.istore_n 2, 1) := by decide +kernel
theorem dX15_bare_168 : decode cX15_bare 168 = .ok (.aload_n 0, 1) := by decide +kernel
theorem dX15_bare_169 : decode cX15_bare 169 = .ok (.bipush 60, 2) := by decide +kernel
theorem dX15_bare_171 : decode cX15_bare 171 = .ok (.invokevirtual 364, 3) := by decide +kernel
theorem dX15_bare_174 : decode cX15_bare 174 = .ok (.ifCond .eq 7, 3) := by decide +kernel
theorem dX15_bare_177 : decode cX15_bare 177 = .ok (.iconst 0, 1) := by decide +kernel
theorem dX15_bare_178 : decode cX15_bare 178 = .ok (.goto 30, 3) := by decide +kernel
theorem dX15_bare_181 : decode cX15_bare 181 = .ok (.aload_n 0, 1) := by decide +kernel
theorem dX15_bare_182 : decode cX15_bare 182 = .ok (.bipush 61, 2) := by decide +kernel
theorem dX15_bare_184 : decode cX15_bare 184 = .ok (.invokevirtual 364, 3) := by decide +kernel
theorem dX15_bare_187 : decode cX15_bare 187 = .ok (.ifCond .eq 7, 3) := by decide +kernel
theorem dX15_bare_190 : decode cX15_bare 190 = .ok (.iconst 1, 1) := by decide +kernel
theorem dX15_bare_191 : decode cX15_bare 191 = .ok (.goto 17, 3) := by decide +kernel
theorem dX15_bare_194 : decode cX15_bare 194 = .ok (.aload_n 0, 1) := by decide +kernel
theorem dX15_bare_195 : decode cX15_bare 195 = .ok (.bipush 62, 2) := by decide +kernel
theorem dX15_bare_197 : decode cX15_bare 197 = .ok (.invokevirtual 364, 3) := by decide +kernel
theorem dX15_bare_200 : decode cX15_bare 200 = .ok (.ifCond .eq 7, 3) := by decide +kernel
theorem dX15_bare_203 : decode cX15_bare 203 = .ok (.iconst 2, 1) := by decide +kernel
theorem dX15_bare_204 : decode cX15_bare 204 = .ok (.goto 4, 3) := by decide +kernel
theorem dX15_bare_207 : decode cX15_bare 207 = .ok (.iconst (-1), 1) := by decide +kernel
theorem dX15_bare_208 : decode cX15_bare 208 = .ok (.istore_n 3, 1) := by decide +kernel
theorem dX15_bare_209 : decode cX15_bare 209 = .ok (.iload_n 3, 1) := by decide +kernel
theorem dX15_bare_210 : decode cX15_bare 210 = .ok (.iconst (-1), 1) := by decide +kernel
theorem dX15_bare_211 : decode cX15_bare 211 = .ok (.if_icmp .ne 13, 3) := by decide +kernel
theorem dX15_bare_214 : decode cX15_bare 214 = .ok (.aload_n 0, 1) := by decide +kernel
theorem dX15_bare_215 : decode cX15_bare 215 = .ok (.iconst 1, 1) := by decide +kernel
theorem dX15_bare_216 : decode cX15_bare 216 = .ok (.aload_n 0, 1) := by decide +kernel
theorem dX15_bare_217 : decode cX15_bare 217 = .ok (.getfield 295, 3) := by decide +kernel
theorem dX15_bare_220 : decode cX15_bare 220 = .ok (.invokevirtual 342, 3) := by decide +kernel
theorem dX15_bare_223 : decode cX15_bare 223 = .ok (.athrow, 1) := by decide +kernel
theorem dX15_bare_224 : decode cX15_bare 224 = .ok (.aload_n 0, 1) := by decide +kernel
theorem dX15_bare_225 : decode cX15_bare 225 = .ok (.invokevirtual 352, 3) := by decide +kernel
theorem dX15_bare_228 : decode cX15_bare 228 = .ok (.aload_n 0, 1) := by decide +kernel
theorem dX15_bare_229 : decode cX15_bare 229 = .ok (.invokevirtual 361, 3) := by decide +kernel
theorem dX15_bare_232 : decode cX15_bare 232 = .ok (.istore 4, 2) := by decide +kernel
theorem dX15_bare_234 : decode cX15_bare 234 = .ok (.iload_n 3, 1) := by decide +kernel
theorem dX15_bare_235 : decode cX15_bare 235 = .ok (.ifCond .ne 17, 3) := by decide +kernel
theorem dX15_bare_238 : decode cX15_bare 238 = .ok (.iload_n 2, 1) := by decide +kernel
theorem dX15_bare_239 : decode cX15_bare 239 = .ok (.iload 4, 2) := by decide +kernel
theorem dX15_bare_241 : decode cX15_bare 241 = .ok (.if_icmp .ge 7, 3) := by decide +kernel
theorem dX15_bare_244 : decode cX15_bare 244 = .ok (.iconst 1, 1) := by decide +kernel
theorem dX15_bare_245 : decode cX15_bare 245 = .ok (.goto 37, 3) := by decide +kernel
theorem dX15_bare_248 : decode cX15_bare 248 = .ok (.iconst 0, 1) := by decide +kernel
theorem dX15_bare_249 : decode cX15_bare 249 = .ok (.goto 33, 3) := by decide +kernel
theorem dX15_bare_252 : decode cX15_bare 252 = .ok (.iload_n 3, 1) := by decide +kernel
theorem dX15_bare_253 : decode cX15_bare 253 = .ok (.iconst 1, 1) := by decide +kernel
theorem dX15_bare_254 : decode cX15_bare 254 = .ok (.if_icmp .ne 17, 3) := by decide +kernel
theorem dX15_bare_257 : decode cX15_bare 257 = .ok (.iload_n 2, 1) := by decide +kernel
theorem dX15_bare_258 : decode cX15_bare 258 = .ok (.iload 4, 2) := by decide +kernel
theorem dX15_bare_260 : decode cX15_bare 260 = .ok (.if_icmp .ne 7, 3) := by decide +kernel
theorem dX15_bare_263 : decode cX15_bare 263 = .ok (.iconst 1, 1) := by decide +kernel
theorem dX15_bare_264 : decode cX15_bare 264 = .ok (.goto 18, 3) := by decide +kernel
theorem dX15_bare_267 : decode cX15_bare 267 = .ok (.iconst 0, 1) := by decide +kernel
theorem dX15_bare_268 : decode cX15_bare 268 = .ok (.goto 14, 3) := by decide +kernel
theorem dX15_bare_271 : decode cX15_bare 271 = .ok (.iload_n 2, 1) := by decide +kernel
theorem dX15_bare_272 : decode cX15_bare 272 = .ok (.iload 4, 2) := by decide +kernel
theorem dX15_bare_274 : decode cX15_bare 274 = .ok (.if_icmp .le 7, 3) := by decide +kernel
theorem dX15_bare_277 : decode cX15_bare 277 = .ok (.iconst 1, 1) := by decide +kernel
theorem dX15_bare_278 : decode cX15_bare 278 = .ok (.goto 4, 3) := by decide +kernel
theorem dX15_bare_281 : decode cX15_bare 281 = .ok (.iconst 0, 1) := by decide +kernel
theorem dX15_bare_282 : decode cX15_bare 282 = .ok (.ireturn, 1) := by decide +kernel
def f_X15_bare_b282 (σ : TH) (t0 : Int32) : Option ((Int32 ⊕ Nat) × TH) :=
  gt_ (t0 = 0 ∨ t0 = 1) <| some (.inl (t0), σ)
set_option maxHeartbeats 4000000 in
set_option maxRecDepth 100000 in
theorem t_X15_bare_b282 {l : Launch} {D : va_G} {cy : Nat → ClassId} {ka : Nat → Nat} {σ0 z : TH} {w : (Int32 ⊕ Nat)}  {σ : TH} {t0 : Int32} (hf : f_X15_bare_b282 σ t0 = some (w, z)) : v_ l D cy ka cX15_bare RX15 5 (some FieldType.boolean) "bare" 10 215 (qm_ D cy σ0 z (fun r : Int32 => some (.int r)) w) σ0 z σ 282 [] [.int t0] := by
  unfold f_X15_bare_b282 at hf
  obtain ⟨hb9, hf⟩ := gt_of hf
  exact v_zretM hf (nz_ hb9) dX15_bare_282
def f_X15_bare_b208 (σ : TH) (l0 : Nat) (l2 : Int32) (t0 : Int32) : Option ((Int32 ⊕ Nat) × TH) :=
  if t0 = (-1 : Int32) then (gt_ (kd_ σ l0 = 17) <| lt_ (fi_ σ 1634 l0) fun x18 => bd_ (f_X15_stop σ l0 (1 : Int32) x18) fun r19 s20 => nn_ r19 fun a21 => gt_ (kd_ s20 a21 = 16) <| some (.inr a21, s20)) else (gt_ (kd_ σ l0 = 17) <| bd_ (f_X15_next σ l0) fun x22 s23 => bx_ (f_X15_sum s23 l0) fun x24 s25 => if t0 = 0 then (if x24 ≤ l2 then (f_X15_bare_b282 s25 (0 : Int32)) else (f_X15_bare_b282 s25 (1 : Int32))) else (if t0 = (1 : Int32) then (if l2 = x24 then (f_X15_bare_b282 s25 (1 : Int32)) else (f_X15_bare_b282 s25 (0 : Int32))) else (if l2 ≤ x24 then (f_X15_bare_b282 s25 (0 : Int32)) else (f_X15_bare_b282 s25 (1 : Int32)))))
set_option maxHeartbeats 4000000 in
set_option maxRecDepth 100000 in
theorem t_X15_bare_b208 {l : Launch} {D : va_G} {cy : Nat → ClassId} {ka : Nat → Nat} {σ0 z : TH} {w : (Int32 ⊕ Nat)}  {σ : TH} {l0 : Nat} {l2 : Int32} {t0 : Int32} (hf : f_X15_bare_b208 σ l0 l2 t0 = some (w, z)) : v_ l D cy ka cX15_bare RX15 5 (some FieldType.boolean) "bare" 10 215 (qm_ D cy σ0 z (fun r : Int32 => some (.int r)) w) σ0 z σ 208 [(0, va_rf (some l0)), (2, .int l2)] [.int t0] := by
  unfold f_X15_bare_b208 at hf
  refine v_istore_n [(3, .int t0), (0, va_rf (some l0)), (2, .int l2)] dX15_bare_208 rfl (by decide) rfl ?_
  refine v_iload_n (x := t0) dX15_bare_209 rfl 0 rfl ?_
  refine v_iconst (v := (-1)) dX15_bare_210 (by decide) ?_
  refine v_icmp_ne (tgt := 224) hf dX15_bare_211 (by decide) (fun hq hf => ?_) (fun hq hf => ?_)
  · refine v_aload_n (x := (some l0)) dX15_bare_214 rfl 1 rfl ?_
    refine v_iconst (v := 1) dX15_bare_215 (by decide) ?_
    refine v_aload_n (x := (some l0)) dX15_bare_216 rfl 1 rfl ?_
    obtain ⟨hk_l0, hf⟩ := gt_of hf
    refine v_geti cb_16 hk_l0 34 1634 rfl (by decide) rfl (lk_n kw_1491 rfl) hf dX15_bare_217 (fun x18 hf => ?_)
    obtain ⟨r19, s20, hcs20, hf⟩ := bd_of hf
    have hts20 := c_X15_stop (l := l) (D := D) (cy := cy) (ka := ka) hcs20
    refine v_callV cb_16 hk_l0 (As := [.int (1 : Int32), .int x18]) (rest := []) hts20 yb_X15_stop kw_1888 kw_1890 kp_99 rfl ⟨Nat.le_of_ble_eq_true rfl, Nat.le_of_ble_eq_true rfl⟩ rfl (cat_len (Nat.le_of_ble_eq_true rfl)) dX15_bare_220 ?_
    have hk_l0 := tk_ hts20.1 hk_l0
    show v_ l D cy ka cX15_bare RX15 5 (some FieldType.boolean) "bare" 10 215 (qm_ D cy σ0 z (fun r : Int32 => some (.int r)) w) σ0 z _ 223 [(3, .int t0), (0, va_rf (some l0)), (2, .int l2)] [va_rf r19]
    obtain ⟨a21, rfl, hf⟩ := nn_of hf
    obtain ⟨hk_a21, hf⟩ := gt_of hf
    exact v_athrow hk_a21 (by decide +kernel) hf dX15_bare_223
  · refine v_aload_n (x := (some l0)) dX15_bare_224 rfl 1 rfl ?_
    obtain ⟨hk_l0, hf⟩ := gt_of hf
    obtain ⟨x22, s23, hcs23, hf⟩ := bd_of hf
    have hts23 := c_X15_next (l := l) (D := D) (cy := cy) (ka := ka) hcs23
    refine v_callV cb_16 hk_l0 (As := []) (rest := []) hts23 yb_X15_next kw_1896 kw_1898 kp_101 rfl ⟨Nat.le_of_ble_eq_true rfl, Nat.le_of_ble_eq_true rfl⟩ rfl (cat_len (Nat.le_of_ble_eq_true rfl)) dX15_bare_225 ?_
    have hk_l0 := tk_ hts23.1 hk_l0
    show v_ l D cy ka cX15_bare RX15 5 (some FieldType.boolean) "bare" 10 215 (qm_ D cy σ0 z (fun r : Int32 => some (.int r)) w) σ0 z _ 228 [(3, .int t0), (0, va_rf (some l0)), (2, .int l2)] []
    refine v_aload_n (x := (some l0)) dX15_bare_228 rfl 1 rfl ?_
    rcases bx_of hf with ⟨x24, s25, hcs25, hf⟩ | ⟨q9, s9, hc9, hf⟩
    rotate_left
    · have ht9 := c_X15_sum (l := l) (D := D) (cy := cy) (ka := ka) hc9
      exact v_callVX cb_16 hk_l0 (As := []) (rest := []) ht9 yb_X15_sum kw_1920 kw_1922 kp_103 rfl ⟨Nat.le_of_ble_eq_true rfl, Nat.le_of_ble_eq_true rfl⟩ rfl (cat_len (Nat.le_of_ble_eq_true rfl)) (by decide +kernel) hf dX15_bare_229
    have hts25 := c_X15_sum (l := l) (D := D) (cy := cy) (ka := ka) hcs25
    refine v_callV cb_16 hk_l0 (As := []) (rest := []) hts25 yb_X15_sum kw_1920 kw_1922 kp_103 rfl ⟨Nat.le_of_ble_eq_true rfl, Nat.le_of_ble_eq_true rfl⟩ rfl (cat_len (Nat.le_of_ble_eq_true rfl)) dX15_bare_229 ?_
    have hk_l0 := tk_ hts25.1 hk_l0
    show v_ l D cy ka cX15_bare RX15 5 (some FieldType.boolean) "bare" 10 215 (qm_ D cy σ0 z (fun r : Int32 => some (.int r)) w) σ0 z _ 232 [(3, .int t0), (0, va_rf (some l0)), (2, .int l2)] [.int x24]
    refine v_istore [(4, .int x24), (3, .int t0), (0, va_rf (some l0)), (2, .int l2)] dX15_bare_232 (by decide) rfl ?_
    refine v_iload_n (x := t0) dX15_bare_234 rfl 1 rfl ?_
    refine v_if_ne (tgt := 252) hf dX15_bare_235 (by decide) (fun hq hf => ?_) (fun hq hf => ?_)
    · refine v_iload_n (x := l2) dX15_bare_238 rfl 3 rfl ?_
      refine v_iload (x := x24) dX15_bare_239 0 rfl ?_
      refine v_icmp_ge (tgt := 248) hf dX15_bare_241 (by decide) (fun hq hf => ?_) (fun hq hf => ?_)
      · refine v_iconst (v := 0) dX15_bare_248 (by decide) ?_
        refine v_goto (tgt := 282) dX15_bare_249 (by decide) ?_
        refine v_sub [] (L2 := []) rfl ?_
        exact t_X15_bare_b282  hf
      · refine v_iconst (v := 1) dX15_bare_244 (by decide) ?_
        refine v_goto (tgt := 282) dX15_bare_245 (by decide) ?_
        refine v_sub [] (L2 := []) rfl ?_
        exact t_X15_bare_b282  hf
    · refine v_iload_n (x := t0) dX15_bare_252 rfl 1 rfl ?_
      refine v_iconst (v := 1) dX15_bare_253 (by decide) ?_
      refine v_icmp_ne (tgt := 271) hf dX15_bare_254 (by decide) (fun hq hf => ?_) (fun hq hf => ?_)
      · refine v_iload_n (x := l2) dX15_bare_257 rfl 3 rfl ?_
        refine v_iload (x := x24) dX15_bare_258 0 rfl ?_
        refine v_icmp_ne (tgt := 267) hf dX15_bare_260 (by decide) (fun hq hf => ?_) (fun hq hf => ?_)
        · refine v_iconst (v := 1) dX15_bare_263 (by decide) ?_
          refine v_goto (tgt := 282) dX15_bare_264 (by decide) ?_
          refine v_sub [] (L2 := []) rfl ?_
          exact t_X15_bare_b282  hf
        · refine v_iconst (v := 0) dX15_bare_267 (by decide) ?_
          refine v_goto (tgt := 282) dX15_bare_268 (by decide) ?_
          refine v_sub [] (L2 := []) rfl ?_
          exact t_X15_bare_b282  hf
      · refine v_iload_n (x := l2) dX15_bare_271 rfl 3 rfl ?_
        refine v_iload (x := x24) dX15_bare_272 0 rfl ?_
        refine v_icmp_le (tgt := 281) hf dX15_bare_274 (by decide) (fun hq hf => ?_) (fun hq hf => ?_)
        · refine v_iconst (v := 0) dX15_bare_281 (by decide) ?_
          refine v_sub [] (L2 := []) rfl ?_
          exact t_X15_bare_b282  hf
        · refine v_iconst (v := 1) dX15_bare_277 (by decide) ?_
          refine v_goto (tgt := 282) dX15_bare_278 (by decide) ?_
          refine v_sub [] (L2 := []) rfl ?_
          exact t_X15_bare_b282  hf
def f_X15_bare_b163 (σ : TH) (l0 : Nat) : Option ((Int32 ⊕ Nat) × TH) :=
  gt_ (kd_ σ l0 = 17) <| bx_ (f_X15_sum σ l0) fun x10 s11 => bd_ (f_X15_is s11 l0 (60 : Int32)) fun x12 s13 => if x12 = 0 then (bd_ (f_X15_is s13 l0 (61 : Int32)) fun x14 s15 => if x14 = 0 then (bd_ (f_X15_is s15 l0 (62 : Int32)) fun x16 s17 => if x16 = 0 then (f_X15_bare_b208 s17 l0 x10 (-1 : Int32)) else (f_X15_bare_b208 s17 l0 x10 (2 : Int32))) else (f_X15_bare_b208 s15 l0 x10 (1 : Int32))) else (f_X15_bare_b208 s13 l0 x10 (0 : Int32))
set_option maxHeartbeats 4000000 in
set_option maxRecDepth 100000 in
theorem t_X15_bare_b163 {l : Launch} {D : va_G} {cy : Nat → ClassId} {ka : Nat → Nat} {σ0 z : TH} {w : (Int32 ⊕ Nat)}  {σ : TH} {l0 : Nat} (hf : f_X15_bare_b163 σ l0 = some (w, z)) : v_ l D cy ka cX15_bare RX15 5 (some FieldType.boolean) "bare" 10 215 (qm_ D cy σ0 z (fun r : Int32 => some (.int r)) w) σ0 z σ 163 [(0, va_rf (some l0))] [] := by
  unfold f_X15_bare_b163 at hf
  refine v_aload_n (x := (some l0)) dX15_bare_163 rfl 0 rfl ?_
  obtain ⟨hk_l0, hf⟩ := gt_of hf
  rcases bx_of hf with ⟨x10, s11, hcs11, hf⟩ | ⟨q9, s9, hc9, hf⟩
  rotate_left
  · have ht9 := c_X15_sum (l := l) (D := D) (cy := cy) (ka := ka) hc9
    exact v_callVX cb_16 hk_l0 (As := []) (rest := []) ht9 yb_X15_sum kw_1920 kw_1922 kp_103 rfl ⟨Nat.le_of_ble_eq_true rfl, Nat.le_of_ble_eq_true rfl⟩ rfl (cat_len (Nat.le_of_ble_eq_true rfl)) (by decide +kernel) hf dX15_bare_164
  have hts11 := c_X15_sum (l := l) (D := D) (cy := cy) (ka := ka) hcs11
  refine v_callV cb_16 hk_l0 (As := []) (rest := []) hts11 yb_X15_sum kw_1920 kw_1922 kp_103 rfl ⟨Nat.le_of_ble_eq_true rfl, Nat.le_of_ble_eq_true rfl⟩ rfl (cat_len (Nat.le_of_ble_eq_true rfl)) dX15_bare_164 ?_
  have hk_l0 := tk_ hts11.1 hk_l0
  show v_ l D cy ka cX15_bare RX15 5 (some FieldType.boolean) "bare" 10 215 (qm_ D cy σ0 z (fun r : Int32 => some (.int r)) w) σ0 z _ 167 [(0, va_rf (some l0))] [.int x10]
  refine v_istore_n [(2, .int x10), (0, va_rf (some l0))] dX15_bare_167 rfl (by decide) rfl ?_
  refine v_aload_n (x := (some l0)) dX15_bare_168 rfl 1 rfl ?_
  refine v_bipush (v := 60) dX15_bare_169 (by decide) ?_
  obtain ⟨x12, s13, hcs13, hf⟩ := bd_of hf
  have hts13 := c_X15_is (l := l) (D := D) (cy := cy) (ka := ka) hcs13
  refine v_callV cb_16 hk_l0 (As := [.int (60 : Int32)]) (rest := []) hts13 yb_X15_is kw_1998 kw_2000 kp_118 rfl ⟨Nat.le_of_ble_eq_true rfl, Nat.le_of_ble_eq_true rfl⟩ rfl (cat_len (Nat.le_of_ble_eq_true rfl)) dX15_bare_171 ?_
  have hk_l0 := tk_ hts13.1 hk_l0
  show v_ l D cy ka cX15_bare RX15 5 (some FieldType.boolean) "bare" 10 215 (qm_ D cy σ0 z (fun r : Int32 => some (.int r)) w) σ0 z _ 174 [(2, .int x10), (0, va_rf (some l0))] [.int x12]
  refine v_if_eq (tgt := 181) hf dX15_bare_174 (by decide) (fun hq hf => ?_) (fun hq hf => ?_)
  · refine v_aload_n (x := (some l0)) dX15_bare_181 rfl 1 rfl ?_
    refine v_bipush (v := 61) dX15_bare_182 (by decide) ?_
    obtain ⟨x14, s15, hcs15, hf⟩ := bd_of hf
    have hts15 := c_X15_is (l := l) (D := D) (cy := cy) (ka := ka) hcs15
    refine v_callV cb_16 hk_l0 (As := [.int (61 : Int32)]) (rest := []) hts15 yb_X15_is kw_1998 kw_2000 kp_118 rfl ⟨Nat.le_of_ble_eq_true rfl, Nat.le_of_ble_eq_true rfl⟩ rfl (cat_len (Nat.le_of_ble_eq_true rfl)) dX15_bare_184 ?_
    have hk_l0 := tk_ hts15.1 hk_l0
    show v_ l D cy ka cX15_bare RX15 5 (some FieldType.boolean) "bare" 10 215 (qm_ D cy σ0 z (fun r : Int32 => some (.int r)) w) σ0 z _ 187 [(2, .int x10), (0, va_rf (some l0))] [.int x14]
    refine v_if_eq (tgt := 194) hf dX15_bare_187 (by decide) (fun hq hf => ?_) (fun hq hf => ?_)
    · refine v_aload_n (x := (some l0)) dX15_bare_194 rfl 1 rfl ?_
      refine v_bipush (v := 62) dX15_bare_195 (by decide) ?_
      obtain ⟨x16, s17, hcs17, hf⟩ := bd_of hf
      have hts17 := c_X15_is (l := l) (D := D) (cy := cy) (ka := ka) hcs17
      refine v_callV cb_16 hk_l0 (As := [.int (62 : Int32)]) (rest := []) hts17 yb_X15_is kw_1998 kw_2000 kp_118 rfl ⟨Nat.le_of_ble_eq_true rfl, Nat.le_of_ble_eq_true rfl⟩ rfl (cat_len (Nat.le_of_ble_eq_true rfl)) dX15_bare_197 ?_
      have hk_l0 := tk_ hts17.1 hk_l0
      show v_ l D cy ka cX15_bare RX15 5 (some FieldType.boolean) "bare" 10 215 (qm_ D cy σ0 z (fun r : Int32 => some (.int r)) w) σ0 z _ 200 [(2, .int x10), (0, va_rf (some l0))] [.int x16]
      refine v_if_eq (tgt := 207) hf dX15_bare_200 (by decide) (fun hq hf => ?_) (fun hq hf => ?_)
      · refine v_iconst (v := (-1)) dX15_bare_207 (by decide) ?_
        refine v_sub [1, 0] (L2 := [(0, va_rf (some l0)), (2, .int x10)]) rfl ?_
        exact t_X15_bare_b208  hf
      · refine v_iconst (v := 2) dX15_bare_203 (by decide) ?_
        refine v_goto (tgt := 208) dX15_bare_204 (by decide) ?_
        refine v_sub [1, 0] (L2 := [(0, va_rf (some l0)), (2, .int x10)]) rfl ?_
        exact t_X15_bare_b208  hf
    · refine v_iconst (v := 1) dX15_bare_190 (by decide) ?_
      refine v_goto (tgt := 208) dX15_bare_191 (by decide) ?_
      refine v_sub [1, 0] (L2 := [(0, va_rf (some l0)), (2, .int x10)]) rfl ?_
      exact t_X15_bare_b208  hf
  · refine v_iconst (v := 0) dX15_bare_177 (by decide) ?_
    refine v_goto (tgt := 208) dX15_bare_178 (by decide) ?_
    refine v_sub [1, 0] (L2 := [(0, va_rf (some l0)), (2, .int x10)]) rfl ?_
    exact t_X15_bare_b208  hf
def f_X15_bare_b129 (σ : TH) (l0 : Nat) : Option ((Int32 ⊕ Nat) × TH) :=
  gt_ (kd_ σ l0 = 17) <| lt_ (fi_ σ 1645 l0) fun x7 => if x7 = 0 then (bd_ (f_X15_isWord σ l0 7) fun x8 s9 => if x8 = 0 then (f_X15_bare_b163 s9 l0) else (bd_ (f_X15_next s9 l0) fun x26 s27 => lt_ (fi_ s27 1643 l0) fun x28 => lt_ (fi_ s27 1644 l0) fun x29 => bd_ (f_X15_isDeadBy s27 l0 x28 x29) fun x30 s31 => gt_ (x30 = 0 ∨ x30 = 1) <| some (.inl (x30), s31))) else (f_X15_bare_b163 σ l0)
set_option maxHeartbeats 4000000 in
set_option maxRecDepth 100000 in
theorem t_X15_bare_b129 {l : Launch} {D : va_G} {cy : Nat → ClassId} {ka : Nat → Nat} {σ0 z : TH} {w : (Int32 ⊕ Nat)}  {σ : TH} {l0 : Nat} (hf : f_X15_bare_b129 σ l0 = some (w, z)) : v_ l D cy ka cX15_bare RX15 5 (some FieldType.boolean) "bare" 10 215 (qm_ D cy σ0 z (fun r : Int32 => some (.int r)) w) σ0 z σ 129 [(0, va_rf (some l0))] [] := by
  unfold f_X15_bare_b129 at hf
  refine v_aload_n (x := (some l0)) dX15_bare_129 rfl 0 rfl ?_
  obtain ⟨hk_l0, hf⟩ := gt_of hf
  refine v_geti cb_16 hk_l0 45 1645 rfl (by decide) rfl (lk_n kw_1502 rfl) hf dX15_bare_130 (fun x7 hf => ?_)
  refine v_if_ne (tgt := 163) hf dX15_bare_133 (by decide) (fun hq hf => ?_) (fun hq hf => ?_)
  · refine v_aload_n (x := (some l0)) dX15_bare_136 rfl 0 rfl ?_
    refine v_ldcwS (tx := "dead") (n := 7) (by decide) dX15_bare_137 ?_
    obtain ⟨x8, s9, hcs9, hf⟩ := bd_of hf
    have hts9 := c_X15_isWord (l := l) (D := D) (cy := cy) (ka := ka) hcs9
    refine v_callV cb_16 hk_l0 (As := [va_rf (some (ka 7))]) (rest := []) hts9 yb_X15_isWord kw_1911 kw_1913 kp_102 rfl ⟨Nat.le_of_ble_eq_true rfl, Nat.le_of_ble_eq_true rfl⟩ rfl (cat_len (Nat.le_of_ble_eq_true rfl)) dX15_bare_140 ?_
    have hk_l0 := tk_ hts9.1 hk_l0
    show v_ l D cy ka cX15_bare RX15 5 (some FieldType.boolean) "bare" 10 215 (qm_ D cy σ0 z (fun r : Int32 => some (.int r)) w) σ0 z _ 143 [(0, va_rf (some l0))] [.int x8]
    refine v_if_eq (tgt := 163) hf dX15_bare_143 (by decide) (fun hq hf => ?_) (fun hq hf => ?_)
    · refine v_sub [0] (L2 := [(0, va_rf (some l0))]) rfl ?_
      exact t_X15_bare_b163  hf
    · refine v_aload_n (x := (some l0)) dX15_bare_146 rfl 0 rfl ?_
      obtain ⟨x26, s27, hcs27, hf⟩ := bd_of hf
      have hts27 := c_X15_next (l := l) (D := D) (cy := cy) (ka := ka) hcs27
      refine v_callV cb_16 hk_l0 (As := []) (rest := []) hts27 yb_X15_next kw_1896 kw_1898 kp_101 rfl ⟨Nat.le_of_ble_eq_true rfl, Nat.le_of_ble_eq_true rfl⟩ rfl (cat_len (Nat.le_of_ble_eq_true rfl)) dX15_bare_147 ?_
      have hk_l0 := tk_ hts27.1 hk_l0
      show v_ l D cy ka cX15_bare RX15 5 (some FieldType.boolean) "bare" 10 215 (qm_ D cy σ0 z (fun r : Int32 => some (.int r)) w) σ0 z _ 150 [(0, va_rf (some l0))] []
      refine v_aload_n (x := (some l0)) dX15_bare_150 rfl 0 rfl ?_
      refine v_aload_n (x := (some l0)) dX15_bare_151 rfl 0 rfl ?_
      refine v_geti cb_16 hk_l0 43 1643 rfl (by decide) rfl (lk_n kw_1500 rfl) hf dX15_bare_152 (fun x28 hf => ?_)
      refine v_aload_n (x := (some l0)) dX15_bare_155 rfl 0 rfl ?_
      refine v_geti cb_16 hk_l0 44 1644 rfl (by decide) rfl (lk_n kw_1501 rfl) hf dX15_bare_156 (fun x29 hf => ?_)
      obtain ⟨x30, s31, hcs31, hf⟩ := bd_of hf
      have hts31 := c_X15_isDeadBy (l := l) (D := D) (cy := cy) (ka := ka) hcs31
      refine v_callV cb_16 hk_l0 (As := [.int x28, .int x29]) (rest := []) hts31 yb_X15_isDeadBy kw_1782 kw_1784 kp_86 rfl ⟨Nat.le_of_ble_eq_true rfl, Nat.le_of_ble_eq_true rfl⟩ rfl (cat_len (Nat.le_of_ble_eq_true rfl)) dX15_bare_159 ?_
      have hk_l0 := tk_ hts31.1 hk_l0
      show v_ l D cy ka cX15_bare RX15 5 (some FieldType.boolean) "bare" 10 215 (qm_ D cy σ0 z (fun r : Int32 => some (.int r)) w) σ0 z _ 162 [(0, va_rf (some l0))] [.int x30]
      obtain ⟨hb9, hf⟩ := gt_of hf
      exact v_zretM hf (nz_ hb9) dX15_bare_162
  · refine v_sub [0] (L2 := [(0, va_rf (some l0))]) rfl ?_
    exact t_X15_bare_b163  hf
def f_X15_bare_b128 (σ : TH) (t0 : Int32) : Option ((Int32 ⊕ Nat) × TH) :=
  gt_ (t0 = 0 ∨ t0 = 1) <| some (.inl (t0), σ)
set_option maxHeartbeats 4000000 in
set_option maxRecDepth 100000 in
theorem t_X15_bare_b128 {l : Launch} {D : va_G} {cy : Nat → ClassId} {ka : Nat → Nat} {σ0 z : TH} {w : (Int32 ⊕ Nat)}  {σ : TH} {t0 : Int32} (hf : f_X15_bare_b128 σ t0 = some (w, z)) : v_ l D cy ka cX15_bare RX15 5 (some FieldType.boolean) "bare" 10 215 (qm_ D cy σ0 z (fun r : Int32 => some (.int r)) w) σ0 z σ 128 [] [.int t0] := by
  unfold f_X15_bare_b128 at hf
  obtain ⟨hb9, hf⟩ := gt_of hf
  exact v_zretM hf (nz_ hb9) dX15_bare_128
def f_X15_bare_b44 (σ : TH) (l0 : Nat) (l1 : Int32) : Option ((Int32 ⊕ Nat) × TH) :=
  gt_ (kd_ σ l0 = 17) <| bd_ (f_X15_next σ l0) fun x32 s33 => bd_ (f_X15_isFact s33 l0) fun x34 s35 => if x34 = 0 then (lt_ (fi_ s35 1634 l0) fun x36 => bd_ (f_X15_stop s35 l0 (1 : Int32) x36) fun r37 s38 => nn_ r37 fun a39 => gt_ (kd_ s38 a39 = 16) <| some (.inr a39, s38)) else (lt_ (fi_ s35 1637 l0) fun x40 => lt_ (fi_ s35 1640 l0) fun x41 => lt_ (si_ s35 1640 l0 (x41 ||| ((1 : Int32) <<< (x40 &&& 31)))) fun s42 => bd_ (f_X15_next s42 l0) fun x43 s44 => if l1 = 0 then (lt_ (fi_ s44 1643 l0) fun x45 => lt_ (fi_ s44 1644 l0) fun x46 => bd_ (f_X15_isStale s44 l0 x45 x40 x46) fun x47 s48 => f_X15_bare_b128 s48 x47) else (lt_ (fi_ s44 1643 l0) fun x49 => lt_ (fi_ s44 1644 l0) fun x50 => bd_ (f_X15_openOn s44 l0 x49 x40 x50) fun x51 s52 => if x51 = (-1 : Int32) then (f_X15_bare_b128 s52 (0 : Int32)) else (f_X15_bare_b128 s52 (1 : Int32))))
set_option maxHeartbeats 4000000 in
set_option maxRecDepth 100000 in
theorem t_X15_bare_b44 {l : Launch} {D : va_G} {cy : Nat → ClassId} {ka : Nat → Nat} {σ0 z : TH} {w : (Int32 ⊕ Nat)}  {σ : TH} {l0 : Nat} {l1 : Int32} (hf : f_X15_bare_b44 σ l0 l1 = some (w, z)) : v_ l D cy ka cX15_bare RX15 5 (some FieldType.boolean) "bare" 10 215 (qm_ D cy σ0 z (fun r : Int32 => some (.int r)) w) σ0 z σ 44 [(0, va_rf (some l0)), (1, .int l1)] [] := by
  unfold f_X15_bare_b44 at hf
  refine v_aload_n (x := (some l0)) dX15_bare_44 rfl 0 rfl ?_
  obtain ⟨hk_l0, hf⟩ := gt_of hf
  obtain ⟨x32, s33, hcs33, hf⟩ := bd_of hf
  have hts33 := c_X15_next (l := l) (D := D) (cy := cy) (ka := ka) hcs33
  refine v_callV cb_16 hk_l0 (As := []) (rest := []) hts33 yb_X15_next kw_1896 kw_1898 kp_101 rfl ⟨Nat.le_of_ble_eq_true rfl, Nat.le_of_ble_eq_true rfl⟩ rfl (cat_len (Nat.le_of_ble_eq_true rfl)) dX15_bare_45 ?_
  have hk_l0 := tk_ hts33.1 hk_l0
  show v_ l D cy ka cX15_bare RX15 5 (some FieldType.boolean) "bare" 10 215 (qm_ D cy σ0 z (fun r : Int32 => some (.int r)) w) σ0 z _ 48 [(0, va_rf (some l0)), (1, .int l1)] []
  refine v_aload_n (x := (some l0)) dX15_bare_48 rfl 0 rfl ?_
  obtain ⟨x34, s35, hcs35, hf⟩ := bd_of hf
  have hts35 := c_X15_isFact (l := l) (D := D) (cy := cy) (ka := ka) hcs35
  refine v_callV cb_16 hk_l0 (As := []) (rest := []) hts35 yb_X15_isFact kw_1959 kw_1961 kp_109 rfl ⟨Nat.le_of_ble_eq_true rfl, Nat.le_of_ble_eq_true rfl⟩ rfl (cat_len (Nat.le_of_ble_eq_true rfl)) dX15_bare_49 ?_
  have hk_l0 := tk_ hts35.1 hk_l0
  show v_ l D cy ka cX15_bare RX15 5 (some FieldType.boolean) "bare" 10 215 (qm_ D cy σ0 z (fun r : Int32 => some (.int r)) w) σ0 z _ 52 [(0, va_rf (some l0)), (1, .int l1)] [.int x34]
  refine v_if_ne (tgt := 65) hf dX15_bare_52 (by decide) (fun hq hf => ?_) (fun hq hf => ?_)
  · refine v_aload_n (x := (some l0)) dX15_bare_55 rfl 0 rfl ?_
    refine v_iconst (v := 1) dX15_bare_56 (by decide) ?_
    refine v_aload_n (x := (some l0)) dX15_bare_57 rfl 0 rfl ?_
    refine v_geti cb_16 hk_l0 34 1634 rfl (by decide) rfl (lk_n kw_1491 rfl) hf dX15_bare_58 (fun x36 hf => ?_)
    obtain ⟨r37, s38, hcs38, hf⟩ := bd_of hf
    have hts38 := c_X15_stop (l := l) (D := D) (cy := cy) (ka := ka) hcs38
    refine v_callV cb_16 hk_l0 (As := [.int (1 : Int32), .int x36]) (rest := []) hts38 yb_X15_stop kw_1888 kw_1890 kp_99 rfl ⟨Nat.le_of_ble_eq_true rfl, Nat.le_of_ble_eq_true rfl⟩ rfl (cat_len (Nat.le_of_ble_eq_true rfl)) dX15_bare_61 ?_
    have hk_l0 := tk_ hts38.1 hk_l0
    show v_ l D cy ka cX15_bare RX15 5 (some FieldType.boolean) "bare" 10 215 (qm_ D cy σ0 z (fun r : Int32 => some (.int r)) w) σ0 z _ 64 [(0, va_rf (some l0)), (1, .int l1)] [va_rf r37]
    obtain ⟨a39, rfl, hf⟩ := nn_of hf
    obtain ⟨hk_a39, hf⟩ := gt_of hf
    exact v_athrow hk_a39 (by decide +kernel) hf dX15_bare_64
  · refine v_aload_n (x := (some l0)) dX15_bare_65 rfl 0 rfl ?_
    refine v_geti cb_16 hk_l0 37 1637 rfl (by decide) rfl (lk_n kw_1494 rfl) hf dX15_bare_66 (fun x40 hf => ?_)
    refine v_istore_n [(2, .int x40), (0, va_rf (some l0)), (1, .int l1)] dX15_bare_69 rfl (by decide) rfl ?_
    refine v_aload_n (x := (some l0)) dX15_bare_70 rfl 1 rfl ?_
    refine v_dup dX15_bare_71 (va_rf_cat _) ?_
    refine v_geti cb_16 hk_l0 40 1640 rfl (by decide) rfl (lk_n kw_1497 rfl) hf dX15_bare_72 (fun x41 hf => ?_)
    refine v_iconst (v := 1) dX15_bare_75 (by decide) ?_
    refine v_iload_n (x := x40) dX15_bare_76 rfl 0 rfl ?_
    refine v_ishl dX15_bare_77 ?_
    refine v_ior dX15_bare_78 ?_
    refine v_puti2 cb_16 hk_l0 40 1640 rfl (by decide) rfl (lk_n kw_1497 rfl) (Or.inl rfl) rfl rfl hf dX15_bare_79 (fun s42 hts42 hf => ?_)
    have hk_l0 := tk_ hts42 hk_l0
    refine v_aload_n (x := (some l0)) dX15_bare_82 rfl 1 rfl ?_
    obtain ⟨x43, s44, hcs44, hf⟩ := bd_of hf
    have hts44 := c_X15_next (l := l) (D := D) (cy := cy) (ka := ka) hcs44
    refine v_callV cb_16 hk_l0 (As := []) (rest := []) hts44 yb_X15_next kw_1896 kw_1898 kp_101 rfl ⟨Nat.le_of_ble_eq_true rfl, Nat.le_of_ble_eq_true rfl⟩ rfl (cat_len (Nat.le_of_ble_eq_true rfl)) dX15_bare_83 ?_
    have hk_l0 := tk_ hts44.1 hk_l0
    show v_ l D cy ka cX15_bare RX15 5 (some FieldType.boolean) "bare" 10 215 (qm_ D cy σ0 z (fun r : Int32 => some (.int r)) w) σ0 z _ 86 [(2, .int x40), (0, va_rf (some l0)), (1, .int l1)] []
    refine v_iload_n (x := l1) dX15_bare_86 rfl 2 rfl ?_
    refine v_if_eq (tgt := 115) hf dX15_bare_87 (by decide) (fun hq hf => ?_) (fun hq hf => ?_)
    · refine v_aload_n (x := (some l0)) dX15_bare_115 rfl 1 rfl ?_
      refine v_aload_n (x := (some l0)) dX15_bare_116 rfl 1 rfl ?_
      refine v_geti cb_16 hk_l0 43 1643 rfl (by decide) rfl (lk_n kw_1500 rfl) hf dX15_bare_117 (fun x45 hf => ?_)
      refine v_iload_n (x := x40) dX15_bare_120 rfl 0 rfl ?_
      refine v_aload_n (x := (some l0)) dX15_bare_121 rfl 1 rfl ?_
      refine v_geti cb_16 hk_l0 44 1644 rfl (by decide) rfl (lk_n kw_1501 rfl) hf dX15_bare_122 (fun x46 hf => ?_)
      obtain ⟨x47, s48, hcs48, hf⟩ := bd_of hf
      have hts48 := c_X15_isStale (l := l) (D := D) (cy := cy) (ka := ka) hcs48
      refine v_callV cb_16 hk_l0 (As := [.int x45, .int x40, .int x46]) (rest := []) hts48 yb_X15_isStale kw_1801 kw_1803 kp_90 rfl ⟨Nat.le_of_ble_eq_true rfl, Nat.le_of_ble_eq_true rfl⟩ rfl (cat_len (Nat.le_of_ble_eq_true rfl)) dX15_bare_125 ?_
      have hk_l0 := tk_ hts48.1 hk_l0
      show v_ l D cy ka cX15_bare RX15 5 (some FieldType.boolean) "bare" 10 215 (qm_ D cy σ0 z (fun r : Int32 => some (.int r)) w) σ0 z _ 128 [(2, .int x40), (0, va_rf (some l0)), (1, .int l1)] [.int x47]
      refine v_sub [] (L2 := []) rfl ?_
      exact t_X15_bare_b128  hf
    · refine v_aload_n (x := (some l0)) dX15_bare_90 rfl 1 rfl ?_
      refine v_aload_n (x := (some l0)) dX15_bare_91 rfl 1 rfl ?_
      refine v_geti cb_16 hk_l0 43 1643 rfl (by decide) rfl (lk_n kw_1500 rfl) hf dX15_bare_92 (fun x49 hf => ?_)
      refine v_iload_n (x := x40) dX15_bare_95 rfl 0 rfl ?_
      refine v_aload_n (x := (some l0)) dX15_bare_96 rfl 1 rfl ?_
      refine v_geti cb_16 hk_l0 44 1644 rfl (by decide) rfl (lk_n kw_1501 rfl) hf dX15_bare_97 (fun x50 hf => ?_)
      obtain ⟨x51, s52, hcs52, hf⟩ := bd_of hf
      have hts52 := c_X15_openOn (l := l) (D := D) (cy := cy) (ka := ka) hcs52
      refine v_callV cb_16 hk_l0 (As := [.int x49, .int x40, .int x50]) (rest := []) hts52 yb_X15_openOn kw_1994 kw_1996 kp_117 rfl ⟨Nat.le_of_ble_eq_true rfl, Nat.le_of_ble_eq_true rfl⟩ rfl (cat_len (Nat.le_of_ble_eq_true rfl)) dX15_bare_100 ?_
      have hk_l0 := tk_ hts52.1 hk_l0
      show v_ l D cy ka cX15_bare RX15 5 (some FieldType.boolean) "bare" 10 215 (qm_ D cy σ0 z (fun r : Int32 => some (.int r)) w) σ0 z _ 103 [(2, .int x40), (0, va_rf (some l0)), (1, .int l1)] [.int x51]
      refine v_iconst (v := (-1)) dX15_bare_103 (by decide) ?_
      refine v_icmp_eq (tgt := 111) hf dX15_bare_104 (by decide) (fun hq hf => ?_) (fun hq hf => ?_)
      · refine v_iconst (v := 0) dX15_bare_111 (by decide) ?_
        refine v_goto (tgt := 128) dX15_bare_112 (by decide) ?_
        refine v_sub [] (L2 := []) rfl ?_
        exact t_X15_bare_b128  hf
      · refine v_iconst (v := 1) dX15_bare_107 (by decide) ?_
        refine v_goto (tgt := 128) dX15_bare_108 (by decide) ?_
        refine v_sub [] (L2 := []) rfl ?_
        exact t_X15_bare_b128  hf
def f_X15_bare_b22 (σ : TH) (l0 : Nat) (t0 : Int32) : Option ((Int32 ⊕ Nat) × TH) :=
  if t0 = 0 then (gt_ (kd_ σ l0 = 17) <| lt_ (fi_ σ 1645 l0) fun x4 => if x4 = 0 then (bd_ (f_X15_isWord σ l0 10) fun x5 s6 => if x5 = 0 then (f_X15_bare_b129 s6 l0) else (f_X15_bare_b44 s6 l0 t0)) else (f_X15_bare_b129 σ l0)) else (f_X15_bare_b44 σ l0 t0)
set_option maxHeartbeats 4000000 in
set_option maxRecDepth 100000 in
theorem t_X15_bare_b22 {l : Launch} {D : va_G} {cy : Nat → ClassId} {ka : Nat → Nat} {σ0 z : TH} {w : (Int32 ⊕ Nat)}  {σ : TH} {l0 : Nat} {t0 : Int32} (hf : f_X15_bare_b22 σ l0 t0 = some (w, z)) : v_ l D cy ka cX15_bare RX15 5 (some FieldType.boolean) "bare" 10 215 (qm_ D cy σ0 z (fun r : Int32 => some (.int r)) w) σ0 z σ 22 [(0, va_rf (some l0))] [.int t0] := by
  unfold f_X15_bare_b22 at hf
  refine v_istore_n [(1, .int t0), (0, va_rf (some l0))] dX15_bare_22 rfl (by decide) rfl ?_
  refine v_iload_n (x := t0) dX15_bare_23 rfl 0 rfl ?_
  refine v_if_ne (tgt := 44) hf dX15_bare_24 (by decide) (fun hq hf => ?_) (fun hq hf => ?_)
  · refine v_aload_n (x := (some l0)) dX15_bare_27 rfl 1 rfl ?_
    obtain ⟨hk_l0, hf⟩ := gt_of hf
    refine v_geti cb_16 hk_l0 45 1645 rfl (by decide) rfl (lk_n kw_1502 rfl) hf dX15_bare_28 (fun x4 hf => ?_)
    refine v_if_ne (tgt := 129) hf dX15_bare_31 (by decide) (fun hq hf => ?_) (fun hq hf => ?_)
    · refine v_aload_n (x := (some l0)) dX15_bare_34 rfl 1 rfl ?_
      refine v_ldcwS (tx := "stale") (n := 10) (by decide) dX15_bare_35 ?_
      obtain ⟨x5, s6, hcs6, hf⟩ := bd_of hf
      have hts6 := c_X15_isWord (l := l) (D := D) (cy := cy) (ka := ka) hcs6
      refine v_callV cb_16 hk_l0 (As := [va_rf (some (ka 10))]) (rest := []) hts6 yb_X15_isWord kw_1911 kw_1913 kp_102 rfl ⟨Nat.le_of_ble_eq_true rfl, Nat.le_of_ble_eq_true rfl⟩ rfl (cat_len (Nat.le_of_ble_eq_true rfl)) dX15_bare_38 ?_
      have hk_l0 := tk_ hts6.1 hk_l0
      show v_ l D cy ka cX15_bare RX15 5 (some FieldType.boolean) "bare" 10 215 (qm_ D cy σ0 z (fun r : Int32 => some (.int r)) w) σ0 z _ 41 [(1, .int t0), (0, va_rf (some l0))] [.int x5]
      refine v_if_eq (tgt := 129) hf dX15_bare_41 (by decide) (fun hq hf => ?_) (fun hq hf => ?_)
      · refine v_sub [1] (L2 := [(0, va_rf (some l0))]) rfl ?_
        exact t_X15_bare_b129  hf
      · refine v_sub [1, 0] (L2 := [(0, va_rf (some l0)), (1, .int t0)]) rfl ?_
        exact t_X15_bare_b44  hf
    · refine v_sub [1] (L2 := [(0, va_rf (some l0))]) rfl ?_
      exact t_X15_bare_b129  hf
  · refine v_sub [1, 0] (L2 := [(0, va_rf (some l0)), (1, .int t0)]) rfl ?_
    exact t_X15_bare_b44  hf
def f_X15_bare_b21 (σ : TH) (l0 : Nat) : Option ((Int32 ⊕ Nat) × TH) :=
  f_X15_bare_b22 σ l0 (0 : Int32)
set_option maxHeartbeats 4000000 in
set_option maxRecDepth 100000 in
theorem t_X15_bare_b21 {l : Launch} {D : va_G} {cy : Nat → ClassId} {ka : Nat → Nat} {σ0 z : TH} {w : (Int32 ⊕ Nat)}  {σ : TH} {l0 : Nat} (hf : f_X15_bare_b21 σ l0 = some (w, z)) : v_ l D cy ka cX15_bare RX15 5 (some FieldType.boolean) "bare" 10 215 (qm_ D cy σ0 z (fun r : Int32 => some (.int r)) w) σ0 z σ 21 [(0, va_rf (some l0))] [] := by
  unfold f_X15_bare_b21 at hf
  refine v_iconst (v := 0) dX15_bare_21 (by decide) ?_
  refine v_sub [0] (L2 := [(0, va_rf (some l0))]) rfl ?_
  exact t_X15_bare_b22  hf
/-- LivesAheadModel.bare()Z -/
def f_X15_bare (σ : TH) (p0 : Nat) : Option ((Int32 ⊕ Nat) × TH) :=
  gt_ (kd_ σ p0 = 17) <| lt_ (fi_ σ 1645 p0) fun x1 => if x1 = 0 then (bd_ (f_X15_isWord σ p0 4) fun x2 s3 => if x2 = 0 then (f_X15_bare_b21 s3 p0) else (f_X15_bare_b22 s3 p0 (1 : Int32))) else (f_X15_bare_b21 σ p0)
set_option maxHeartbeats 4000000 in
set_option maxRecDepth 100000 in
theorem c_X15_bare {l : Launch} {D : va_G} {cy : Nat → ClassId} {ka : Nat → Nat} {σ z : TH} {p0 : Nat} {w : (Int32 ⊕ Nat)} (hf : f_X15_bare σ p0 = some (w, z)) : cm_ l D cy ka yX15_bare 10 215 [va_rf (some p0)] σ (fun r : Int32 => some (.int r)) w z := by
  unfold f_X15_bare at hf
  refine m_start (rf := (fun r : Int32 => some (.int r))) (w := w) (cc := cX15_bare) (own := RX15) (maxL := 5) (ret := (some FieldType.boolean)) (nm := "bare") (by decide +kernel) kw_2022 rfl rfl (by simp [lg_sl, va_rf_cat, cat_i, cat_l]) ?_
  refine v_eqL (L2 := [(0, va_rf (some p0))]) (by simp [lv_args, va_rf_cat, cat_i, cat_l]) ?_
  refine v_aload_n (x := (some p0)) dX15_bare_0 rfl 0 rfl ?_
  obtain ⟨hk_p0, hf⟩ := gt_of hf
  refine v_geti cb_16 hk_p0 45 1645 rfl (by decide) rfl (lk_n kw_1502 rfl) hf dX15_bare_1 (fun x1 hf => ?_)
  refine v_if_ne (tgt := 21) hf dX15_bare_4 (by decide) (fun hq hf => ?_) (fun hq hf => ?_)
  · refine v_aload_n (x := (some p0)) dX15_bare_7 rfl 0 rfl ?_
    refine v_ldcwS (tx := "has") (n := 4) (by decide) dX15_bare_8 ?_
    obtain ⟨x2, s3, hcs3, hf⟩ := bd_of hf
    have hts3 := c_X15_isWord (l := l) (D := D) (cy := cy) (ka := ka) hcs3
    refine v_callV cb_16 hk_p0 (As := [va_rf (some (ka 4))]) (rest := []) hts3 yb_X15_isWord kw_1911 kw_1913 kp_102 rfl ⟨Nat.le_of_ble_eq_true rfl, Nat.le_of_ble_eq_true rfl⟩ rfl (cat_len (Nat.le_of_ble_eq_true rfl)) dX15_bare_11 ?_
    have hk_p0 := tk_ hts3.1 hk_p0
    show v_ l D cy ka cX15_bare RX15 5 (some FieldType.boolean) "bare" 10 215 (qm_ D cy σ z (fun r : Int32 => some (.int r)) w) σ z _ 14 [(0, va_rf (some p0))] [.int x2]
    refine v_if_eq (tgt := 21) hf dX15_bare_14 (by decide) (fun hq hf => ?_) (fun hq hf => ?_)
    · refine v_sub [0] (L2 := [(0, va_rf (some p0))]) rfl ?_
      exact t_X15_bare_b21  hf
    · refine v_iconst (v := 1) dX15_bare_17 (by decide) ?_
      refine v_goto (tgt := 22) dX15_bare_18 (by decide) ?_
      refine v_sub [0] (L2 := [(0, va_rf (some p0))]) rfl ?_
      exact t_X15_bare_b22  hf
  · refine v_sub [0] (L2 := [(0, va_rf (some p0))]) rfl ?_
    exact t_X15_bare_b21  hf
theorem dX15_one_0 : decode cX15_one 0 = .ok (.iconst 0, 1) := by decide +kernel
theorem dX15_one_1 : decode cX15_one 1 = .ok (.istore_n 1, 1) := by decide +kernel
theorem dX15_one_2 : decode cX15_one 2 = .ok (.aload_n 0, 1) := by decide +kernel
theorem dX15_one_3 : decode cX15_one 3 = .ok (.ldc_w 383, 3) := by decide +kernel
theorem dX15_one_6 : decode cX15_one 6 = .ok (.invokevirtual 357, 3) := by decide +kernel
theorem dX15_one_9 : decode cX15_one 9 = .ok (.ifCond .eq 20, 3) := by decide +kernel
theorem dX15_one_12 : decode cX15_one 12 = .ok (.iload_n 1, 1) := by decide +kernel
theorem dX15_one_13 : decode cX15_one 13 = .ok (.ifCond .ne 7, 3) := by decide +kernel
theorem dX15_one_16 : decode cX15_one 16 = .ok (.iconst 1, 1) := by decide +kernel
theorem dX15_one_17 : decode cX15_one 17 = .ok (.goto 4, 3) := by decide +kernel
theorem dX15_one_20 : decode cX15_one 20 = .ok (.iconst 0, 1) := by decide +kernel
theorem dX15_one_21 : decode cX15_one 21 = .ok (.istore_n 1, 1) := by decide +kernel
theorem dX15_one_22 : decode cX15_one 22 = .ok (.aload_n 0, 1) := by decide +kernel
theorem dX15_one_23 : decode cX15_one 23 = .ok (.invokevirtual 352, 3) := by decide +kernel
theorem dX15_one_26 : decode cX15_one 26 = .ok (.goto (-24), 3) := by decide +kernel
theorem dX15_one_29 : decode cX15_one 29 = .ok (.iload_n 1, 1) := by decide +kernel
theorem dX15_one_30 : decode cX15_one 30 = .ok (.aload_n 0, 1) := by decide +kernel
theorem dX15_one_31 : decode cX15_one 31 = .ok (.invokevirtual 385, 3) := by decide +kernel
theorem dX15_one_34 : decode cX15_one 34 = .ok (.if_icmp .eq 7, 3) := by decide +kernel
theorem dX15_one_37 : decode cX15_one 37 = .ok (.iconst 1, 1) := by decide +kernel
theorem dX15_one_38 : decode cX15_one 38 = .ok (.goto 4, 3) := by decide +kernel
theorem dX15_one_41 : decode cX15_one 41 = .ok (.iconst 0, 1) := by decide +kernel
theorem dX15_one_42 : decode cX15_one 42 = .ok (.ireturn, 1) := by decide +kernel
def f_X15_one_b42 (σ : TH) (t0 : Int32) : Option ((Int32 ⊕ Nat) × TH) :=
  gt_ (t0 = 0 ∨ t0 = 1) <| some (.inl (t0), σ)
set_option maxHeartbeats 4000000 in
set_option maxRecDepth 100000 in
theorem t_X15_one_b42 {l : Launch} {D : va_G} {cy : Nat → ClassId} {ka : Nat → Nat} {σ0 z : TH} {w : (Int32 ⊕ Nat)}  {σ : TH} {t0 : Int32} (hf : f_X15_one_b42 σ t0 = some (w, z)) : v_ l D cy ka cX15_one RX15 2 (some FieldType.boolean) "one" 11 239 (qm_ D cy σ0 z (fun r : Int32 => some (.int r)) w) σ0 z σ 42 [] [.int t0] := by
  unfold f_X15_one_b42 at hf
  obtain ⟨hb9, hf⟩ := gt_of hf
  exact v_zretM hf (nz_ hb9) dX15_one_42
def f_X15_one_b21 (rec_2 : TH → Nat → Int32 → Option ((Int32 ⊕ Nat) × TH)) (σ : TH) (l0 : Nat) (t0 : Int32) : Option ((Int32 ⊕ Nat) × TH) :=
  gt_ (kd_ σ l0 = 17) <| bd_ (f_X15_next σ l0) fun x5 s6 => rec_2 s6 l0 t0
set_option maxHeartbeats 4000000 in
set_option maxRecDepth 100000 in
theorem t_X15_one_b21 {l : Launch} {D : va_G} {cy : Nat → ClassId} {ka : Nat → Nat} {σ0 z : TH} {w : (Int32 ⊕ Nat)} {rec_2 : TH → Nat → Int32 → Option ((Int32 ⊕ Nat) × TH)} (hrec_2 : ∀ (σ : TH) (l0 : Nat) (l1 : Int32), rec_2 σ l0 l1 = some (w, z) → v_ l D cy ka cX15_one RX15 2 (some FieldType.boolean) "one" 11 239 (qm_ D cy σ0 z (fun r : Int32 => some (.int r)) w) σ0 z σ 2 [(0, va_rf (some l0)), (1, .int l1)] []) {σ : TH} {l0 : Nat} {t0 : Int32} (hf : f_X15_one_b21 rec_2 σ l0 t0 = some (w, z)) : v_ l D cy ka cX15_one RX15 2 (some FieldType.boolean) "one" 11 239 (qm_ D cy σ0 z (fun r : Int32 => some (.int r)) w) σ0 z σ 21 [(0, va_rf (some l0))] [.int t0] := by
  unfold f_X15_one_b21 at hf
  refine v_istore_n [(1, .int t0), (0, va_rf (some l0))] dX15_one_21 rfl (by decide) rfl ?_
  refine v_aload_n (x := (some l0)) dX15_one_22 rfl 1 rfl ?_
  obtain ⟨hk_l0, hf⟩ := gt_of hf
  obtain ⟨x5, s6, hcs6, hf⟩ := bd_of hf
  have hts6 := c_X15_next (l := l) (D := D) (cy := cy) (ka := ka) hcs6
  refine v_callV cb_16 hk_l0 (As := []) (rest := []) hts6 yb_X15_next kw_1896 kw_1898 kp_101 rfl ⟨Nat.le_of_ble_eq_true rfl, Nat.le_of_ble_eq_true rfl⟩ rfl (cat_len (Nat.le_of_ble_eq_true rfl)) dX15_one_23 ?_
  have hk_l0 := tk_ hts6.1 hk_l0
  show v_ l D cy ka cX15_one RX15 2 (some FieldType.boolean) "one" 11 239 (qm_ D cy σ0 z (fun r : Int32 => some (.int r)) w) σ0 z _ 26 [(1, .int t0), (0, va_rf (some l0))] []
  refine v_goto (tgt := 2) dX15_one_26 (by decide) ?_
  refine v_sub [1, 0] (L2 := [(0, va_rf (some l0)), (1, .int t0)]) rfl ?_
  exact hrec_2 _ _ _ hf
def f_X15_one_b2 : Nat → TH → Nat → Int32 → Option ((Int32 ⊕ Nat) × TH)
  | 0, _, _, _ => none
  | n + 1, σ, l0, l1 => gt_ (kd_ σ l0 = 17) <| bd_ (f_X15_isWord σ l0 3) fun x1 s2 => if x1 = 0 then (bx_ (f_X15_bare s2 l0) fun x3 s4 => if l1 = x3 then (f_X15_one_b42 s4 (0 : Int32)) else (f_X15_one_b42 s4 (1 : Int32))) else (if l1 = 0 then (f_X15_one_b21 (f_X15_one_b2 n) s2 l0 (1 : Int32)) else (f_X15_one_b21 (f_X15_one_b2 n) s2 l0 (0 : Int32)))
set_option maxHeartbeats 4000000 in
set_option maxRecDepth 100000 in
theorem t_X15_one_b2 {l : Launch} {D : va_G} {cy : Nat → ClassId} {ka : Nat → Nat} {σ0 z : TH} {w : (Int32 ⊕ Nat)}  : ∀ (n : Nat) (σ : TH) (l0 : Nat) (l1 : Int32), f_X15_one_b2 n σ l0 l1 = some (w, z) → v_ l D cy ka cX15_one RX15 2 (some FieldType.boolean) "one" 11 239 (qm_ D cy σ0 z (fun r : Int32 => some (.int r)) w) σ0 z σ 2 [(0, va_rf (some l0)), (1, .int l1)] [] := by
  intro n
  induction n with
  | zero => intro σ l0 l1 hf; unfold f_X15_one_b2 at hf; cases hf
  | succ n ih =>
    intro σ l0 l1 hf
    unfold f_X15_one_b2 at hf
    have hrec_2 := ih
    refine v_aload_n (x := (some l0)) dX15_one_2 rfl 0 rfl ?_
    refine v_ldcwS (tx := "not") (n := 3) (by decide) dX15_one_3 ?_
    obtain ⟨hk_l0, hf⟩ := gt_of hf
    obtain ⟨x1, s2, hcs2, hf⟩ := bd_of hf
    have hts2 := c_X15_isWord (l := l) (D := D) (cy := cy) (ka := ka) hcs2
    refine v_callV cb_16 hk_l0 (As := [va_rf (some (ka 3))]) (rest := []) hts2 yb_X15_isWord kw_1911 kw_1913 kp_102 rfl ⟨Nat.le_of_ble_eq_true rfl, Nat.le_of_ble_eq_true rfl⟩ rfl (cat_len (Nat.le_of_ble_eq_true rfl)) dX15_one_6 ?_
    have hk_l0 := tk_ hts2.1 hk_l0
    show v_ l D cy ka cX15_one RX15 2 (some FieldType.boolean) "one" 11 239 (qm_ D cy σ0 z (fun r : Int32 => some (.int r)) w) σ0 z _ 9 [(0, va_rf (some l0)), (1, .int l1)] [.int x1]
    refine v_if_eq (tgt := 29) hf dX15_one_9 (by decide) (fun hq hf => ?_) (fun hq hf => ?_)
    · refine v_iload_n (x := l1) dX15_one_29 rfl 1 rfl ?_
      refine v_aload_n (x := (some l0)) dX15_one_30 rfl 0 rfl ?_
      rcases bx_of hf with ⟨x3, s4, hcs4, hf⟩ | ⟨q9, s9, hc9, hf⟩
      rotate_left
      · have ht9 := c_X15_bare (l := l) (D := D) (cy := cy) (ka := ka) hc9
        exact v_callVX cb_16 hk_l0 (As := []) (rest := [.int l1]) ht9 yb_X15_bare kw_2019 kw_2021 kp_123 rfl ⟨Nat.le_of_ble_eq_true rfl, Nat.le_of_ble_eq_true rfl⟩ rfl (cat_len (Nat.le_of_ble_eq_true rfl)) (by decide +kernel) hf dX15_one_31
      have hts4 := c_X15_bare (l := l) (D := D) (cy := cy) (ka := ka) hcs4
      refine v_callV cb_16 hk_l0 (As := []) (rest := [.int l1]) hts4 yb_X15_bare kw_2019 kw_2021 kp_123 rfl ⟨Nat.le_of_ble_eq_true rfl, Nat.le_of_ble_eq_true rfl⟩ rfl (cat_len (Nat.le_of_ble_eq_true rfl)) dX15_one_31 ?_
      have hk_l0 := tk_ hts4.1 hk_l0
      show v_ l D cy ka cX15_one RX15 2 (some FieldType.boolean) "one" 11 239 (qm_ D cy σ0 z (fun r : Int32 => some (.int r)) w) σ0 z _ 34 [(0, va_rf (some l0)), (1, .int l1)] [.int x3, .int l1]
      refine v_icmp_eq (tgt := 41) hf dX15_one_34 (by decide) (fun hq hf => ?_) (fun hq hf => ?_)
      · refine v_iconst (v := 0) dX15_one_41 (by decide) ?_
        refine v_sub [] (L2 := []) rfl ?_
        exact t_X15_one_b42  hf
      · refine v_iconst (v := 1) dX15_one_37 (by decide) ?_
        refine v_goto (tgt := 42) dX15_one_38 (by decide) ?_
        refine v_sub [] (L2 := []) rfl ?_
        exact t_X15_one_b42  hf
    · refine v_iload_n (x := l1) dX15_one_12 rfl 1 rfl ?_
      refine v_if_ne (tgt := 20) hf dX15_one_13 (by decide) (fun hq hf => ?_) (fun hq hf => ?_)
      · refine v_iconst (v := 1) dX15_one_16 (by decide) ?_
        refine v_goto (tgt := 21) dX15_one_17 (by decide) ?_
        refine v_sub [0] (L2 := [(0, va_rf (some l0))]) rfl ?_
        exact t_X15_one_b21 hrec_2 hf
      · refine v_iconst (v := 0) dX15_one_20 (by decide) ?_
        refine v_sub [0] (L2 := [(0, va_rf (some l0))]) rfl ?_
        exact t_X15_one_b21 hrec_2 hf
/-- LivesAheadModel.one()Z -/
def f_X15_one (σ : TH) (p0 : Nat) : Option ((Int32 ⊕ Nat) × TH) :=
  f_X15_one_b2 fu_ σ p0 (0 : Int32)
set_option maxHeartbeats 4000000 in
set_option maxRecDepth 100000 in
theorem c_X15_one {l : Launch} {D : va_G} {cy : Nat → ClassId} {ka : Nat → Nat} {σ z : TH} {p0 : Nat} {w : (Int32 ⊕ Nat)} (hf : f_X15_one σ p0 = some (w, z)) : cm_ l D cy ka yX15_one 11 239 [va_rf (some p0)] σ (fun r : Int32 => some (.int r)) w z := by
  unfold f_X15_one at hf
  refine m_start (rf := (fun r : Int32 => some (.int r))) (w := w) (cc := cX15_one) (own := RX15) (maxL := 2) (ret := (some FieldType.boolean)) (nm := "one") (by decide +kernel) kw_2018 rfl rfl (by simp [lg_sl, va_rf_cat, cat_i, cat_l]) ?_
  refine v_eqL (L2 := [(0, va_rf (some p0))]) (by simp [lv_args, va_rf_cat, cat_i, cat_l]) ?_
  refine v_iconst (v := 0) dX15_one_0 (by decide) ?_
  refine v_istore_n [(1, .int (0 : Int32)), (0, va_rf (some p0))] dX15_one_1 rfl (by decide) rfl ?_
  refine v_sub [1, 0] (L2 := [(0, va_rf (some p0)), (1, .int (0 : Int32))]) rfl ?_
  exact t_X15_one_b2  _ _ _ _ hf
theorem dX15_test_0 : decode cX15_test 0 = .ok (.aload_n 0, 1) := by decide +kernel
theorem dX15_test_1 : decode cX15_test 1 = .ok (.invokevirtual 376, 3) := by decide +kernel
theorem dX15_test_4 : decode cX15_test 4 = .ok (.istore_n 1, 1) := by decide +kernel
theorem dX15_test_5 : decode cX15_test 5 = .ok (.aload_n 0, 1) := by decide +kernel
theorem dX15_test_6 : decode cX15_test 6 = .ok (.ldc_w 379, 3) := by decide +kernel
theorem dX15_test_9 : decode cX15_test 9 = .ok (.invokevirtual 357, 3) := by decide +kernel
theorem dX15_test_12 : decode cX15_test 12 = .ok (.ifCond .eq 39, 3) := by decide +kernel
theorem dX15_test_15 : decode cX15_test 15 = .ok (.aload_n 0, 1) := by decide +kernel
theorem dX15_test_16 : decode cX15_test 16 = .ok (.ldc_w 379, 3) := by decide +kernel
theorem dX15_test_19 : decode cX15_test 19 = .ok (.invokevirtual 357, 3) := by decide +kernel
theorem dX15_test_22 : decode cX15_test 22 = .ok (.ifCond .eq 65, 3) := by decide +kernel
theorem dX15_test_25 : decode cX15_test 25 = .ok (.aload_n 0, 1) := by decide +kernel
theorem dX15_test_26 : decode cX15_test 26 = .ok (.invokevirtual 352, 3) := by decide +kernel
theorem dX15_test_29 : decode cX15_test 29 = .ok (.aload_n 0, 1) := by decide +kernel
theorem dX15_test_30 : decode cX15_test 30 = .ok (.invokevirtual 376, 3) := by decide +kernel
theorem dX15_test_33 : decode cX15_test 33 = .ok (.istore_n 2, 1) := by decide +kernel
theorem dX15_test_34 : decode cX15_test 34 = .ok (.iload_n 1, 1) := by decide +kernel
theorem dX15_test_35 : decode cX15_test 35 = .ok (.ifCond .eq 11, 3) := by decide +kernel
theorem dX15_test_38 : decode cX15_test 38 = .ok (.iload_n 2, 1) := by decide +kernel
theorem dX15_test_39 : decode cX15_test 39 = .ok (.ifCond .eq 7, 3) := by decide +kernel
theorem dX15_test_42 : decode cX15_test 42 = .ok (.iconst 1, 1) := by decide +kernel
theorem dX15_test_43 : decode cX15_test 43 = .ok (.goto 4, 3) := by decide +kernel
theorem dX15_test_46 : decode cX15_test 46 = .ok (.iconst 0, 1) := by decide +kernel
theorem dX15_test_47 : decode cX15_test 47 = .ok (.istore_n 1, 1) := by decide +kernel
theorem dX15_test_48 : decode cX15_test 48 = .ok (.goto (-33), 3) := by decide +kernel
theorem dX15_test_51 : decode cX15_test 51 = .ok (.aload_n 0, 1) := by decide +kernel
theorem dX15_test_52 : decode cX15_test 52 = .ok (.ldc_w 381, 3) := by decide +kernel
theorem dX15_test_55 : decode cX15_test 55 = .ok (.invokevirtual 357, 3) := by decide +kernel
theorem dX15_test_58 : decode cX15_test 58 = .ok (.ifCond .eq 29, 3) := by decide +kernel
theorem dX15_test_61 : decode cX15_test 61 = .ok (.aload_n 0, 1) := by decide +kernel
theorem dX15_test_62 : decode cX15_test 62 = .ok (.invokevirtual 352, 3) := by decide +kernel
theorem dX15_test_65 : decode cX15_test 65 = .ok (.aload_n 0, 1) := by decide +kernel
theorem dX15_test_66 : decode cX15_test 66 = .ok (.invokevirtual 376, 3) := by decide +kernel
theorem dX15_test_69 : decode cX15_test 69 = .ok (.istore_n 2, 1) := by decide +kernel
theorem dX15_test_70 : decode cX15_test 70 = .ok (.iload_n 1, 1) := by decide +kernel
theorem dX15_test_71 : decode cX15_test 71 = .ok (.ifCond .ne 7, 3) := by decide +kernel
theorem dX15_test_74 : decode cX15_test 74 = .ok (.iload_n 2, 1) := by decide +kernel
theorem dX15_test_75 : decode cX15_test 75 = .ok (.ifCond .eq 7, 3) := by decide +kernel
theorem dX15_test_78 : decode cX15_test 78 = .ok (.iconst 1, 1) := by decide +kernel
theorem dX15_test_79 : decode cX15_test 79 = .ok (.goto 4, 3) := by decide +kernel
theorem dX15_test_82 : decode cX15_test 82 = .ok (.iconst 0, 1) := by decide +kernel
theorem dX15_test_83 : decode cX15_test 83 = .ok (.istore_n 1, 1) := by decide +kernel
theorem dX15_test_84 : decode cX15_test 84 = .ok (.goto (-33), 3) := by decide +kernel
theorem dX15_test_87 : decode cX15_test 87 = .ok (.iload_n 1, 1) := by decide +kernel
theorem dX15_test_88 : decode cX15_test 88 = .ok (.ireturn, 1) := by decide +kernel
def f_X15_test_b87 (σ : TH) (l1 : Int32) : Option ((Int32 ⊕ Nat) × TH) :=
  gt_ (l1 = 0 ∨ l1 = 1) <| some (.inl (l1), σ)
set_option maxHeartbeats 4000000 in
set_option maxRecDepth 100000 in
theorem t_X15_test_b87 {l : Launch} {D : va_G} {cy : Nat → ClassId} {ka : Nat → Nat} {σ0 z : TH} {w : (Int32 ⊕ Nat)}  {σ : TH} {l1 : Int32} (hf : f_X15_test_b87 σ l1 = some (w, z)) : v_ l D cy ka cX15_test RX15 3 (some FieldType.boolean) "test" 12 260 (qm_ D cy σ0 z (fun r : Int32 => some (.int r)) w) σ0 z σ 87 [(1, .int l1)] [] := by
  unfold f_X15_test_b87 at hf
  refine v_iload_n (x := l1) dX15_test_87 rfl 0 rfl ?_
  obtain ⟨hb9, hf⟩ := gt_of hf
  exact v_zretM hf (nz_ hb9) dX15_test_88
def f_X15_test_b83 (rec_51 : TH → Nat → Int32 → Option ((Int32 ⊕ Nat) × TH)) (σ : TH) (l0 : Nat) (t0 : Int32) : Option ((Int32 ⊕ Nat) × TH) :=
  rec_51 σ l0 t0
set_option maxHeartbeats 4000000 in
set_option maxRecDepth 100000 in
theorem t_X15_test_b83 {l : Launch} {D : va_G} {cy : Nat → ClassId} {ka : Nat → Nat} {σ0 z : TH} {w : (Int32 ⊕ Nat)} {rec_51 : TH → Nat → Int32 → Option ((Int32 ⊕ Nat) × TH)} (hrec_51 : ∀ (σ : TH) (l0 : Nat) (l1 : Int32), rec_51 σ l0 l1 = some (w, z) → v_ l D cy ka cX15_test RX15 3 (some FieldType.boolean) "test" 12 260 (qm_ D cy σ0 z (fun r : Int32 => some (.int r)) w) σ0 z σ 51 [(0, va_rf (some l0)), (1, .int l1)] []) {σ : TH} {l0 : Nat} {t0 : Int32} (hf : f_X15_test_b83 rec_51 σ l0 t0 = some (w, z)) : v_ l D cy ka cX15_test RX15 3 (some FieldType.boolean) "test" 12 260 (qm_ D cy σ0 z (fun r : Int32 => some (.int r)) w) σ0 z σ 83 [(0, va_rf (some l0))] [.int t0] := by
  unfold f_X15_test_b83 at hf
  refine v_istore_n [(1, .int t0), (0, va_rf (some l0))] dX15_test_83 rfl (by decide) rfl ?_
  refine v_goto (tgt := 51) dX15_test_84 (by decide) ?_
  refine v_sub [1, 0] (L2 := [(0, va_rf (some l0)), (1, .int t0)]) rfl ?_
  exact hrec_51 _ _ _ hf
def f_X15_test_b78 (rec_51 : TH → Nat → Int32 → Option ((Int32 ⊕ Nat) × TH)) (σ : TH) (l0 : Nat) : Option ((Int32 ⊕ Nat) × TH) :=
  f_X15_test_b83 rec_51 σ l0 (1 : Int32)
set_option maxHeartbeats 4000000 in
set_option maxRecDepth 100000 in
theorem t_X15_test_b78 {l : Launch} {D : va_G} {cy : Nat → ClassId} {ka : Nat → Nat} {σ0 z : TH} {w : (Int32 ⊕ Nat)} {rec_51 : TH → Nat → Int32 → Option ((Int32 ⊕ Nat) × TH)} (hrec_51 : ∀ (σ : TH) (l0 : Nat) (l1 : Int32), rec_51 σ l0 l1 = some (w, z) → v_ l D cy ka cX15_test RX15 3 (some FieldType.boolean) "test" 12 260 (qm_ D cy σ0 z (fun r : Int32 => some (.int r)) w) σ0 z σ 51 [(0, va_rf (some l0)), (1, .int l1)] []) {σ : TH} {l0 : Nat} (hf : f_X15_test_b78 rec_51 σ l0 = some (w, z)) : v_ l D cy ka cX15_test RX15 3 (some FieldType.boolean) "test" 12 260 (qm_ D cy σ0 z (fun r : Int32 => some (.int r)) w) σ0 z σ 78 [(0, va_rf (some l0))] [] := by
  unfold f_X15_test_b78 at hf
  refine v_iconst (v := 1) dX15_test_78 (by decide) ?_
  refine v_goto (tgt := 83) dX15_test_79 (by decide) ?_
  refine v_sub [0] (L2 := [(0, va_rf (some l0))]) rfl ?_
  exact t_X15_test_b83 hrec_51 hf
def f_X15_test_b51 : Nat → TH → Nat → Int32 → Option ((Int32 ⊕ Nat) × TH)
  | 0, _, _, _ => none
  | n + 1, σ, l0, l1 => gt_ (kd_ σ l0 = 17) <| bd_ (f_X15_isWord σ l0 1) fun x5 s6 => if x5 = 0 then (f_X15_test_b87 s6 l1) else (bd_ (f_X15_next s6 l0) fun x7 s8 => bx_ (f_X15_one s8 l0) fun x9 s10 => if l1 = 0 then (if x9 = 0 then (f_X15_test_b83 (f_X15_test_b51 n) s10 l0 (0 : Int32)) else (f_X15_test_b78 (f_X15_test_b51 n) s10 l0)) else (f_X15_test_b78 (f_X15_test_b51 n) s10 l0))
set_option maxHeartbeats 4000000 in
set_option maxRecDepth 100000 in
theorem t_X15_test_b51 {l : Launch} {D : va_G} {cy : Nat → ClassId} {ka : Nat → Nat} {σ0 z : TH} {w : (Int32 ⊕ Nat)}  : ∀ (n : Nat) (σ : TH) (l0 : Nat) (l1 : Int32), f_X15_test_b51 n σ l0 l1 = some (w, z) → v_ l D cy ka cX15_test RX15 3 (some FieldType.boolean) "test" 12 260 (qm_ D cy σ0 z (fun r : Int32 => some (.int r)) w) σ0 z σ 51 [(0, va_rf (some l0)), (1, .int l1)] [] := by
  intro n
  induction n with
  | zero => intro σ l0 l1 hf; unfold f_X15_test_b51 at hf; cases hf
  | succ n ih =>
    intro σ l0 l1 hf
    unfold f_X15_test_b51 at hf
    have hrec_51 := ih
    refine v_aload_n (x := (some l0)) dX15_test_51 rfl 0 rfl ?_
    refine v_ldcwS (tx := "or") (n := 1) (by decide) dX15_test_52 ?_
    obtain ⟨hk_l0, hf⟩ := gt_of hf
    obtain ⟨x5, s6, hcs6, hf⟩ := bd_of hf
    have hts6 := c_X15_isWord (l := l) (D := D) (cy := cy) (ka := ka) hcs6
    refine v_callV cb_16 hk_l0 (As := [va_rf (some (ka 1))]) (rest := []) hts6 yb_X15_isWord kw_1911 kw_1913 kp_102 rfl ⟨Nat.le_of_ble_eq_true rfl, Nat.le_of_ble_eq_true rfl⟩ rfl (cat_len (Nat.le_of_ble_eq_true rfl)) dX15_test_55 ?_
    have hk_l0 := tk_ hts6.1 hk_l0
    show v_ l D cy ka cX15_test RX15 3 (some FieldType.boolean) "test" 12 260 (qm_ D cy σ0 z (fun r : Int32 => some (.int r)) w) σ0 z _ 58 [(0, va_rf (some l0)), (1, .int l1)] [.int x5]
    refine v_if_eq (tgt := 87) hf dX15_test_58 (by decide) (fun hq hf => ?_) (fun hq hf => ?_)
    · refine v_sub [1] (L2 := [(1, .int l1)]) rfl ?_
      exact t_X15_test_b87  hf
    · refine v_aload_n (x := (some l0)) dX15_test_61 rfl 0 rfl ?_
      obtain ⟨x7, s8, hcs8, hf⟩ := bd_of hf
      have hts8 := c_X15_next (l := l) (D := D) (cy := cy) (ka := ka) hcs8
      refine v_callV cb_16 hk_l0 (As := []) (rest := []) hts8 yb_X15_next kw_1896 kw_1898 kp_101 rfl ⟨Nat.le_of_ble_eq_true rfl, Nat.le_of_ble_eq_true rfl⟩ rfl (cat_len (Nat.le_of_ble_eq_true rfl)) dX15_test_62 ?_
      have hk_l0 := tk_ hts8.1 hk_l0
      show v_ l D cy ka cX15_test RX15 3 (some FieldType.boolean) "test" 12 260 (qm_ D cy σ0 z (fun r : Int32 => some (.int r)) w) σ0 z _ 65 [(0, va_rf (some l0)), (1, .int l1)] []
      refine v_aload_n (x := (some l0)) dX15_test_65 rfl 0 rfl ?_
      rcases bx_of hf with ⟨x9, s10, hcs10, hf⟩ | ⟨q9, s9, hc9, hf⟩
      rotate_left
      · have ht9 := c_X15_one (l := l) (D := D) (cy := cy) (ka := ka) hc9
        exact v_callVX cb_16 hk_l0 (As := []) (rest := []) ht9 yb_X15_one kw_2015 kw_2017 kp_122 rfl ⟨Nat.le_of_ble_eq_true rfl, Nat.le_of_ble_eq_true rfl⟩ rfl (cat_len (Nat.le_of_ble_eq_true rfl)) (by decide +kernel) hf dX15_test_66
      have hts10 := c_X15_one (l := l) (D := D) (cy := cy) (ka := ka) hcs10
      refine v_callV cb_16 hk_l0 (As := []) (rest := []) hts10 yb_X15_one kw_2015 kw_2017 kp_122 rfl ⟨Nat.le_of_ble_eq_true rfl, Nat.le_of_ble_eq_true rfl⟩ rfl (cat_len (Nat.le_of_ble_eq_true rfl)) dX15_test_66 ?_
      have hk_l0 := tk_ hts10.1 hk_l0
      show v_ l D cy ka cX15_test RX15 3 (some FieldType.boolean) "test" 12 260 (qm_ D cy σ0 z (fun r : Int32 => some (.int r)) w) σ0 z _ 69 [(0, va_rf (some l0)), (1, .int l1)] [.int x9]
      refine v_istore_n [(2, .int x9), (0, va_rf (some l0)), (1, .int l1)] dX15_test_69 rfl (by decide) rfl ?_
      refine v_iload_n (x := l1) dX15_test_70 rfl 2 rfl ?_
      refine v_if_ne (tgt := 78) hf dX15_test_71 (by decide) (fun hq hf => ?_) (fun hq hf => ?_)
      · refine v_iload_n (x := x9) dX15_test_74 rfl 0 rfl ?_
        refine v_if_eq (tgt := 82) hf dX15_test_75 (by decide) (fun hq hf => ?_) (fun hq hf => ?_)
        · refine v_iconst (v := 0) dX15_test_82 (by decide) ?_
          refine v_sub [1] (L2 := [(0, va_rf (some l0))]) rfl ?_
          exact t_X15_test_b83 hrec_51 hf
        · refine v_sub [1] (L2 := [(0, va_rf (some l0))]) rfl ?_
          exact t_X15_test_b78 hrec_51 hf
      · refine v_sub [1] (L2 := [(0, va_rf (some l0))]) rfl ?_
        exact t_X15_test_b78 hrec_51 hf
def f_X15_test_b47 (rec_15 : TH → Nat → Int32 → Option ((Int32 ⊕ Nat) × TH)) (σ : TH) (l0 : Nat) (t0 : Int32) : Option ((Int32 ⊕ Nat) × TH) :=
  rec_15 σ l0 t0
set_option maxHeartbeats 4000000 in
set_option maxRecDepth 100000 in
theorem t_X15_test_b47 {l : Launch} {D : va_G} {cy : Nat → ClassId} {ka : Nat → Nat} {σ0 z : TH} {w : (Int32 ⊕ Nat)} {rec_15 : TH → Nat → Int32 → Option ((Int32 ⊕ Nat) × TH)} (hrec_15 : ∀ (σ : TH) (l0 : Nat) (l1 : Int32), rec_15 σ l0 l1 = some (w, z) → v_ l D cy ka cX15_test RX15 3 (some FieldType.boolean) "test" 12 260 (qm_ D cy σ0 z (fun r : Int32 => some (.int r)) w) σ0 z σ 15 [(0, va_rf (some l0)), (1, .int l1)] []) {σ : TH} {l0 : Nat} {t0 : Int32} (hf : f_X15_test_b47 rec_15 σ l0 t0 = some (w, z)) : v_ l D cy ka cX15_test RX15 3 (some FieldType.boolean) "test" 12 260 (qm_ D cy σ0 z (fun r : Int32 => some (.int r)) w) σ0 z σ 47 [(0, va_rf (some l0))] [.int t0] := by
  unfold f_X15_test_b47 at hf
  refine v_istore_n [(1, .int t0), (0, va_rf (some l0))] dX15_test_47 rfl (by decide) rfl ?_
  refine v_goto (tgt := 15) dX15_test_48 (by decide) ?_
  refine v_sub [1, 0] (L2 := [(0, va_rf (some l0)), (1, .int t0)]) rfl ?_
  exact hrec_15 _ _ _ hf
def f_X15_test_b46 (rec_15 : TH → Nat → Int32 → Option ((Int32 ⊕ Nat) × TH)) (σ : TH) (l0 : Nat) : Option ((Int32 ⊕ Nat) × TH) :=
  f_X15_test_b47 rec_15 σ l0 (0 : Int32)
set_option maxHeartbeats 4000000 in
set_option maxRecDepth 100000 in
theorem t_X15_test_b46 {l : Launch} {D : va_G} {cy : Nat → ClassId} {ka : Nat → Nat} {σ0 z : TH} {w : (Int32 ⊕ Nat)} {rec_15 : TH → Nat → Int32 → Option ((Int32 ⊕ Nat) × TH)} (hrec_15 : ∀ (σ : TH) (l0 : Nat) (l1 : Int32), rec_15 σ l0 l1 = some (w, z) → v_ l D cy ka cX15_test RX15 3 (some FieldType.boolean) "test" 12 260 (qm_ D cy σ0 z (fun r : Int32 => some (.int r)) w) σ0 z σ 15 [(0, va_rf (some l0)), (1, .int l1)] []) {σ : TH} {l0 : Nat} (hf : f_X15_test_b46 rec_15 σ l0 = some (w, z)) : v_ l D cy ka cX15_test RX15 3 (some FieldType.boolean) "test" 12 260 (qm_ D cy σ0 z (fun r : Int32 => some (.int r)) w) σ0 z σ 46 [(0, va_rf (some l0))] [] := by
  unfold f_X15_test_b46 at hf
  refine v_iconst (v := 0) dX15_test_46 (by decide) ?_
  refine v_sub [0] (L2 := [(0, va_rf (some l0))]) rfl ?_
  exact t_X15_test_b47 hrec_15 hf
def f_X15_test_b15 : Nat → TH → Nat → Int32 → Option ((Int32 ⊕ Nat) × TH)
  | 0, _, _, _ => none
  | n + 1, σ, l0, l1 => gt_ (kd_ σ l0 = 17) <| bd_ (f_X15_isWord σ l0 2) fun x11 s12 => if x11 = 0 then (f_X15_test_b87 s12 l1) else (bd_ (f_X15_next s12 l0) fun x13 s14 => bx_ (f_X15_one s14 l0) fun x15 s16 => if l1 = 0 then (f_X15_test_b46 (f_X15_test_b15 n) s16 l0) else (if x15 = 0 then (f_X15_test_b46 (f_X15_test_b15 n) s16 l0) else (f_X15_test_b47 (f_X15_test_b15 n) s16 l0 (1 : Int32))))
set_option maxHeartbeats 4000000 in
set_option maxRecDepth 100000 in
theorem t_X15_test_b15 {l : Launch} {D : va_G} {cy : Nat → ClassId} {ka : Nat → Nat} {σ0 z : TH} {w : (Int32 ⊕ Nat)}  : ∀ (n : Nat) (σ : TH) (l0 : Nat) (l1 : Int32), f_X15_test_b15 n σ l0 l1 = some (w, z) → v_ l D cy ka cX15_test RX15 3 (some FieldType.boolean) "test" 12 260 (qm_ D cy σ0 z (fun r : Int32 => some (.int r)) w) σ0 z σ 15 [(0, va_rf (some l0)), (1, .int l1)] [] := by
  intro n
  induction n with
  | zero => intro σ l0 l1 hf; unfold f_X15_test_b15 at hf; cases hf
  | succ n ih =>
    intro σ l0 l1 hf
    unfold f_X15_test_b15 at hf
    have hrec_15 := ih
    refine v_aload_n (x := (some l0)) dX15_test_15 rfl 0 rfl ?_
    refine v_ldcwS (tx := "and") (n := 2) (by decide) dX15_test_16 ?_
    obtain ⟨hk_l0, hf⟩ := gt_of hf
    obtain ⟨x11, s12, hcs12, hf⟩ := bd_of hf
    have hts12 := c_X15_isWord (l := l) (D := D) (cy := cy) (ka := ka) hcs12
    refine v_callV cb_16 hk_l0 (As := [va_rf (some (ka 2))]) (rest := []) hts12 yb_X15_isWord kw_1911 kw_1913 kp_102 rfl ⟨Nat.le_of_ble_eq_true rfl, Nat.le_of_ble_eq_true rfl⟩ rfl (cat_len (Nat.le_of_ble_eq_true rfl)) dX15_test_19 ?_
    have hk_l0 := tk_ hts12.1 hk_l0
    show v_ l D cy ka cX15_test RX15 3 (some FieldType.boolean) "test" 12 260 (qm_ D cy σ0 z (fun r : Int32 => some (.int r)) w) σ0 z _ 22 [(0, va_rf (some l0)), (1, .int l1)] [.int x11]
    refine v_if_eq (tgt := 87) hf dX15_test_22 (by decide) (fun hq hf => ?_) (fun hq hf => ?_)
    · refine v_sub [1] (L2 := [(1, .int l1)]) rfl ?_
      exact t_X15_test_b87  hf
    · refine v_aload_n (x := (some l0)) dX15_test_25 rfl 0 rfl ?_
      obtain ⟨x13, s14, hcs14, hf⟩ := bd_of hf
      have hts14 := c_X15_next (l := l) (D := D) (cy := cy) (ka := ka) hcs14
      refine v_callV cb_16 hk_l0 (As := []) (rest := []) hts14 yb_X15_next kw_1896 kw_1898 kp_101 rfl ⟨Nat.le_of_ble_eq_true rfl, Nat.le_of_ble_eq_true rfl⟩ rfl (cat_len (Nat.le_of_ble_eq_true rfl)) dX15_test_26 ?_
      have hk_l0 := tk_ hts14.1 hk_l0
      show v_ l D cy ka cX15_test RX15 3 (some FieldType.boolean) "test" 12 260 (qm_ D cy σ0 z (fun r : Int32 => some (.int r)) w) σ0 z _ 29 [(0, va_rf (some l0)), (1, .int l1)] []
      refine v_aload_n (x := (some l0)) dX15_test_29 rfl 0 rfl ?_
      rcases bx_of hf with ⟨x15, s16, hcs16, hf⟩ | ⟨q9, s9, hc9, hf⟩
      rotate_left
      · have ht9 := c_X15_one (l := l) (D := D) (cy := cy) (ka := ka) hc9
        exact v_callVX cb_16 hk_l0 (As := []) (rest := []) ht9 yb_X15_one kw_2015 kw_2017 kp_122 rfl ⟨Nat.le_of_ble_eq_true rfl, Nat.le_of_ble_eq_true rfl⟩ rfl (cat_len (Nat.le_of_ble_eq_true rfl)) (by decide +kernel) hf dX15_test_30
      have hts16 := c_X15_one (l := l) (D := D) (cy := cy) (ka := ka) hcs16
      refine v_callV cb_16 hk_l0 (As := []) (rest := []) hts16 yb_X15_one kw_2015 kw_2017 kp_122 rfl ⟨Nat.le_of_ble_eq_true rfl, Nat.le_of_ble_eq_true rfl⟩ rfl (cat_len (Nat.le_of_ble_eq_true rfl)) dX15_test_30 ?_
      have hk_l0 := tk_ hts16.1 hk_l0
      show v_ l D cy ka cX15_test RX15 3 (some FieldType.boolean) "test" 12 260 (qm_ D cy σ0 z (fun r : Int32 => some (.int r)) w) σ0 z _ 33 [(0, va_rf (some l0)), (1, .int l1)] [.int x15]
      refine v_istore_n [(2, .int x15), (0, va_rf (some l0)), (1, .int l1)] dX15_test_33 rfl (by decide) rfl ?_
      refine v_iload_n (x := l1) dX15_test_34 rfl 2 rfl ?_
      refine v_if_eq (tgt := 46) hf dX15_test_35 (by decide) (fun hq hf => ?_) (fun hq hf => ?_)
      · refine v_sub [1] (L2 := [(0, va_rf (some l0))]) rfl ?_
        exact t_X15_test_b46 hrec_15 hf
      · refine v_iload_n (x := x15) dX15_test_38 rfl 0 rfl ?_
        refine v_if_eq (tgt := 46) hf dX15_test_39 (by decide) (fun hq hf => ?_) (fun hq hf => ?_)
        · refine v_sub [1] (L2 := [(0, va_rf (some l0))]) rfl ?_
          exact t_X15_test_b46 hrec_15 hf
        · refine v_iconst (v := 1) dX15_test_42 (by decide) ?_
          refine v_goto (tgt := 47) dX15_test_43 (by decide) ?_
          refine v_sub [1] (L2 := [(0, va_rf (some l0))]) rfl ?_
          exact t_X15_test_b47 hrec_15 hf
/-- LivesAheadModel.test()Z -/
def f_X15_test (σ : TH) (p0 : Nat) : Option ((Int32 ⊕ Nat) × TH) :=
  gt_ (kd_ σ p0 = 17) <| bx_ (f_X15_one σ p0) fun x1 s2 => bd_ (f_X15_isWord s2 p0 2) fun x3 s4 => if x3 = 0 then (f_X15_test_b51 fu_ s4 p0 x1) else (f_X15_test_b15 fu_ s4 p0 x1)
set_option maxHeartbeats 4000000 in
set_option maxRecDepth 100000 in
theorem c_X15_test {l : Launch} {D : va_G} {cy : Nat → ClassId} {ka : Nat → Nat} {σ z : TH} {p0 : Nat} {w : (Int32 ⊕ Nat)} (hf : f_X15_test σ p0 = some (w, z)) : cm_ l D cy ka yX15_test 12 260 [va_rf (some p0)] σ (fun r : Int32 => some (.int r)) w z := by
  unfold f_X15_test at hf
  refine m_start (rf := (fun r : Int32 => some (.int r))) (w := w) (cc := cX15_test) (own := RX15) (maxL := 3) (ret := (some FieldType.boolean)) (nm := "test") (by decide +kernel) kw_2014 rfl rfl (by simp [lg_sl, va_rf_cat, cat_i, cat_l]) ?_
  refine v_eqL (L2 := [(0, va_rf (some p0))]) (by simp [lv_args, va_rf_cat, cat_i, cat_l]) ?_
  refine v_aload_n (x := (some p0)) dX15_test_0 rfl 0 rfl ?_
  obtain ⟨hk_p0, hf⟩ := gt_of hf
  rcases bx_of hf with ⟨x1, s2, hcs2, hf⟩ | ⟨q9, s9, hc9, hf⟩
  rotate_left
  · have ht9 := c_X15_one (l := l) (D := D) (cy := cy) (ka := ka) hc9
    exact v_callVX cb_16 hk_p0 (As := []) (rest := []) ht9 yb_X15_one kw_2015 kw_2017 kp_122 rfl ⟨Nat.le_of_ble_eq_true rfl, Nat.le_of_ble_eq_true rfl⟩ rfl (cat_len (Nat.le_of_ble_eq_true rfl)) (by decide +kernel) hf dX15_test_1
  have hts2 := c_X15_one (l := l) (D := D) (cy := cy) (ka := ka) hcs2
  refine v_callV cb_16 hk_p0 (As := []) (rest := []) hts2 yb_X15_one kw_2015 kw_2017 kp_122 rfl ⟨Nat.le_of_ble_eq_true rfl, Nat.le_of_ble_eq_true rfl⟩ rfl (cat_len (Nat.le_of_ble_eq_true rfl)) dX15_test_1 ?_
  have hk_p0 := tk_ hts2.1 hk_p0
  show v_ l D cy ka cX15_test RX15 3 (some FieldType.boolean) "test" 12 260 (qm_ D cy σ z (fun r : Int32 => some (.int r)) w) σ z _ 4 [(0, va_rf (some p0))] [.int x1]
  refine v_istore_n [(1, .int x1), (0, va_rf (some p0))] dX15_test_4 rfl (by decide) rfl ?_
  refine v_aload_n (x := (some p0)) dX15_test_5 rfl 1 rfl ?_
  refine v_ldcwS (tx := "and") (n := 2) (by decide) dX15_test_6 ?_
  obtain ⟨x3, s4, hcs4, hf⟩ := bd_of hf
  have hts4 := c_X15_isWord (l := l) (D := D) (cy := cy) (ka := ka) hcs4
  refine v_callV cb_16 hk_p0 (As := [va_rf (some (ka 2))]) (rest := []) hts4 yb_X15_isWord kw_1911 kw_1913 kp_102 rfl ⟨Nat.le_of_ble_eq_true rfl, Nat.le_of_ble_eq_true rfl⟩ rfl (cat_len (Nat.le_of_ble_eq_true rfl)) dX15_test_9 ?_
  have hk_p0 := tk_ hts4.1 hk_p0
  show v_ l D cy ka cX15_test RX15 3 (some FieldType.boolean) "test" 12 260 (qm_ D cy σ z (fun r : Int32 => some (.int r)) w) σ z _ 12 [(1, .int x1), (0, va_rf (some p0))] [.int x3]
  refine v_if_eq (tgt := 51) hf dX15_test_12 (by decide) (fun hq hf => ?_) (fun hq hf => ?_)
  · refine v_sub [1, 0] (L2 := [(0, va_rf (some p0)), (1, .int x1)]) rfl ?_
    exact t_X15_test_b51  _ _ _ _ hf
  · refine v_sub [1, 0] (L2 := [(0, va_rf (some p0)), (1, .int x1)]) rfl ?_
    exact t_X15_test_b15  _ _ _ _ hf
theorem dX15_goesBrace_0 : decode cX15_goesBrace 0 = .ok (.aload_n 0, 1) := by decide +kernel
theorem dX15_goesBrace_1 : decode cX15_goesBrace 1 = .ok (.getfield 289, 3) := by decide +kernel
theorem dX15_goesBrace_4 : decode cX15_goesBrace 4 = .ok (.istore_n 3, 1) := by decide +kernel
theorem dX15_goesBrace_5 : decode cX15_goesBrace 5 = .ok (.aload_n 0, 1) := by decide +kernel
theorem dX15_goesBrace_6 : decode cX15_goesBrace 6 = .ok (.dup, 1) := by decide +kernel
theorem dX15_goesBrace_7 : decode cX15_goesBrace 7 = .ok (.getfield 289, 3) := by decide +kernel
theorem dX15_goesBrace_10 : decode cX15_goesBrace 10 = .ok (.iconst 1, 1) := by decide +kernel
theorem dX15_goesBrace_11 : decode cX15_goesBrace 11 = .ok (.iadd, 1) := by decide +kernel
theorem dX15_goesBrace_12 : decode cX15_goesBrace 12 = .ok (.putfield 289, 3) := by decide +kernel
theorem dX15_goesBrace_15 : decode cX15_goesBrace 15 = .ok (.aload_n 0, 1) := by decide +kernel
theorem dX15_goesBrace_16 : decode cX15_goesBrace 16 = .ok (.invokevirtual 352, 3) := by decide +kernel
theorem dX15_goesBrace_19 : decode cX15_goesBrace 19 = .ok (.aload_n 0, 1) := by decide +kernel
theorem dX15_goesBrace_20 : decode cX15_goesBrace 20 = .ok (.ldc_w 355, 3) := by decide +kernel
theorem dX15_goesBrace_23 : decode cX15_goesBrace 23 = .ok (.invokevirtual 357, 3) := by decide +kernel
theorem dX15_goesBrace_26 : decode cX15_goesBrace 26 = .ok (.ifCond .ne 39, 3) := by decide +kernel
theorem dX15_goesBrace_29 : decode cX15_goesBrace 29 = .ok (.aload_n 0, 1) := by decide +kernel
theorem dX15_goesBrace_30 : decode cX15_goesBrace 30 = .ok (.invokevirtual 361, 3) := by decide +kernel
theorem dX15_goesBrace_33 : decode cX15_goesBrace 33 = .ok (.istore 4, 2) := by decide +kernel
theorem dX15_goesBrace_35 : decode cX15_goesBrace 35 = .ok (.aload_n 0, 1) := by decide +kernel
theorem dX15_goesBrace_36 : decode cX15_goesBrace 36 = .ok (.bipush 125, 2) := by decide +kernel
theorem dX15_goesBrace_38 : decode cX15_goesBrace 38 = .ok (.invokevirtual 364, 3) := by decide +kernel
theorem dX15_goesBrace_41 : decode cX15_goesBrace 41 = .ok (.ifCond .ne 13, 3) := by decide +kernel
theorem dX15_goesBrace_44 : decode cX15_goesBrace 44 = .ok (.aload_n 0, 1) := by decide +kernel
theorem dX15_goesBrace_45 : decode cX15_goesBrace 45 = .ok (.iconst 1, 1) := by decide +kernel
theorem dX15_goesBrace_46 : decode cX15_goesBrace 46 = .ok (.aload_n 0, 1) := by decide +kernel
theorem dX15_goesBrace_47 : decode cX15_goesBrace 47 = .ok (.getfield 295, 3) := by decide +kernel
theorem dX15_goesBrace_50 : decode cX15_goesBrace 50 = .ok (.invokevirtual 342, 3) := by decide +kernel
theorem dX15_goesBrace_53 : decode cX15_goesBrace 53 = .ok (.athrow, 1) := by decide +kernel
theorem dX15_goesBrace_54 : decode cX15_goesBrace 54 = .ok (.iload_n 2, 1) := by decide +kernel
theorem dX15_goesBrace_55 : decode cX15_goesBrace 55 = .ok (.ifCond .eq 9, 3) := by decide +kernel
theorem dX15_goesBrace_58 : decode cX15_goesBrace 58 = .ok (.aload_n 0, 1) := by decide +kernel
theorem dX15_goesBrace_59 : decode cX15_goesBrace 59 = .ok (.iload 4, 2) := by decide +kernel
theorem dX15_goesBrace_61 : decode cX15_goesBrace 61 = .ok (.invokevirtual 367, 3) := by decide +kernel
theorem dX15_goesBrace_64 : decode cX15_goesBrace 64 = .ok (.return_, 1) := by decide +kernel
theorem dX15_goesBrace_65 : decode cX15_goesBrace 65 = .ok (.iload_n 1, 1) := by decide +kernel
theorem dX15_goesBrace_66 : decode cX15_goesBrace 66 = .ok (.iconst 5, 1) := by decide +kernel
theorem dX15_goesBrace_67 : decode cX15_goesBrace 67 = .ok (.if_icmp .ne 10, 3) := by decide +kernel
theorem dX15_goesBrace_70 : decode cX15_goesBrace 70 = .ok (.aload_n 0, 1) := by decide +kernel
theorem dX15_goesBrace_71 : decode cX15_goesBrace 71 = .ok (.iconst 3, 1) := by decide +kernel
theorem dX15_goesBrace_72 : decode cX15_goesBrace 72 = .ok (.iload_n 3, 1) := by decide +kernel
theorem dX15_goesBrace_73 : decode cX15_goesBrace 73 = .ok (.invokevirtual 342, 3) := by decide +kernel
theorem dX15_goesBrace_76 : decode cX15_goesBrace 76 = .ok (.athrow, 1) := by decide +kernel
theorem dX15_goesBrace_77 : decode cX15_goesBrace 77 = .ok (.aload_n 0, 1) := by decide +kernel
theorem dX15_goesBrace_78 : decode cX15_goesBrace 78 = .ok (.invokevirtual 352, 3) := by decide +kernel
theorem dX15_goesBrace_81 : decode cX15_goesBrace 81 = .ok (.aload_n 0, 1) := by decide +kernel
theorem dX15_goesBrace_82 : decode cX15_goesBrace 82 = .ok (.invokevirtual 370, 3) := by decide +kernel
theorem dX15_goesBrace_85 : decode cX15_goesBrace 85 = .ok (.istore 4, 2) := by decide +kernel
theorem dX15_goesBrace_87 : decode cX15_goesBrace 87 = .ok (.aload_n 0, 1) := by decide +kernel
theorem dX15_goesBrace_88 : decode cX15_goesBrace 88 = .ok (.bipush 58, 2) := by decide +kernel
theorem dX15_goesBrace_90 : decode cX15_goesBrace 90 = .ok (.invokevirtual 364, 3) := by decide +kernel
theorem dX15_goesBrace_93 : decode cX15_goesBrace 93 = .ok (.ifCond .ne 13, 3) := by decide +kernel
theorem dX15_goesBrace_96 : decode cX15_goesBrace 96 = .ok (.aload_n 0, 1) := by decide +kernel
theorem dX15_goesBrace_97 : decode cX15_goesBrace 97 = .ok (.iconst 1, 1) := by decide +kernel
theorem dX15_goesBrace_98 : decode cX15_goesBrace 98 = .ok (.aload_n 0, 1) := by decide +kernel
theorem dX15_goesBrace_99 : decode cX15_goesBrace 99 = .ok (.getfield 295, 3) := by decide +kernel
theorem dX15_goesBrace_102 : decode cX15_goesBrace 102 = .ok (.invokevirtual 342, 3) := by decide +kernel
theorem dX15_goesBrace_105 : decode cX15_goesBrace 105 = .ok (.athrow, 1) := by decide +kernel
theorem dX15_goesBrace_106 : decode cX15_goesBrace 106 = .ok (.aload_n 0, 1) := by decide +kernel
theorem dX15_goesBrace_107 : decode cX15_goesBrace 107 = .ok (.iload_n 1, 1) := by decide +kernel
theorem dX15_goesBrace_108 : decode cX15_goesBrace 108 = .ok (.iconst 1, 1) := by decide +kernel
theorem dX15_goesBrace_109 : decode cX15_goesBrace 109 = .ok (.iadd, 1) := by decide +kernel
theorem dX15_goesBrace_110 : decode cX15_goesBrace 110 = .ok (.iload_n 2, 1) := by decide +kernel
theorem dX15_goesBrace_111 : decode cX15_goesBrace 111 = .ok (.ifCond .eq 12, 3) := by decide +kernel
theorem dX15_goesBrace_114 : decode cX15_goesBrace 114 = .ok (.iload 4, 2) := by decide +kernel
theorem dX15_goesBrace_116 : decode cX15_goesBrace 116 = .ok (.ifCond .eq 7, 3) := by decide +kernel
theorem dX15_goesBrace_119 : decode cX15_goesBrace 119 = .ok (.iconst 1, 1) := by decide +kernel
theorem dX15_goesBrace_120 : decode cX15_goesBrace 120 = .ok (.goto 4, 3) := by decide +kernel
theorem dX15_goesBrace_123 : decode cX15_goesBrace 123 = .ok (.iconst 0, 1) := by decide +kernel
theorem dX15_goesBrace_124 : decode cX15_goesBrace 124 = .ok (.invokevirtual 373, 3) := by decide +kernel
theorem dX15_goesBrace_127 : decode cX15_goesBrace 127 = .ok (.aload_n 0, 1) := by decide +kernel
theorem dX15_goesBrace_128 : decode cX15_goesBrace 128 = .ok (.aload_n 0, 1) := by decide +kernel
theorem dX15_goesBrace_129 : decode cX15_goesBrace 129 = .ok (.getfield 289, 3) := by decide +kernel
theorem dX15_goesBrace_132 : decode cX15_goesBrace 132 = .ok (.invokevirtual 292, 3) := by decide +kernel
theorem dX15_goesBrace_135 : decode cX15_goesBrace 135 = .ok (.bipush 124, 2) := by decide +kernel
theorem dX15_goesBrace_137 : decode cX15_goesBrace 137 = .ok (.if_icmp .ne 34, 3) := by decide +kernel
theorem dX15_goesBrace_140 : decode cX15_goesBrace 140 = .ok (.aload_n 0, 1) := by decide +kernel
theorem dX15_goesBrace_141 : decode cX15_goesBrace 141 = .ok (.dup, 1) := by decide +kernel
theorem dX15_goesBrace_142 : decode cX15_goesBrace 142 = .ok (.getfield 289, 3) := by decide +kernel
theorem dX15_goesBrace_145 : decode cX15_goesBrace 145 = .ok (.iconst 1, 1) := by decide +kernel
theorem dX15_goesBrace_146 : decode cX15_goesBrace 146 = .ok (.iadd, 1) := by decide +kernel
theorem dX15_goesBrace_147 : decode cX15_goesBrace 147 = .ok (.putfield 289, 3) := by decide +kernel
theorem dX15_goesBrace_150 : decode cX15_goesBrace 150 = .ok (.aload_n 0, 1) := by decide +kernel
theorem dX15_goesBrace_151 : decode cX15_goesBrace 151 = .ok (.iload_n 1, 1) := by decide +kernel
theorem dX15_goesBrace_152 : decode cX15_goesBrace 152 = .ok (.iconst 1, 1) := by decide +kernel
theorem dX15_goesBrace_153 : decode cX15_goesBrace 153 = .ok (.iadd, 1) := by decide +kernel
theorem dX15_goesBrace_154 : decode cX15_goesBrace 154 = .ok (.iload_n 2, 1) := by decide +kernel
theorem dX15_goesBrace_155 : decode cX15_goesBrace 155 = .ok (.ifCond .eq 12, 3) := by decide +kernel
theorem dX15_goesBrace_158 : decode cX15_goesBrace 158 = .ok (.iload 4, 2) := by decide +kernel
theorem dX15_goesBrace_160 : decode cX15_goesBrace 160 = .ok (.ifCond .ne 7, 3) := by decide +kernel
theorem dX15_goesBrace_163 : decode cX15_goesBrace 163 = .ok (.iconst 1, 1) := by decide +kernel
theorem dX15_goesBrace_164 : decode cX15_goesBrace 164 = .ok (.goto 4, 3) := by decide +kernel
theorem dX15_goesBrace_167 : decode cX15_goesBrace 167 = .ok (.iconst 0, 1) := by decide +kernel
theorem dX15_goesBrace_168 : decode cX15_goesBrace 168 = .ok (.invokevirtual 373, 3) := by decide +kernel
theorem dX15_goesBrace_171 : decode cX15_goesBrace 171 = .ok (.aload_n 0, 1) := by decide +kernel
theorem dX15_goesBrace_172 : decode cX15_goesBrace 172 = .ok (.aload_n 0, 1) := by decide +kernel
theorem dX15_goesBrace_173 : decode cX15_goesBrace 173 = .ok (.getfield 289, 3) := by decide +kernel
theorem dX15_goesBrace_176 : decode cX15_goesBrace 176 = .ok (.invokevirtual 292, 3) := by decide +kernel
theorem dX15_goesBrace_179 : decode cX15_goesBrace 179 = .ok (.bipush 125, 2) := by decide +kernel
theorem dX15_goesBrace_181 : decode cX15_goesBrace 181 = .ok (.if_icmp .eq 13, 3) := by decide +kernel
theorem dX15_goesBrace_184 : decode cX15_goesBrace 184 = .ok (.aload_n 0, 1) := by decide +kernel
theorem dX15_goesBrace_185 : decode cX15_goesBrace 185 = .ok (.iconst 1, 1) := by decide +kernel
theorem dX15_goesBrace_186 : decode cX15_goesBrace 186 = .ok (.aload_n 0, 1) := by decide +kernel
theorem dX15_goesBrace_187 : decode cX15_goesBrace 187 = .ok (.getfield 289, 3) := by decide +kernel
theorem dX15_goesBrace_190 : decode cX15_goesBrace 190 = .ok (.invokevirtual 342, 3) := by decide +kernel
theorem dX15_goesBrace_193 : decode cX15_goesBrace 193 = .ok (.athrow, 1) := by decide +kernel
theorem dX15_goesBrace_194 : decode cX15_goesBrace 194 = .ok (.aload_n 0, 1) := by decide +kernel
theorem dX15_goesBrace_195 : decode cX15_goesBrace 195 = .ok (.dup, 1) := by decide +kernel
theorem dX15_goesBrace_196 : decode cX15_goesBrace 196 = .ok (.getfield 289, 3) := by decide +kernel
theorem dX15_goesBrace_199 : decode cX15_goesBrace 199 = .ok (.iconst 1, 1) := by decide +kernel
theorem dX15_goesBrace_200 : decode cX15_goesBrace 200 = .ok (.iadd, 1) := by decide +kernel
theorem dX15_goesBrace_201 : decode cX15_goesBrace 201 = .ok (.putfield 289, 3) := by decide +kernel
theorem dX15_goesBrace_204 : decode cX15_goesBrace 204 = .ok (.return_, 1) := by decide +kernel
def f_X15_goesBrace_b64 (slf : TH → Nat → Int32 → Int32 → Option ((Unit ⊕ Nat) × TH)) (σ : TH) : Option ((Unit ⊕ Nat) × TH) :=
  some (.inl (), σ)
set_option maxHeartbeats 4000000 in
set_option maxRecDepth 100000 in
theorem t_X15_goesBrace_b64 {l : Launch} {D : va_G} {cy : Nat → ClassId} {ka : Nat → Nat} {σ0 z : TH} {w : (Unit ⊕ Nat)} {slf : TH → Nat → Int32 → Int32 → Option ((Unit ⊕ Nat) × TH)} {fr lo fr2 lo2 : Nat} (hfl : 13 ≤ fr ∧ 282 ≤ lo ∧ fr2 + 1 ≤ fr ∧ 23 + lo2 ≤ lo) (hslf : ∀ (σ : TH) (q0 : Nat) (q1 : Int32) (q2 : Int32) (w : Unit ⊕ Nat) (z : TH), slf σ q0 q1 q2 = some (w, z) → cm_ l D cy ka yX15_goesText fr2 lo2 [va_rf (some q0), .int q1, .int q2] σ (fun _ : Unit => none) w z)  {σ : TH}  (hf : f_X15_goesBrace_b64 slf σ  = some (w, z)) : v_ l D cy ka cX15_goesBrace RX15 5 none "goesBrace" fr lo (qm_ D cy σ0 z (fun _ : Unit => none) w) σ0 z σ 64 [] [] := by
  unfold f_X15_goesBrace_b64 at hf
  exact v_vretM hf dX15_goesBrace_64
def f_X15_goesBrace_b171 (slf : TH → Nat → Int32 → Int32 → Option ((Unit ⊕ Nat) × TH)) (σ : TH) (l0 : Nat) : Option ((Unit ⊕ Nat) × TH) :=
  gt_ (kd_ σ l0 = 17) <| lt_ (fi_ σ 1632 l0) fun x42 => bd_ (f_X15_byteAt σ l0 x42) fun x43 s44 => if x43 = (125 : Int32) then (lt_ (fi_ s44 1632 l0) fun x45 => lt_ (si_ s44 1632 l0 (x45 + (1 : Int32))) fun s46 => some (.inl (), s46)) else (lt_ (fi_ s44 1632 l0) fun x47 => bd_ (f_X15_stop s44 l0 (1 : Int32) x47) fun r48 s49 => nn_ r48 fun a50 => gt_ (kd_ s49 a50 = 16) <| some (.inr a50, s49))
set_option maxHeartbeats 4000000 in
set_option maxRecDepth 100000 in
theorem t_X15_goesBrace_b171 {l : Launch} {D : va_G} {cy : Nat → ClassId} {ka : Nat → Nat} {σ0 z : TH} {w : (Unit ⊕ Nat)} {slf : TH → Nat → Int32 → Int32 → Option ((Unit ⊕ Nat) × TH)} {fr lo fr2 lo2 : Nat} (hfl : 13 ≤ fr ∧ 282 ≤ lo ∧ fr2 + 1 ≤ fr ∧ 23 + lo2 ≤ lo) (hslf : ∀ (σ : TH) (q0 : Nat) (q1 : Int32) (q2 : Int32) (w : Unit ⊕ Nat) (z : TH), slf σ q0 q1 q2 = some (w, z) → cm_ l D cy ka yX15_goesText fr2 lo2 [va_rf (some q0), .int q1, .int q2] σ (fun _ : Unit => none) w z)  {σ : TH} {l0 : Nat} (hf : f_X15_goesBrace_b171 slf σ l0 = some (w, z)) : v_ l D cy ka cX15_goesBrace RX15 5 none "goesBrace" fr lo (qm_ D cy σ0 z (fun _ : Unit => none) w) σ0 z σ 171 [(0, va_rf (some l0))] [] := by
  unfold f_X15_goesBrace_b171 at hf
  refine v_aload_n (x := (some l0)) dX15_goesBrace_171 rfl 0 rfl ?_
  refine v_aload_n (x := (some l0)) dX15_goesBrace_172 rfl 0 rfl ?_
  obtain ⟨hk_l0, hf⟩ := gt_of hf
  refine v_geti cb_16 hk_l0 32 1632 rfl (by decide) rfl (lk_n kw_1489 rfl) hf dX15_goesBrace_173 (fun x42 hf => ?_)
  obtain ⟨x43, s44, hcs44, hf⟩ := bd_of hf
  have hts44 := c_X15_byteAt (l := l) (D := D) (cy := cy) (ka := ka) hcs44
  refine v_callV cb_16 hk_l0 (As := [.int x42]) (rest := []) hts44 yb_X15_byteAt kw_1881 kw_1883 kp_98 rfl ⟨by omega, by omega⟩ rfl (cat_len (Nat.le_of_ble_eq_true rfl)) dX15_goesBrace_176 ?_
  have hk_l0 := tk_ hts44.1 hk_l0
  show v_ l D cy ka cX15_goesBrace RX15 5 none "goesBrace" fr lo (qm_ D cy σ0 z (fun _ : Unit => none) w) σ0 z _ 179 [(0, va_rf (some l0))] [.int x43]
  refine v_bipush (v := 125) dX15_goesBrace_179 (by decide) ?_
  refine v_icmp_eq (tgt := 194) hf dX15_goesBrace_181 (by decide) (fun hq hf => ?_) (fun hq hf => ?_)
  · refine v_aload_n (x := (some l0)) dX15_goesBrace_194 rfl 0 rfl ?_
    refine v_dup dX15_goesBrace_195 (va_rf_cat _) ?_
    refine v_geti cb_16 hk_l0 32 1632 rfl (by decide) rfl (lk_n kw_1489 rfl) hf dX15_goesBrace_196 (fun x45 hf => ?_)
    refine v_iconst (v := 1) dX15_goesBrace_199 (by decide) ?_
    refine v_iadd dX15_goesBrace_200 ?_
    refine v_puti2 cb_16 hk_l0 32 1632 rfl (by decide) rfl (lk_n kw_1489 rfl) (Or.inl rfl) rfl rfl hf dX15_goesBrace_201 (fun s46 hts46 hf => ?_)
    have hk_l0 := tk_ hts46 hk_l0
    exact v_vretM hf dX15_goesBrace_204
  · refine v_aload_n (x := (some l0)) dX15_goesBrace_184 rfl 0 rfl ?_
    refine v_iconst (v := 1) dX15_goesBrace_185 (by decide) ?_
    refine v_aload_n (x := (some l0)) dX15_goesBrace_186 rfl 0 rfl ?_
    refine v_geti cb_16 hk_l0 32 1632 rfl (by decide) rfl (lk_n kw_1489 rfl) hf dX15_goesBrace_187 (fun x47 hf => ?_)
    obtain ⟨r48, s49, hcs49, hf⟩ := bd_of hf
    have hts49 := c_X15_stop (l := l) (D := D) (cy := cy) (ka := ka) hcs49
    refine v_callV cb_16 hk_l0 (As := [.int (1 : Int32), .int x47]) (rest := []) hts49 yb_X15_stop kw_1888 kw_1890 kp_99 rfl ⟨by omega, by omega⟩ rfl (cat_len (Nat.le_of_ble_eq_true rfl)) dX15_goesBrace_190 ?_
    have hk_l0 := tk_ hts49.1 hk_l0
    show v_ l D cy ka cX15_goesBrace RX15 5 none "goesBrace" fr lo (qm_ D cy σ0 z (fun _ : Unit => none) w) σ0 z _ 193 [(0, va_rf (some l0))] [va_rf r48]
    obtain ⟨a50, rfl, hf⟩ := nn_of hf
    obtain ⟨hk_a50, hf⟩ := gt_of hf
    exact v_athrow hk_a50 (by decide +kernel) hf dX15_goesBrace_193
def f_X15_goesBrace_b168 (slf : TH → Nat → Int32 → Int32 → Option ((Unit ⊕ Nat) × TH)) (σ : TH) (l0 : Nat) (t0 : Int32) (t1 : Int32) (t2 : Option Nat) : Option ((Unit ⊕ Nat) × TH) :=
  nn_ t2 fun a39 => gt_ (kd_ σ a39 = 17) <| bx_ (slf σ a39 t1 t0) fun x40 s41 => f_X15_goesBrace_b171 slf s41 l0
set_option maxHeartbeats 4000000 in
set_option maxRecDepth 100000 in
theorem t_X15_goesBrace_b168 {l : Launch} {D : va_G} {cy : Nat → ClassId} {ka : Nat → Nat} {σ0 z : TH} {w : (Unit ⊕ Nat)} {slf : TH → Nat → Int32 → Int32 → Option ((Unit ⊕ Nat) × TH)} {fr lo fr2 lo2 : Nat} (hfl : 13 ≤ fr ∧ 282 ≤ lo ∧ fr2 + 1 ≤ fr ∧ 23 + lo2 ≤ lo) (hslf : ∀ (σ : TH) (q0 : Nat) (q1 : Int32) (q2 : Int32) (w : Unit ⊕ Nat) (z : TH), slf σ q0 q1 q2 = some (w, z) → cm_ l D cy ka yX15_goesText fr2 lo2 [va_rf (some q0), .int q1, .int q2] σ (fun _ : Unit => none) w z)  {σ : TH} {l0 : Nat} {t0 : Int32} {t1 : Int32} {t2 : Option Nat} (hf : f_X15_goesBrace_b168 slf σ l0 t0 t1 t2 = some (w, z)) : v_ l D cy ka cX15_goesBrace RX15 5 none "goesBrace" fr lo (qm_ D cy σ0 z (fun _ : Unit => none) w) σ0 z σ 168 [(0, va_rf (some l0))] [.int t0, .int t1, va_rf t2] := by
  unfold f_X15_goesBrace_b168 at hf
  obtain ⟨a39, rfl, hf⟩ := nn_of hf
  obtain ⟨hk_a39, hf⟩ := gt_of hf
  rcases bx_of hf with ⟨x40, s41, hcs41, hf⟩ | ⟨q9, s9, hc9, hf⟩
  rotate_left
  · have ht9 := hslf σ a39 t1 t0 _ _ hc9
    exact v_callVX cb_16 hk_a39 (As := [.int t1, .int t0]) (rest := []) ht9 yb_X15_goesText kw_1877 kw_1879 kp_97 rfl ⟨by omega, by omega⟩ rfl (cat_len (Nat.le_of_ble_eq_true rfl)) (by decide +kernel) hf dX15_goesBrace_168
  have hts41 := hslf σ a39 t1 t0 _ _ hcs41
  refine v_callV cb_16 hk_a39 (As := [.int t1, .int t0]) (rest := []) hts41 yb_X15_goesText kw_1877 kw_1879 kp_97 rfl ⟨by omega, by omega⟩ rfl (cat_len (Nat.le_of_ble_eq_true rfl)) dX15_goesBrace_168 ?_
  show v_ l D cy ka cX15_goesBrace RX15 5 none "goesBrace" fr lo (qm_ D cy σ0 z (fun _ : Unit => none) w) σ0 z _ 171 [(0, va_rf (some l0))] []
  refine v_sub [0] (L2 := [(0, va_rf (some l0))]) rfl ?_
  exact t_X15_goesBrace_b171 hfl hslf  hf
def f_X15_goesBrace_b167 (slf : TH → Nat → Int32 → Int32 → Option ((Unit ⊕ Nat) × TH)) (σ : TH) (l0 : Nat) (t0 : Int32) (t1 : Option Nat) : Option ((Unit ⊕ Nat) × TH) :=
  f_X15_goesBrace_b168 slf σ l0 (0 : Int32) t0 t1
set_option maxHeartbeats 4000000 in
set_option maxRecDepth 100000 in
theorem t_X15_goesBrace_b167 {l : Launch} {D : va_G} {cy : Nat → ClassId} {ka : Nat → Nat} {σ0 z : TH} {w : (Unit ⊕ Nat)} {slf : TH → Nat → Int32 → Int32 → Option ((Unit ⊕ Nat) × TH)} {fr lo fr2 lo2 : Nat} (hfl : 13 ≤ fr ∧ 282 ≤ lo ∧ fr2 + 1 ≤ fr ∧ 23 + lo2 ≤ lo) (hslf : ∀ (σ : TH) (q0 : Nat) (q1 : Int32) (q2 : Int32) (w : Unit ⊕ Nat) (z : TH), slf σ q0 q1 q2 = some (w, z) → cm_ l D cy ka yX15_goesText fr2 lo2 [va_rf (some q0), .int q1, .int q2] σ (fun _ : Unit => none) w z)  {σ : TH} {l0 : Nat} {t0 : Int32} {t1 : Option Nat} (hf : f_X15_goesBrace_b167 slf σ l0 t0 t1 = some (w, z)) : v_ l D cy ka cX15_goesBrace RX15 5 none "goesBrace" fr lo (qm_ D cy σ0 z (fun _ : Unit => none) w) σ0 z σ 167 [(0, va_rf (some l0))] [.int t0, va_rf t1] := by
  unfold f_X15_goesBrace_b167 at hf
  refine v_iconst (v := 0) dX15_goesBrace_167 (by decide) ?_
  refine v_sub [0] (L2 := [(0, va_rf (some l0))]) rfl ?_
  exact t_X15_goesBrace_b168 hfl hslf  hf
def f_X15_goesBrace_b124 (slf : TH → Nat → Int32 → Int32 → Option ((Unit ⊕ Nat) × TH)) (σ : TH) (l0 : Nat) (l1 : Int32) (l2 : Int32) (l4 : Int32) (t0 : Int32) (t1 : Int32) (t2 : Option Nat) : Option ((Unit ⊕ Nat) × TH) :=
  nn_ t2 fun a31 => gt_ (kd_ σ a31 = 17) <| bx_ (slf σ a31 t1 t0) fun x32 s33 => gt_ (kd_ s33 l0 = 17) <| lt_ (fi_ s33 1632 l0) fun x34 => bd_ (f_X15_byteAt s33 l0 x34) fun x35 s36 => if x35 = (124 : Int32) then (lt_ (fi_ s36 1632 l0) fun x37 => lt_ (si_ s36 1632 l0 (x37 + (1 : Int32))) fun s38 => if l2 = 0 then (f_X15_goesBrace_b167 slf s38 l0 (l1 + (1 : Int32)) (some l0)) else (if l4 = 0 then (f_X15_goesBrace_b168 slf s38 l0 (1 : Int32) (l1 + (1 : Int32)) (some l0)) else (f_X15_goesBrace_b167 slf s38 l0 (l1 + (1 : Int32)) (some l0)))) else (f_X15_goesBrace_b171 slf s36 l0)
set_option maxHeartbeats 4000000 in
set_option maxRecDepth 100000 in
theorem t_X15_goesBrace_b124 {l : Launch} {D : va_G} {cy : Nat → ClassId} {ka : Nat → Nat} {σ0 z : TH} {w : (Unit ⊕ Nat)} {slf : TH → Nat → Int32 → Int32 → Option ((Unit ⊕ Nat) × TH)} {fr lo fr2 lo2 : Nat} (hfl : 13 ≤ fr ∧ 282 ≤ lo ∧ fr2 + 1 ≤ fr ∧ 23 + lo2 ≤ lo) (hslf : ∀ (σ : TH) (q0 : Nat) (q1 : Int32) (q2 : Int32) (w : Unit ⊕ Nat) (z : TH), slf σ q0 q1 q2 = some (w, z) → cm_ l D cy ka yX15_goesText fr2 lo2 [va_rf (some q0), .int q1, .int q2] σ (fun _ : Unit => none) w z)  {σ : TH} {l0 : Nat} {l1 : Int32} {l2 : Int32} {l4 : Int32} {t0 : Int32} {t1 : Int32} {t2 : Option Nat} (hf : f_X15_goesBrace_b124 slf σ l0 l1 l2 l4 t0 t1 t2 = some (w, z)) : v_ l D cy ka cX15_goesBrace RX15 5 none "goesBrace" fr lo (qm_ D cy σ0 z (fun _ : Unit => none) w) σ0 z σ 124 [(0, va_rf (some l0)), (1, .int l1), (2, .int l2), (4, .int l4)] [.int t0, .int t1, va_rf t2] := by
  unfold f_X15_goesBrace_b124 at hf
  obtain ⟨a31, rfl, hf⟩ := nn_of hf
  obtain ⟨hk_a31, hf⟩ := gt_of hf
  rcases bx_of hf with ⟨x32, s33, hcs33, hf⟩ | ⟨q9, s9, hc9, hf⟩
  rotate_left
  · have ht9 := hslf σ a31 t1 t0 _ _ hc9
    exact v_callVX cb_16 hk_a31 (As := [.int t1, .int t0]) (rest := []) ht9 yb_X15_goesText kw_1877 kw_1879 kp_97 rfl ⟨by omega, by omega⟩ rfl (cat_len (Nat.le_of_ble_eq_true rfl)) (by decide +kernel) hf dX15_goesBrace_124
  have hts33 := hslf σ a31 t1 t0 _ _ hcs33
  refine v_callV cb_16 hk_a31 (As := [.int t1, .int t0]) (rest := []) hts33 yb_X15_goesText kw_1877 kw_1879 kp_97 rfl ⟨by omega, by omega⟩ rfl (cat_len (Nat.le_of_ble_eq_true rfl)) dX15_goesBrace_124 ?_
  show v_ l D cy ka cX15_goesBrace RX15 5 none "goesBrace" fr lo (qm_ D cy σ0 z (fun _ : Unit => none) w) σ0 z _ 127 [(0, va_rf (some l0)), (1, .int l1), (2, .int l2), (4, .int l4)] []
  refine v_aload_n (x := (some l0)) dX15_goesBrace_127 rfl 0 rfl ?_
  refine v_aload_n (x := (some l0)) dX15_goesBrace_128 rfl 0 rfl ?_
  obtain ⟨hk_l0, hf⟩ := gt_of hf
  refine v_geti cb_16 hk_l0 32 1632 rfl (by decide) rfl (lk_n kw_1489 rfl) hf dX15_goesBrace_129 (fun x34 hf => ?_)
  obtain ⟨x35, s36, hcs36, hf⟩ := bd_of hf
  have hts36 := c_X15_byteAt (l := l) (D := D) (cy := cy) (ka := ka) hcs36
  refine v_callV cb_16 hk_l0 (As := [.int x34]) (rest := []) hts36 yb_X15_byteAt kw_1881 kw_1883 kp_98 rfl ⟨by omega, by omega⟩ rfl (cat_len (Nat.le_of_ble_eq_true rfl)) dX15_goesBrace_132 ?_
  have hk_l0 := tk_ hts36.1 hk_l0
  show v_ l D cy ka cX15_goesBrace RX15 5 none "goesBrace" fr lo (qm_ D cy σ0 z (fun _ : Unit => none) w) σ0 z _ 135 [(0, va_rf (some l0)), (1, .int l1), (2, .int l2), (4, .int l4)] [.int x35]
  refine v_bipush (v := 124) dX15_goesBrace_135 (by decide) ?_
  refine v_icmp_ne (tgt := 171) hf dX15_goesBrace_137 (by decide) (fun hq hf => ?_) (fun hq hf => ?_)
  · refine v_aload_n (x := (some l0)) dX15_goesBrace_140 rfl 0 rfl ?_
    refine v_dup dX15_goesBrace_141 (va_rf_cat _) ?_
    refine v_geti cb_16 hk_l0 32 1632 rfl (by decide) rfl (lk_n kw_1489 rfl) hf dX15_goesBrace_142 (fun x37 hf => ?_)
    refine v_iconst (v := 1) dX15_goesBrace_145 (by decide) ?_
    refine v_iadd dX15_goesBrace_146 ?_
    refine v_puti2 cb_16 hk_l0 32 1632 rfl (by decide) rfl (lk_n kw_1489 rfl) (Or.inl rfl) rfl rfl hf dX15_goesBrace_147 (fun s38 hts38 hf => ?_)
    have hk_l0 := tk_ hts38 hk_l0
    refine v_aload_n (x := (some l0)) dX15_goesBrace_150 rfl 0 rfl ?_
    refine v_iload_n (x := l1) dX15_goesBrace_151 rfl 1 rfl ?_
    refine v_iconst (v := 1) dX15_goesBrace_152 (by decide) ?_
    refine v_iadd dX15_goesBrace_153 ?_
    refine v_iload_n (x := l2) dX15_goesBrace_154 rfl 2 rfl ?_
    refine v_if_eq (tgt := 167) hf dX15_goesBrace_155 (by decide) (fun hq hf => ?_) (fun hq hf => ?_)
    · refine v_sub [0] (L2 := [(0, va_rf (some l0))]) rfl ?_
      exact t_X15_goesBrace_b167 hfl hslf  hf
    · refine v_iload (x := l4) dX15_goesBrace_158 3 rfl ?_
      refine v_if_ne (tgt := 167) hf dX15_goesBrace_160 (by decide) (fun hq hf => ?_) (fun hq hf => ?_)
      · refine v_iconst (v := 1) dX15_goesBrace_163 (by decide) ?_
        refine v_goto (tgt := 168) dX15_goesBrace_164 (by decide) ?_
        refine v_sub [0] (L2 := [(0, va_rf (some l0))]) rfl ?_
        exact t_X15_goesBrace_b168 hfl hslf  hf
      · refine v_sub [0] (L2 := [(0, va_rf (some l0))]) rfl ?_
        exact t_X15_goesBrace_b167 hfl hslf  hf
  · refine v_sub [0] (L2 := [(0, va_rf (some l0))]) rfl ?_
    exact t_X15_goesBrace_b171 hfl hslf  hf
def f_X15_goesBrace_b123 (slf : TH → Nat → Int32 → Int32 → Option ((Unit ⊕ Nat) × TH)) (σ : TH) (l0 : Nat) (l1 : Int32) (l2 : Int32) (l4 : Int32) (t0 : Int32) (t1 : Option Nat) : Option ((Unit ⊕ Nat) × TH) :=
  f_X15_goesBrace_b124 slf σ l0 l1 l2 l4 (0 : Int32) t0 t1
set_option maxHeartbeats 4000000 in
set_option maxRecDepth 100000 in
theorem t_X15_goesBrace_b123 {l : Launch} {D : va_G} {cy : Nat → ClassId} {ka : Nat → Nat} {σ0 z : TH} {w : (Unit ⊕ Nat)} {slf : TH → Nat → Int32 → Int32 → Option ((Unit ⊕ Nat) × TH)} {fr lo fr2 lo2 : Nat} (hfl : 13 ≤ fr ∧ 282 ≤ lo ∧ fr2 + 1 ≤ fr ∧ 23 + lo2 ≤ lo) (hslf : ∀ (σ : TH) (q0 : Nat) (q1 : Int32) (q2 : Int32) (w : Unit ⊕ Nat) (z : TH), slf σ q0 q1 q2 = some (w, z) → cm_ l D cy ka yX15_goesText fr2 lo2 [va_rf (some q0), .int q1, .int q2] σ (fun _ : Unit => none) w z)  {σ : TH} {l0 : Nat} {l1 : Int32} {l2 : Int32} {l4 : Int32} {t0 : Int32} {t1 : Option Nat} (hf : f_X15_goesBrace_b123 slf σ l0 l1 l2 l4 t0 t1 = some (w, z)) : v_ l D cy ka cX15_goesBrace RX15 5 none "goesBrace" fr lo (qm_ D cy σ0 z (fun _ : Unit => none) w) σ0 z σ 123 [(0, va_rf (some l0)), (1, .int l1), (2, .int l2), (4, .int l4)] [.int t0, va_rf t1] := by
  unfold f_X15_goesBrace_b123 at hf
  refine v_iconst (v := 0) dX15_goesBrace_123 (by decide) ?_
  refine v_sub [0, 1, 2, 3] (L2 := [(0, va_rf (some l0)), (1, .int l1), (2, .int l2), (4, .int l4)]) rfl ?_
  exact t_X15_goesBrace_b124 hfl hslf  hf
/-- LivesAheadModel.goesBrace(IZ)V: its body, over itself -/
def g_X15_goesBrace (slf : TH → Nat → Int32 → Int32 → Option ((Unit ⊕ Nat) × TH)) (σ : TH) (p0 : Nat) (p1 : Int32) (p2 : Int32) : Option ((Unit ⊕ Nat) × TH) :=
  gt_ (kd_ σ p0 = 17) <| lt_ (fi_ σ 1632 p0) fun x1 => lt_ (fi_ σ 1632 p0) fun x2 => lt_ (si_ σ 1632 p0 (x2 + (1 : Int32))) fun s3 => bd_ (f_X15_next s3 p0) fun x4 s5 => bd_ (f_X15_isWord s5 p0 0) fun x6 s7 => if x6 = 0 then (bx_ (f_X15_sum s7 p0) fun x8 s9 => bd_ (f_X15_is s9 p0 (125 : Int32)) fun x10 s11 => if x10 = 0 then (lt_ (fi_ s11 1634 p0) fun x12 => bd_ (f_X15_stop s11 p0 (1 : Int32) x12) fun r13 s14 => nn_ r13 fun a15 => gt_ (kd_ s14 a15 = 16) <| some (.inr a15, s14)) else (if p2 = 0 then (f_X15_goesBrace_b64 slf s11 ) else (bd_ (f_X15_printsNumber s11 p0 x8) fun x16 s17 => f_X15_goesBrace_b64 slf s17 ))) else (if p1 = (5 : Int32) then (bd_ (f_X15_stop s7 p0 (3 : Int32) x1) fun r18 s19 => nn_ r18 fun a20 => gt_ (kd_ s19 a20 = 16) <| some (.inr a20, s19)) else (bd_ (f_X15_next s7 p0) fun x21 s22 => bx_ (f_X15_test s22 p0) fun x23 s24 => bd_ (f_X15_is s24 p0 (58 : Int32)) fun x25 s26 => if x25 = 0 then (lt_ (fi_ s26 1634 p0) fun x27 => bd_ (f_X15_stop s26 p0 (1 : Int32) x27) fun r28 s29 => nn_ r28 fun a30 => gt_ (kd_ s29 a30 = 16) <| some (.inr a30, s29)) else (if p2 = 0 then (f_X15_goesBrace_b123 slf s26 p0 p1 p2 x23 (p1 + (1 : Int32)) (some p0)) else (if x23 = 0 then (f_X15_goesBrace_b123 slf s26 p0 p1 p2 x23 (p1 + (1 : Int32)) (some p0)) else (f_X15_goesBrace_b124 slf s26 p0 p1 p2 x23 (1 : Int32) (p1 + (1 : Int32)) (some p0))))))
set_option maxHeartbeats 4000000 in
set_option maxRecDepth 100000 in
theorem e_X15_goesBrace {l : Launch} {D : va_G} {cy : Nat → ClassId} {ka : Nat → Nat} {σ z : TH} {p0 : Nat} {p1 : Int32} {p2 : Int32} {w : (Unit ⊕ Nat)} {slf : TH → Nat → Int32 → Int32 → Option ((Unit ⊕ Nat) × TH)} {fr lo fr2 lo2 : Nat} (hfl : 13 ≤ fr ∧ 282 ≤ lo ∧ fr2 + 1 ≤ fr ∧ 23 + lo2 ≤ lo) (hslf : ∀ (σ : TH) (q0 : Nat) (q1 : Int32) (q2 : Int32) (w : Unit ⊕ Nat) (z : TH), slf σ q0 q1 q2 = some (w, z) → cm_ l D cy ka yX15_goesText fr2 lo2 [va_rf (some q0), .int q1, .int q2] σ (fun _ : Unit => none) w z) (hf : g_X15_goesBrace slf σ p0 p1 p2 = some (w, z)) : cm_ l D cy ka yX15_goesBrace fr lo [va_rf (some p0), .int p1, .int p2] σ (fun _ : Unit => none) w z := by
  unfold g_X15_goesBrace at hf
  refine m_start (rf := (fun _ : Unit => none)) (w := w) (cc := cX15_goesBrace) (own := RX15) (maxL := 5) (ret := none) (nm := "goesBrace") (by decide +kernel) kw_1895 rfl rfl (by simp [lg_sl, va_rf_cat, cat_i, cat_l]) ?_
  refine v_eqL (L2 := [(0, va_rf (some p0)), (1, .int p1), (2, .int p2)]) (by simp [lv_args, va_rf_cat, cat_i, cat_l]) ?_
  refine v_aload_n (x := (some p0)) dX15_goesBrace_0 rfl 0 rfl ?_
  obtain ⟨hk_p0, hf⟩ := gt_of hf
  refine v_geti cb_16 hk_p0 32 1632 rfl (by decide) rfl (lk_n kw_1489 rfl) hf dX15_goesBrace_1 (fun x1 hf => ?_)
  refine v_istore_n [(3, .int x1), (0, va_rf (some p0)), (1, .int p1), (2, .int p2)] dX15_goesBrace_4 rfl (by decide) rfl ?_
  refine v_aload_n (x := (some p0)) dX15_goesBrace_5 rfl 1 rfl ?_
  refine v_dup dX15_goesBrace_6 (va_rf_cat _) ?_
  refine v_geti cb_16 hk_p0 32 1632 rfl (by decide) rfl (lk_n kw_1489 rfl) hf dX15_goesBrace_7 (fun x2 hf => ?_)
  refine v_iconst (v := 1) dX15_goesBrace_10 (by decide) ?_
  refine v_iadd dX15_goesBrace_11 ?_
  refine v_puti2 cb_16 hk_p0 32 1632 rfl (by decide) rfl (lk_n kw_1489 rfl) (Or.inl rfl) rfl rfl hf dX15_goesBrace_12 (fun s3 hts3 hf => ?_)
  have hk_p0 := tk_ hts3 hk_p0
  refine v_aload_n (x := (some p0)) dX15_goesBrace_15 rfl 1 rfl ?_
  obtain ⟨x4, s5, hcs5, hf⟩ := bd_of hf
  have hts5 := c_X15_next (l := l) (D := D) (cy := cy) (ka := ka) hcs5
  refine v_callV cb_16 hk_p0 (As := []) (rest := []) hts5 yb_X15_next kw_1896 kw_1898 kp_101 rfl ⟨by omega, by omega⟩ rfl (cat_len (Nat.le_of_ble_eq_true rfl)) dX15_goesBrace_16 ?_
  have hk_p0 := tk_ hts5.1 hk_p0
  show v_ l D cy ka cX15_goesBrace RX15 5 none "goesBrace" fr lo (qm_ D cy σ z (fun _ : Unit => none) w) σ z _ 19 [(3, .int x1), (0, va_rf (some p0)), (1, .int p1), (2, .int p2)] []
  refine v_aload_n (x := (some p0)) dX15_goesBrace_19 rfl 1 rfl ?_
  refine v_ldcwS (tx := "if") (n := 0) (by decide) dX15_goesBrace_20 ?_
  obtain ⟨x6, s7, hcs7, hf⟩ := bd_of hf
  have hts7 := c_X15_isWord (l := l) (D := D) (cy := cy) (ka := ka) hcs7
  refine v_callV cb_16 hk_p0 (As := [va_rf (some (ka 0))]) (rest := []) hts7 yb_X15_isWord kw_1911 kw_1913 kp_102 rfl ⟨by omega, by omega⟩ rfl (cat_len (Nat.le_of_ble_eq_true rfl)) dX15_goesBrace_23 ?_
  have hk_p0 := tk_ hts7.1 hk_p0
  show v_ l D cy ka cX15_goesBrace RX15 5 none "goesBrace" fr lo (qm_ D cy σ z (fun _ : Unit => none) w) σ z _ 26 [(3, .int x1), (0, va_rf (some p0)), (1, .int p1), (2, .int p2)] [.int x6]
  refine v_if_ne (tgt := 65) hf dX15_goesBrace_26 (by decide) (fun hq hf => ?_) (fun hq hf => ?_)
  · refine v_aload_n (x := (some p0)) dX15_goesBrace_29 rfl 1 rfl ?_
    rcases bx_of hf with ⟨x8, s9, hcs9, hf⟩ | ⟨q9, s9, hc9, hf⟩
    rotate_left
    · have ht9 := c_X15_sum (l := l) (D := D) (cy := cy) (ka := ka) hc9
      exact v_callVX cb_16 hk_p0 (As := []) (rest := []) ht9 yb_X15_sum kw_1920 kw_1922 kp_103 rfl ⟨by omega, by omega⟩ rfl (cat_len (Nat.le_of_ble_eq_true rfl)) (by decide +kernel) hf dX15_goesBrace_30
    have hts9 := c_X15_sum (l := l) (D := D) (cy := cy) (ka := ka) hcs9
    refine v_callV cb_16 hk_p0 (As := []) (rest := []) hts9 yb_X15_sum kw_1920 kw_1922 kp_103 rfl ⟨by omega, by omega⟩ rfl (cat_len (Nat.le_of_ble_eq_true rfl)) dX15_goesBrace_30 ?_
    have hk_p0 := tk_ hts9.1 hk_p0
    show v_ l D cy ka cX15_goesBrace RX15 5 none "goesBrace" fr lo (qm_ D cy σ z (fun _ : Unit => none) w) σ z _ 33 [(3, .int x1), (0, va_rf (some p0)), (1, .int p1), (2, .int p2)] [.int x8]
    refine v_istore [(4, .int x8), (3, .int x1), (0, va_rf (some p0)), (1, .int p1), (2, .int p2)] dX15_goesBrace_33 (by decide) rfl ?_
    refine v_aload_n (x := (some p0)) dX15_goesBrace_35 rfl 2 rfl ?_
    refine v_bipush (v := 125) dX15_goesBrace_36 (by decide) ?_
    obtain ⟨x10, s11, hcs11, hf⟩ := bd_of hf
    have hts11 := c_X15_is (l := l) (D := D) (cy := cy) (ka := ka) hcs11
    refine v_callV cb_16 hk_p0 (As := [.int (125 : Int32)]) (rest := []) hts11 yb_X15_is kw_1998 kw_2000 kp_118 rfl ⟨by omega, by omega⟩ rfl (cat_len (Nat.le_of_ble_eq_true rfl)) dX15_goesBrace_38 ?_
    have hk_p0 := tk_ hts11.1 hk_p0
    show v_ l D cy ka cX15_goesBrace RX15 5 none "goesBrace" fr lo (qm_ D cy σ z (fun _ : Unit => none) w) σ z _ 41 [(4, .int x8), (3, .int x1), (0, va_rf (some p0)), (1, .int p1), (2, .int p2)] [.int x10]
    refine v_if_ne (tgt := 54) hf dX15_goesBrace_41 (by decide) (fun hq hf => ?_) (fun hq hf => ?_)
    · refine v_aload_n (x := (some p0)) dX15_goesBrace_44 rfl 2 rfl ?_
      refine v_iconst (v := 1) dX15_goesBrace_45 (by decide) ?_
      refine v_aload_n (x := (some p0)) dX15_goesBrace_46 rfl 2 rfl ?_
      refine v_geti cb_16 hk_p0 34 1634 rfl (by decide) rfl (lk_n kw_1491 rfl) hf dX15_goesBrace_47 (fun x12 hf => ?_)
      obtain ⟨r13, s14, hcs14, hf⟩ := bd_of hf
      have hts14 := c_X15_stop (l := l) (D := D) (cy := cy) (ka := ka) hcs14
      refine v_callV cb_16 hk_p0 (As := [.int (1 : Int32), .int x12]) (rest := []) hts14 yb_X15_stop kw_1888 kw_1890 kp_99 rfl ⟨by omega, by omega⟩ rfl (cat_len (Nat.le_of_ble_eq_true rfl)) dX15_goesBrace_50 ?_
      have hk_p0 := tk_ hts14.1 hk_p0
      show v_ l D cy ka cX15_goesBrace RX15 5 none "goesBrace" fr lo (qm_ D cy σ z (fun _ : Unit => none) w) σ z _ 53 [(4, .int x8), (3, .int x1), (0, va_rf (some p0)), (1, .int p1), (2, .int p2)] [va_rf r13]
      obtain ⟨a15, rfl, hf⟩ := nn_of hf
      obtain ⟨hk_a15, hf⟩ := gt_of hf
      exact v_athrow hk_a15 (by decide +kernel) hf dX15_goesBrace_53
    · refine v_iload_n (x := p2) dX15_goesBrace_54 rfl 4 rfl ?_
      refine v_if_eq (tgt := 64) hf dX15_goesBrace_55 (by decide) (fun hq hf => ?_) (fun hq hf => ?_)
      · refine v_sub [] (L2 := []) rfl ?_
        exact t_X15_goesBrace_b64 hfl hslf  hf
      · refine v_aload_n (x := (some p0)) dX15_goesBrace_58 rfl 2 rfl ?_
        refine v_iload (x := x8) dX15_goesBrace_59 0 rfl ?_
        obtain ⟨x16, s17, hcs17, hf⟩ := bd_of hf
        have hts17 := c_X15_printsNumber (l := l) (D := D) (cy := cy) (ka := ka) hcs17
        refine v_callV cb_16 hk_p0 (As := [.int x8]) (rest := []) hts17 yb_X15_printsNumber kw_2002 kw_2004 kp_119 rfl ⟨by omega, by omega⟩ rfl (cat_len (Nat.le_of_ble_eq_true rfl)) dX15_goesBrace_61 ?_
        have hk_p0 := tk_ hts17.1 hk_p0
        show v_ l D cy ka cX15_goesBrace RX15 5 none "goesBrace" fr lo (qm_ D cy σ z (fun _ : Unit => none) w) σ z _ 64 [(4, .int x8), (3, .int x1), (0, va_rf (some p0)), (1, .int p1), (2, .int p2)] []
        refine v_sub [] (L2 := []) rfl ?_
        exact t_X15_goesBrace_b64 hfl hslf  hf
  · refine v_iload_n (x := p1) dX15_goesBrace_65 rfl 2 rfl ?_
    refine v_iconst (v := 5) dX15_goesBrace_66 (by decide) ?_
    refine v_icmp_ne (tgt := 77) hf dX15_goesBrace_67 (by decide) (fun hq hf => ?_) (fun hq hf => ?_)
    · refine v_aload_n (x := (some p0)) dX15_goesBrace_70 rfl 1 rfl ?_
      refine v_iconst (v := 3) dX15_goesBrace_71 (by decide) ?_
      refine v_iload_n (x := x1) dX15_goesBrace_72 rfl 0 rfl ?_
      obtain ⟨r18, s19, hcs19, hf⟩ := bd_of hf
      have hts19 := c_X15_stop (l := l) (D := D) (cy := cy) (ka := ka) hcs19
      refine v_callV cb_16 hk_p0 (As := [.int (3 : Int32), .int x1]) (rest := []) hts19 yb_X15_stop kw_1888 kw_1890 kp_99 rfl ⟨by omega, by omega⟩ rfl (cat_len (Nat.le_of_ble_eq_true rfl)) dX15_goesBrace_73 ?_
      have hk_p0 := tk_ hts19.1 hk_p0
      show v_ l D cy ka cX15_goesBrace RX15 5 none "goesBrace" fr lo (qm_ D cy σ z (fun _ : Unit => none) w) σ z _ 76 [(3, .int x1), (0, va_rf (some p0)), (1, .int p1), (2, .int p2)] [va_rf r18]
      obtain ⟨a20, rfl, hf⟩ := nn_of hf
      obtain ⟨hk_a20, hf⟩ := gt_of hf
      exact v_athrow hk_a20 (by decide +kernel) hf dX15_goesBrace_76
    · refine v_aload_n (x := (some p0)) dX15_goesBrace_77 rfl 1 rfl ?_
      obtain ⟨x21, s22, hcs22, hf⟩ := bd_of hf
      have hts22 := c_X15_next (l := l) (D := D) (cy := cy) (ka := ka) hcs22
      refine v_callV cb_16 hk_p0 (As := []) (rest := []) hts22 yb_X15_next kw_1896 kw_1898 kp_101 rfl ⟨by omega, by omega⟩ rfl (cat_len (Nat.le_of_ble_eq_true rfl)) dX15_goesBrace_78 ?_
      have hk_p0 := tk_ hts22.1 hk_p0
      show v_ l D cy ka cX15_goesBrace RX15 5 none "goesBrace" fr lo (qm_ D cy σ z (fun _ : Unit => none) w) σ z _ 81 [(3, .int x1), (0, va_rf (some p0)), (1, .int p1), (2, .int p2)] []
      refine v_aload_n (x := (some p0)) dX15_goesBrace_81 rfl 1 rfl ?_
      rcases bx_of hf with ⟨x23, s24, hcs24, hf⟩ | ⟨q9, s9, hc9, hf⟩
      rotate_left
      · have ht9 := c_X15_test (l := l) (D := D) (cy := cy) (ka := ka) hc9
        exact v_callVX cb_16 hk_p0 (As := []) (rest := []) ht9 yb_X15_test kw_2011 kw_2013 kp_121 rfl ⟨by omega, by omega⟩ rfl (cat_len (Nat.le_of_ble_eq_true rfl)) (by decide +kernel) hf dX15_goesBrace_82
      have hts24 := c_X15_test (l := l) (D := D) (cy := cy) (ka := ka) hcs24
      refine v_callV cb_16 hk_p0 (As := []) (rest := []) hts24 yb_X15_test kw_2011 kw_2013 kp_121 rfl ⟨by omega, by omega⟩ rfl (cat_len (Nat.le_of_ble_eq_true rfl)) dX15_goesBrace_82 ?_
      have hk_p0 := tk_ hts24.1 hk_p0
      show v_ l D cy ka cX15_goesBrace RX15 5 none "goesBrace" fr lo (qm_ D cy σ z (fun _ : Unit => none) w) σ z _ 85 [(3, .int x1), (0, va_rf (some p0)), (1, .int p1), (2, .int p2)] [.int x23]
      refine v_istore [(4, .int x23), (3, .int x1), (0, va_rf (some p0)), (1, .int p1), (2, .int p2)] dX15_goesBrace_85 (by decide) rfl ?_
      refine v_aload_n (x := (some p0)) dX15_goesBrace_87 rfl 2 rfl ?_
      refine v_bipush (v := 58) dX15_goesBrace_88 (by decide) ?_
      obtain ⟨x25, s26, hcs26, hf⟩ := bd_of hf
      have hts26 := c_X15_is (l := l) (D := D) (cy := cy) (ka := ka) hcs26
      refine v_callV cb_16 hk_p0 (As := [.int (58 : Int32)]) (rest := []) hts26 yb_X15_is kw_1998 kw_2000 kp_118 rfl ⟨by omega, by omega⟩ rfl (cat_len (Nat.le_of_ble_eq_true rfl)) dX15_goesBrace_90 ?_
      have hk_p0 := tk_ hts26.1 hk_p0
      show v_ l D cy ka cX15_goesBrace RX15 5 none "goesBrace" fr lo (qm_ D cy σ z (fun _ : Unit => none) w) σ z _ 93 [(4, .int x23), (3, .int x1), (0, va_rf (some p0)), (1, .int p1), (2, .int p2)] [.int x25]
      refine v_if_ne (tgt := 106) hf dX15_goesBrace_93 (by decide) (fun hq hf => ?_) (fun hq hf => ?_)
      · refine v_aload_n (x := (some p0)) dX15_goesBrace_96 rfl 2 rfl ?_
        refine v_iconst (v := 1) dX15_goesBrace_97 (by decide) ?_
        refine v_aload_n (x := (some p0)) dX15_goesBrace_98 rfl 2 rfl ?_
        refine v_geti cb_16 hk_p0 34 1634 rfl (by decide) rfl (lk_n kw_1491 rfl) hf dX15_goesBrace_99 (fun x27 hf => ?_)
        obtain ⟨r28, s29, hcs29, hf⟩ := bd_of hf
        have hts29 := c_X15_stop (l := l) (D := D) (cy := cy) (ka := ka) hcs29
        refine v_callV cb_16 hk_p0 (As := [.int (1 : Int32), .int x27]) (rest := []) hts29 yb_X15_stop kw_1888 kw_1890 kp_99 rfl ⟨by omega, by omega⟩ rfl (cat_len (Nat.le_of_ble_eq_true rfl)) dX15_goesBrace_102 ?_
        have hk_p0 := tk_ hts29.1 hk_p0
        show v_ l D cy ka cX15_goesBrace RX15 5 none "goesBrace" fr lo (qm_ D cy σ z (fun _ : Unit => none) w) σ z _ 105 [(4, .int x23), (3, .int x1), (0, va_rf (some p0)), (1, .int p1), (2, .int p2)] [va_rf r28]
        obtain ⟨a30, rfl, hf⟩ := nn_of hf
        obtain ⟨hk_a30, hf⟩ := gt_of hf
        exact v_athrow hk_a30 (by decide +kernel) hf dX15_goesBrace_105
      · refine v_aload_n (x := (some p0)) dX15_goesBrace_106 rfl 2 rfl ?_
        refine v_iload_n (x := p1) dX15_goesBrace_107 rfl 3 rfl ?_
        refine v_iconst (v := 1) dX15_goesBrace_108 (by decide) ?_
        refine v_iadd dX15_goesBrace_109 ?_
        refine v_iload_n (x := p2) dX15_goesBrace_110 rfl 4 rfl ?_
        refine v_if_eq (tgt := 123) hf dX15_goesBrace_111 (by decide) (fun hq hf => ?_) (fun hq hf => ?_)
        · refine v_sub [2, 3, 4, 0] (L2 := [(0, va_rf (some p0)), (1, .int p1), (2, .int p2), (4, .int x23)]) rfl ?_
          exact t_X15_goesBrace_b123 hfl hslf  hf
        · refine v_iload (x := x23) dX15_goesBrace_114 0 rfl ?_
          refine v_if_eq (tgt := 123) hf dX15_goesBrace_116 (by decide) (fun hq hf => ?_) (fun hq hf => ?_)
          · refine v_sub [2, 3, 4, 0] (L2 := [(0, va_rf (some p0)), (1, .int p1), (2, .int p2), (4, .int x23)]) rfl ?_
            exact t_X15_goesBrace_b123 hfl hslf  hf
          · refine v_iconst (v := 1) dX15_goesBrace_119 (by decide) ?_
            refine v_goto (tgt := 124) dX15_goesBrace_120 (by decide) ?_
            refine v_sub [2, 3, 4, 0] (L2 := [(0, va_rf (some p0)), (1, .int p1), (2, .int p2), (4, .int x23)]) rfl ?_
            exact t_X15_goesBrace_b124 hfl hslf  hf
theorem dX15_goesText_0 : decode cX15_goesText 0 = .ok (.aload_n 0, 1) := by decide +kernel
theorem dX15_goesText_1 : decode cX15_goesText 1 = .ok (.getfield 289, 3) := by decide +kernel
theorem dX15_goesText_4 : decode cX15_goesText 4 = .ok (.istore_n 3, 1) := by decide +kernel
theorem dX15_goesText_5 : decode cX15_goesText 5 = .ok (.aload_n 0, 1) := by decide +kernel
theorem dX15_goesText_6 : decode cX15_goesText 6 = .ok (.aload_n 0, 1) := by decide +kernel
theorem dX15_goesText_7 : decode cX15_goesText 7 = .ok (.getfield 289, 3) := by decide +kernel
theorem dX15_goesText_10 : decode cX15_goesText 10 = .ok (.invokevirtual 292, 3) := by decide +kernel
theorem dX15_goesText_13 : decode cX15_goesText 13 = .ok (.iconst (-1), 1) := by decide +kernel
theorem dX15_goesText_14 : decode cX15_goesText 14 = .ok (.if_icmp .eq 160, 3) := by decide +kernel
theorem dX15_goesText_17 : decode cX15_goesText 17 = .ok (.aload_n 0, 1) := by decide +kernel
theorem dX15_goesText_18 : decode cX15_goesText 18 = .ok (.aload_n 0, 1) := by decide +kernel
theorem dX15_goesText_19 : decode cX15_goesText 19 = .ok (.getfield 289, 3) := by decide +kernel
theorem dX15_goesText_22 : decode cX15_goesText 22 = .ok (.invokevirtual 292, 3) := by decide +kernel
theorem dX15_goesText_25 : decode cX15_goesText 25 = .ok (.bipush 125, 2) := by decide +kernel
theorem dX15_goesText_27 : decode cX15_goesText 27 = .ok (.if_icmp .eq 147, 3) := by decide +kernel
theorem dX15_goesText_30 : decode cX15_goesText 30 = .ok (.aload_n 0, 1) := by decide +kernel
theorem dX15_goesText_31 : decode cX15_goesText 31 = .ok (.aload_n 0, 1) := by decide +kernel
theorem dX15_goesText_32 : decode cX15_goesText 32 = .ok (.getfield 289, 3) := by decide +kernel
theorem dX15_goesText_35 : decode cX15_goesText 35 = .ok (.invokevirtual 292, 3) := by decide +kernel
theorem dX15_goesText_38 : decode cX15_goesText 38 = .ok (.bipush 124, 2) := by decide +kernel
theorem dX15_goesText_40 : decode cX15_goesText 40 = .ok (.if_icmp .eq 134, 3) := by decide +kernel
theorem dX15_goesText_43 : decode cX15_goesText 43 = .ok (.aload_n 0, 1) := by decide +kernel
theorem dX15_goesText_44 : decode cX15_goesText 44 = .ok (.aload_n 0, 1) := by decide +kernel
theorem dX15_goesText_45 : decode cX15_goesText 45 = .ok (.getfield 289, 3) := by decide +kernel
theorem dX15_goesText_48 : decode cX15_goesText 48 = .ok (.invokevirtual 292, 3) := by decide +kernel
theorem dX15_goesText_51 : decode cX15_goesText 51 = .ok (.bipush 123, 2) := by decide +kernel
theorem dX15_goesText_53 : decode cX15_goesText 53 = .ok (.if_icmp .eq 27, 3) := by decide +kernel
theorem dX15_goesText_56 : decode cX15_goesText 56 = .ok (.aload_n 0, 1) := by decide +kernel
theorem dX15_goesText_57 : decode cX15_goesText 57 = .ok (.aload_n 0, 1) := by decide +kernel
theorem dX15_goesText_58 : decode cX15_goesText 58 = .ok (.getfield 289, 3) := by decide +kernel
theorem dX15_goesText_61 : decode cX15_goesText 61 = .ok (.invokevirtual 292, 3) := by decide +kernel
theorem dX15_goesText_64 : decode cX15_goesText 64 = .ok (.invokestatic 339, 3) := by decide +kernel
theorem dX15_goesText_67 : decode cX15_goesText 67 = .ok (.ifCond .ne 13, 3) := by decide +kernel
theorem dX15_goesText_70 : decode cX15_goesText 70 = .ok (.aload_n 0, 1) := by decide +kernel
theorem dX15_goesText_71 : decode cX15_goesText 71 = .ok (.iconst 1, 1) := by decide +kernel
theorem dX15_goesText_72 : decode cX15_goesText 72 = .ok (.aload_n 0, 1) := by decide +kernel
theorem dX15_goesText_73 : decode cX15_goesText 73 = .ok (.getfield 289, 3) := by decide +kernel
theorem dX15_goesText_76 : decode cX15_goesText 76 = .ok (.invokevirtual 342, 3) := by decide +kernel
theorem dX15_goesText_79 : decode cX15_goesText 79 = .ok (.athrow, 1) := by decide +kernel
theorem dX15_goesText_80 : decode cX15_goesText 80 = .ok (.aload_n 0, 1) := by decide +kernel
theorem dX15_goesText_81 : decode cX15_goesText 81 = .ok (.getfield 345, 3) := by decide +kernel
theorem dX15_goesText_84 : decode cX15_goesText 84 = .ok (.bipush 60, 2) := by decide +kernel
theorem dX15_goesText_86 : decode cX15_goesText 86 = .ok (.if_icmp .ne 13, 3) := by decide +kernel
theorem dX15_goesText_89 : decode cX15_goesText 89 = .ok (.aload_n 0, 1) := by decide +kernel
theorem dX15_goesText_90 : decode cX15_goesText 90 = .ok (.iconst 3, 1) := by decide +kernel
theorem dX15_goesText_91 : decode cX15_goesText 91 = .ok (.aload_n 0, 1) := by decide +kernel
theorem dX15_goesText_92 : decode cX15_goesText 92 = .ok (.getfield 289, 3) := by decide +kernel
theorem dX15_goesText_95 : decode cX15_goesText 95 = .ok (.invokevirtual 342, 3) := by decide +kernel
theorem dX15_goesText_98 : decode cX15_goesText 98 = .ok (.athrow, 1) := by decide +kernel
theorem dX15_goesText_99 : decode cX15_goesText 99 = .ok (.aload_n 0, 1) := by decide +kernel
theorem dX15_goesText_100 : decode cX15_goesText 100 = .ok (.dup, 1) := by decide +kernel
theorem dX15_goesText_101 : decode cX15_goesText 101 = .ok (.getfield 345, 3) := by decide +kernel
theorem dX15_goesText_104 : decode cX15_goesText 104 = .ok (.iconst 1, 1) := by decide +kernel
theorem dX15_goesText_105 : decode cX15_goesText 105 = .ok (.iadd, 1) := by decide +kernel
theorem dX15_goesText_106 : decode cX15_goesText 106 = .ok (.putfield 345, 3) := by decide +kernel
theorem dX15_goesText_109 : decode cX15_goesText 109 = .ok (.aload_n 0, 1) := by decide +kernel
theorem dX15_goesText_110 : decode cX15_goesText 110 = .ok (.aload_n 0, 1) := by decide +kernel
theorem dX15_goesText_111 : decode cX15_goesText 111 = .ok (.getfield 289, 3) := by decide +kernel
theorem dX15_goesText_114 : decode cX15_goesText 114 = .ok (.invokevirtual 292, 3) := by decide +kernel
theorem dX15_goesText_117 : decode cX15_goesText 117 = .ok (.bipush 123, 2) := by decide +kernel
theorem dX15_goesText_119 : decode cX15_goesText 119 = .ok (.if_icmp .ne 12, 3) := by decide +kernel
theorem dX15_goesText_122 : decode cX15_goesText 122 = .ok (.aload_n 0, 1) := by decide +kernel
theorem dX15_goesText_123 : decode cX15_goesText 123 = .ok (.iload_n 1, 1) := by decide +kernel
theorem dX15_goesText_124 : decode cX15_goesText 124 = .ok (.iload_n 2, 1) := by decide +kernel
theorem dX15_goesText_125 : decode cX15_goesText 125 = .ok (.invokevirtual 348, 3) := by decide +kernel
theorem dX15_goesText_128 : decode cX15_goesText 128 = .ok (.goto (-123), 3) := by decide +kernel
theorem dX15_goesText_131 : decode cX15_goesText 131 = .ok (.aload_n 0, 1) := by decide +kernel
theorem dX15_goesText_132 : decode cX15_goesText 132 = .ok (.aload_n 0, 1) := by decide +kernel
theorem dX15_goesText_133 : decode cX15_goesText 133 = .ok (.getfield 289, 3) := by decide +kernel
theorem dX15_goesText_136 : decode cX15_goesText 136 = .ok (.invokevirtual 292, 3) := by decide +kernel
theorem dX15_goesText_139 : decode cX15_goesText 139 = .ok (.invokestatic 339, 3) := by decide +kernel
theorem dX15_goesText_142 : decode cX15_goesText 142 = .ok (.ifCond .eq (-137), 3) := by decide +kernel
theorem dX15_goesText_145 : decode cX15_goesText 145 = .ok (.iload_n 2, 1) := by decide +kernel
theorem dX15_goesText_146 : decode cX15_goesText 146 = .ok (.ifCond .eq 15, 3) := by decide +kernel
theorem dX15_goesText_149 : decode cX15_goesText 149 = .ok (.aload_n 0, 1) := by decide +kernel
theorem dX15_goesText_150 : decode cX15_goesText 150 = .ok (.aload_n 0, 1) := by decide +kernel
theorem dX15_goesText_151 : decode cX15_goesText 151 = .ok (.aload_n 0, 1) := by decide +kernel
theorem dX15_goesText_152 : decode cX15_goesText 152 = .ok (.getfield 289, 3) := by decide +kernel
theorem dX15_goesText_155 : decode cX15_goesText 155 = .ok (.invokevirtual 292, 3) := by decide +kernel
theorem dX15_goesText_158 : decode cX15_goesText 158 = .ok (.invokevirtual 330, 3) := by decide +kernel
theorem dX15_goesText_161 : decode cX15_goesText 161 = .ok (.aload_n 0, 1) := by decide +kernel
theorem dX15_goesText_162 : decode cX15_goesText 162 = .ok (.dup, 1) := by decide +kernel
theorem dX15_goesText_163 : decode cX15_goesText 163 = .ok (.getfield 289, 3) := by decide +kernel
theorem dX15_goesText_166 : decode cX15_goesText 166 = .ok (.iconst 1, 1) := by decide +kernel
theorem dX15_goesText_167 : decode cX15_goesText 167 = .ok (.iadd, 1) := by decide +kernel
theorem dX15_goesText_168 : decode cX15_goesText 168 = .ok (.putfield 289, 3) := by decide +kernel
theorem dX15_goesText_171 : decode cX15_goesText 171 = .ok (.goto (-40), 3) := by decide +kernel
theorem dX15_goesText_174 : decode cX15_goesText 174 = .ok (.aload_n 0, 1) := by decide +kernel
theorem dX15_goesText_175 : decode cX15_goesText 175 = .ok (.getfield 289, 3) := by decide +kernel
theorem dX15_goesText_178 : decode cX15_goesText 178 = .ok (.iload_n 3, 1) := by decide +kernel
theorem dX15_goesText_179 : decode cX15_goesText 179 = .ok (.if_icmp .ne 13, 3) := by decide +kernel
theorem dX15_goesText_182 : decode cX15_goesText 182 = .ok (.aload_n 0, 1) := by decide +kernel
theorem dX15_goesText_183 : decode cX15_goesText 183 = .ok (.iconst 1, 1) := by decide +kernel
theorem dX15_goesText_184 : decode cX15_goesText 184 = .ok (.aload_n 0, 1) := by decide +kernel
theorem dX15_goesText_185 : decode cX15_goesText 185 = .ok (.getfield 289, 3) := by decide +kernel
theorem dX15_goesText_188 : decode cX15_goesText 188 = .ok (.invokevirtual 342, 3) := by decide +kernel
theorem dX15_goesText_191 : decode cX15_goesText 191 = .ok (.athrow, 1) := by decide +kernel
theorem dX15_goesText_192 : decode cX15_goesText 192 = .ok (.return_, 1) := by decide +kernel
def f_X15_goesText_b174 (slf : TH → Nat → Int32 → Int32 → Option ((Unit ⊕ Nat) × TH)) (σ : TH) (l0 : Nat) (l3 : Int32) : Option ((Unit ⊕ Nat) × TH) :=
  gt_ (kd_ σ l0 = 17) <| lt_ (fi_ σ 1632 l0) fun x5 => if x5 = l3 then (lt_ (fi_ σ 1632 l0) fun x6 => bd_ (f_X15_stop σ l0 (1 : Int32) x6) fun r7 s8 => nn_ r7 fun a9 => gt_ (kd_ s8 a9 = 16) <| some (.inr a9, s8)) else (some (.inl (), σ))
set_option maxHeartbeats 4000000 in
set_option maxRecDepth 100000 in
theorem t_X15_goesText_b174 {l : Launch} {D : va_G} {cy : Nat → ClassId} {ka : Nat → Nat} {σ0 z : TH} {w : (Unit ⊕ Nat)} {slf : TH → Nat → Int32 → Int32 → Option ((Unit ⊕ Nat) × TH)} {fr lo fr2 lo2 : Nat} (hfl : 14 ≤ fr ∧ 306 ≤ lo ∧ fr2 + 2 ≤ fr ∧ 47 + lo2 ≤ lo) (hslf : ∀ (σ : TH) (q0 : Nat) (q1 : Int32) (q2 : Int32) (w : Unit ⊕ Nat) (z : TH), slf σ q0 q1 q2 = some (w, z) → cm_ l D cy ka yX15_goesText fr2 lo2 [va_rf (some q0), .int q1, .int q2] σ (fun _ : Unit => none) w z)  {σ : TH} {l0 : Nat} {l3 : Int32} (hf : f_X15_goesText_b174 slf σ l0 l3 = some (w, z)) : v_ l D cy ka cX15_goesText RX15 4 none "goesText" fr lo (qm_ D cy σ0 z (fun _ : Unit => none) w) σ0 z σ 174 [(0, va_rf (some l0)), (3, .int l3)] [] := by
  unfold f_X15_goesText_b174 at hf
  refine v_aload_n (x := (some l0)) dX15_goesText_174 rfl 0 rfl ?_
  obtain ⟨hk_l0, hf⟩ := gt_of hf
  refine v_geti cb_16 hk_l0 32 1632 rfl (by decide) rfl (lk_n kw_1489 rfl) hf dX15_goesText_175 (fun x5 hf => ?_)
  refine v_iload_n (x := l3) dX15_goesText_178 rfl 1 rfl ?_
  refine v_icmp_ne (tgt := 192) hf dX15_goesText_179 (by decide) (fun hq hf => ?_) (fun hq hf => ?_)
  · refine v_aload_n (x := (some l0)) dX15_goesText_182 rfl 0 rfl ?_
    refine v_iconst (v := 1) dX15_goesText_183 (by decide) ?_
    refine v_aload_n (x := (some l0)) dX15_goesText_184 rfl 0 rfl ?_
    refine v_geti cb_16 hk_l0 32 1632 rfl (by decide) rfl (lk_n kw_1489 rfl) hf dX15_goesText_185 (fun x6 hf => ?_)
    obtain ⟨r7, s8, hcs8, hf⟩ := bd_of hf
    have hts8 := c_X15_stop (l := l) (D := D) (cy := cy) (ka := ka) hcs8
    refine v_callV cb_16 hk_l0 (As := [.int (1 : Int32), .int x6]) (rest := []) hts8 yb_X15_stop kw_1888 kw_1890 kp_99 rfl ⟨by omega, by omega⟩ rfl (cat_len (Nat.le_of_ble_eq_true rfl)) dX15_goesText_188 ?_
    have hk_l0 := tk_ hts8.1 hk_l0
    show v_ l D cy ka cX15_goesText RX15 4 none "goesText" fr lo (qm_ D cy σ0 z (fun _ : Unit => none) w) σ0 z _ 191 [(0, va_rf (some l0)), (3, .int l3)] [va_rf r7]
    obtain ⟨a9, rfl, hf⟩ := nn_of hf
    obtain ⟨hk_a9, hf⟩ := gt_of hf
    exact v_athrow hk_a9 (by decide +kernel) hf dX15_goesText_191
  · exact v_vretM hf dX15_goesText_192
def f_X15_goesText_b161 (slf : TH → Nat → Int32 → Int32 → Option ((Unit ⊕ Nat) × TH)) (rec_131 : TH → Nat → Int32 → Int32 → Int32 → Option ((Unit ⊕ Nat) × TH)) (σ : TH) (l0 : Nat) (l1 : Int32) (l2 : Int32) (l3 : Int32) : Option ((Unit ⊕ Nat) × TH) :=
  gt_ (kd_ σ l0 = 17) <| lt_ (fi_ σ 1632 l0) fun x36 => lt_ (si_ σ 1632 l0 (x36 + (1 : Int32))) fun s37 => rec_131 s37 l0 l1 l2 l3
set_option maxHeartbeats 4000000 in
set_option maxRecDepth 100000 in
theorem t_X15_goesText_b161 {l : Launch} {D : va_G} {cy : Nat → ClassId} {ka : Nat → Nat} {σ0 z : TH} {w : (Unit ⊕ Nat)} {slf : TH → Nat → Int32 → Int32 → Option ((Unit ⊕ Nat) × TH)} {fr lo fr2 lo2 : Nat} {rec_131 : TH → Nat → Int32 → Int32 → Int32 → Option ((Unit ⊕ Nat) × TH)} (hfl : 14 ≤ fr ∧ 306 ≤ lo ∧ fr2 + 2 ≤ fr ∧ 47 + lo2 ≤ lo) (hslf : ∀ (σ : TH) (q0 : Nat) (q1 : Int32) (q2 : Int32) (w : Unit ⊕ Nat) (z : TH), slf σ q0 q1 q2 = some (w, z) → cm_ l D cy ka yX15_goesText fr2 lo2 [va_rf (some q0), .int q1, .int q2] σ (fun _ : Unit => none) w z) (hrec_131 : ∀ (σ : TH) (l0 : Nat) (l1 : Int32) (l2 : Int32) (l3 : Int32), rec_131 σ l0 l1 l2 l3 = some (w, z) → v_ l D cy ka cX15_goesText RX15 4 none "goesText" fr lo (qm_ D cy σ0 z (fun _ : Unit => none) w) σ0 z σ 131 [(0, va_rf (some l0)), (1, .int l1), (2, .int l2), (3, .int l3)] []) {σ : TH} {l0 : Nat} {l1 : Int32} {l2 : Int32} {l3 : Int32} (hf : f_X15_goesText_b161 slf rec_131 σ l0 l1 l2 l3 = some (w, z)) : v_ l D cy ka cX15_goesText RX15 4 none "goesText" fr lo (qm_ D cy σ0 z (fun _ : Unit => none) w) σ0 z σ 161 [(0, va_rf (some l0)), (1, .int l1), (2, .int l2), (3, .int l3)] [] := by
  unfold f_X15_goesText_b161 at hf
  refine v_aload_n (x := (some l0)) dX15_goesText_161 rfl 0 rfl ?_
  refine v_dup dX15_goesText_162 (va_rf_cat _) ?_
  obtain ⟨hk_l0, hf⟩ := gt_of hf
  refine v_geti cb_16 hk_l0 32 1632 rfl (by decide) rfl (lk_n kw_1489 rfl) hf dX15_goesText_163 (fun x36 hf => ?_)
  refine v_iconst (v := 1) dX15_goesText_166 (by decide) ?_
  refine v_iadd dX15_goesText_167 ?_
  refine v_puti2 cb_16 hk_l0 32 1632 rfl (by decide) rfl (lk_n kw_1489 rfl) (Or.inl rfl) rfl rfl hf dX15_goesText_168 (fun s37 hts37 hf => ?_)
  have hk_l0 := tk_ hts37 hk_l0
  refine v_goto (tgt := 131) dX15_goesText_171 (by decide) ?_
  refine v_sub [0, 1, 2, 3] (L2 := [(0, va_rf (some l0)), (1, .int l1), (2, .int l2), (3, .int l3)]) rfl ?_
  exact hrec_131 _ _ _ _ _ hf
def f_X15_goesText_b131 (slf : TH → Nat → Int32 → Int32 → Option ((Unit ⊕ Nat) × TH)) (rec_5 : TH → Nat → Int32 → Int32 → Int32 → Option ((Unit ⊕ Nat) × TH)) : Nat → TH → Nat → Int32 → Int32 → Int32 → Option ((Unit ⊕ Nat) × TH)
  | 0, _, _, _, _, _ => none
  | n + 1, σ, l0, l1, l2, l3 => gt_ (kd_ σ l0 = 17) <| lt_ (fi_ σ 1632 l0) fun x31 => bd_ (f_X15_byteAt σ l0 x31) fun x32 s33 => bd_ (f_X15_isPlain s33 x32) fun x34 s35 => if x34 = 0 then (rec_5 s35 l0 l1 l2 l3) else (if l2 = 0 then (f_X15_goesText_b161 slf (f_X15_goesText_b131 slf rec_5 n) s35 l0 l1 l2 l3) else (lt_ (fi_ s35 1632 l0) fun x38 => bd_ (f_X15_byteAt s35 l0 x38) fun x39 s40 => bd_ (f_X15_prints s40 l0 x39) fun x41 s42 => f_X15_goesText_b161 slf (f_X15_goesText_b131 slf rec_5 n) s42 l0 l1 l2 l3))
set_option maxHeartbeats 4000000 in
set_option maxRecDepth 100000 in
theorem t_X15_goesText_b131 {l : Launch} {D : va_G} {cy : Nat → ClassId} {ka : Nat → Nat} {σ0 z : TH} {w : (Unit ⊕ Nat)} {slf : TH → Nat → Int32 → Int32 → Option ((Unit ⊕ Nat) × TH)} {fr lo fr2 lo2 : Nat} {rec_5 : TH → Nat → Int32 → Int32 → Int32 → Option ((Unit ⊕ Nat) × TH)} (hfl : 14 ≤ fr ∧ 306 ≤ lo ∧ fr2 + 2 ≤ fr ∧ 47 + lo2 ≤ lo) (hslf : ∀ (σ : TH) (q0 : Nat) (q1 : Int32) (q2 : Int32) (w : Unit ⊕ Nat) (z : TH), slf σ q0 q1 q2 = some (w, z) → cm_ l D cy ka yX15_goesText fr2 lo2 [va_rf (some q0), .int q1, .int q2] σ (fun _ : Unit => none) w z) (hrec_5 : ∀ (σ : TH) (l0 : Nat) (l1 : Int32) (l2 : Int32) (l3 : Int32), rec_5 σ l0 l1 l2 l3 = some (w, z) → v_ l D cy ka cX15_goesText RX15 4 none "goesText" fr lo (qm_ D cy σ0 z (fun _ : Unit => none) w) σ0 z σ 5 [(0, va_rf (some l0)), (1, .int l1), (2, .int l2), (3, .int l3)] []) : ∀ (n : Nat) (σ : TH) (l0 : Nat) (l1 : Int32) (l2 : Int32) (l3 : Int32), f_X15_goesText_b131 slf rec_5 n σ l0 l1 l2 l3 = some (w, z) → v_ l D cy ka cX15_goesText RX15 4 none "goesText" fr lo (qm_ D cy σ0 z (fun _ : Unit => none) w) σ0 z σ 131 [(0, va_rf (some l0)), (1, .int l1), (2, .int l2), (3, .int l3)] [] := by
  intro n
  induction n with
  | zero => intro σ l0 l1 l2 l3 hf; unfold f_X15_goesText_b131 at hf; cases hf
  | succ n ih =>
    intro σ l0 l1 l2 l3 hf
    unfold f_X15_goesText_b131 at hf
    have hrec_131 := ih
    refine v_aload_n (x := (some l0)) dX15_goesText_131 rfl 0 rfl ?_
    refine v_aload_n (x := (some l0)) dX15_goesText_132 rfl 0 rfl ?_
    obtain ⟨hk_l0, hf⟩ := gt_of hf
    refine v_geti cb_16 hk_l0 32 1632 rfl (by decide) rfl (lk_n kw_1489 rfl) hf dX15_goesText_133 (fun x31 hf => ?_)
    obtain ⟨x32, s33, hcs33, hf⟩ := bd_of hf
    have hts33 := c_X15_byteAt (l := l) (D := D) (cy := cy) (ka := ka) hcs33
    refine v_callV cb_16 hk_l0 (As := [.int x31]) (rest := []) hts33 yb_X15_byteAt kw_1881 kw_1883 kp_98 rfl ⟨by omega, by omega⟩ rfl (cat_len (Nat.le_of_ble_eq_true rfl)) dX15_goesText_136 ?_
    have hk_l0 := tk_ hts33.1 hk_l0
    show v_ l D cy ka cX15_goesText RX15 4 none "goesText" fr lo (qm_ D cy σ0 z (fun _ : Unit => none) w) σ0 z _ 139 [(0, va_rf (some l0)), (1, .int l1), (2, .int l2), (3, .int l3)] [.int x32]
    obtain ⟨x34, s35, hcs35, hf⟩ := bd_of hf
    have hts35 := c_X15_isPlain (l := l) (D := D) (cy := cy) (ka := ka) hcs35
    refine v_callS (As := [.int x32]) (rest := []) hts35 yb_X15_isPlain kw_1885 kw_1886 rfl ⟨by omega, by omega⟩ rfl (cat_len (Nat.le_of_ble_eq_true rfl)) dX15_goesText_139 ?_
    have hk_l0 := tk_ hts35.1 hk_l0
    show v_ l D cy ka cX15_goesText RX15 4 none "goesText" fr lo (qm_ D cy σ0 z (fun _ : Unit => none) w) σ0 z _ 142 [(0, va_rf (some l0)), (1, .int l1), (2, .int l2), (3, .int l3)] [.int x34]
    refine v_if_eq (tgt := 5) hf dX15_goesText_142 (by decide) (fun hq hf => ?_) (fun hq hf => ?_)
    · refine v_sub [0, 1, 2, 3] (L2 := [(0, va_rf (some l0)), (1, .int l1), (2, .int l2), (3, .int l3)]) rfl ?_
      exact hrec_5 _ _ _ _ _ hf
    · refine v_iload_n (x := l2) dX15_goesText_145 rfl 2 rfl ?_
      refine v_if_eq (tgt := 161) hf dX15_goesText_146 (by decide) (fun hq hf => ?_) (fun hq hf => ?_)
      · refine v_sub [0, 1, 2, 3] (L2 := [(0, va_rf (some l0)), (1, .int l1), (2, .int l2), (3, .int l3)]) rfl ?_
        exact t_X15_goesText_b161 hfl hslf hrec_131 hf
      · refine v_aload_n (x := (some l0)) dX15_goesText_149 rfl 0 rfl ?_
        refine v_aload_n (x := (some l0)) dX15_goesText_150 rfl 0 rfl ?_
        refine v_aload_n (x := (some l0)) dX15_goesText_151 rfl 0 rfl ?_
        refine v_geti cb_16 hk_l0 32 1632 rfl (by decide) rfl (lk_n kw_1489 rfl) hf dX15_goesText_152 (fun x38 hf => ?_)
        obtain ⟨x39, s40, hcs40, hf⟩ := bd_of hf
        have hts40 := c_X15_byteAt (l := l) (D := D) (cy := cy) (ka := ka) hcs40
        refine v_callV cb_16 hk_l0 (As := [.int x38]) (rest := [va_rf (some l0)]) hts40 yb_X15_byteAt kw_1881 kw_1883 kp_98 rfl ⟨by omega, by omega⟩ rfl (cat_len (Nat.le_of_ble_eq_true rfl)) dX15_goesText_155 ?_
        have hk_l0 := tk_ hts40.1 hk_l0
        show v_ l D cy ka cX15_goesText RX15 4 none "goesText" fr lo (qm_ D cy σ0 z (fun _ : Unit => none) w) σ0 z _ 158 [(0, va_rf (some l0)), (1, .int l1), (2, .int l2), (3, .int l3)] [.int x39, va_rf (some l0)]
        obtain ⟨x41, s42, hcs42, hf⟩ := bd_of hf
        have hts42 := c_X15_prints (l := l) (D := D) (cy := cy) (ka := ka) hcs42
        refine v_callV cb_16 hk_l0 (As := [.int x39]) (rest := []) hts42 yb_X15_prints kw_2006 kw_2008 kp_120 rfl ⟨by omega, by omega⟩ rfl (cat_len (Nat.le_of_ble_eq_true rfl)) dX15_goesText_158 ?_
        have hk_l0 := tk_ hts42.1 hk_l0
        show v_ l D cy ka cX15_goesText RX15 4 none "goesText" fr lo (qm_ D cy σ0 z (fun _ : Unit => none) w) σ0 z _ 161 [(0, va_rf (some l0)), (1, .int l1), (2, .int l2), (3, .int l3)] []
        refine v_sub [0, 1, 2, 3] (L2 := [(0, va_rf (some l0)), (1, .int l1), (2, .int l2), (3, .int l3)]) rfl ?_
        exact t_X15_goesText_b161 hfl hslf hrec_131 hf
def f_X15_goesText_b80 (slf : TH → Nat → Int32 → Int32 → Option ((Unit ⊕ Nat) × TH)) (rec_5 : TH → Nat → Int32 → Int32 → Int32 → Option ((Unit ⊕ Nat) × TH)) (σ : TH) (l0 : Nat) (l1 : Int32) (l2 : Int32) (l3 : Int32) : Option ((Unit ⊕ Nat) × TH) :=
  gt_ (kd_ σ l0 = 17) <| lt_ (fi_ σ 1638 l0) fun x19 => if x19 = (60 : Int32) then (lt_ (fi_ σ 1632 l0) fun x20 => bd_ (f_X15_stop σ l0 (3 : Int32) x20) fun r21 s22 => nn_ r21 fun a23 => gt_ (kd_ s22 a23 = 16) <| some (.inr a23, s22)) else (lt_ (fi_ σ 1638 l0) fun x24 => lt_ (si_ σ 1638 l0 (x24 + (1 : Int32))) fun s25 => lt_ (fi_ s25 1632 l0) fun x26 => bd_ (f_X15_byteAt s25 l0 x26) fun x27 s28 => if x27 = (123 : Int32) then (bx_ (g_X15_goesBrace slf s28 l0 l1 l2) fun x29 s30 => rec_5 s30 l0 l1 l2 l3) else (f_X15_goesText_b131 slf rec_5 fu_ s28 l0 l1 l2 l3))
set_option maxHeartbeats 4000000 in
set_option maxRecDepth 100000 in
theorem t_X15_goesText_b80 {l : Launch} {D : va_G} {cy : Nat → ClassId} {ka : Nat → Nat} {σ0 z : TH} {w : (Unit ⊕ Nat)} {slf : TH → Nat → Int32 → Int32 → Option ((Unit ⊕ Nat) × TH)} {fr lo fr2 lo2 : Nat} {rec_5 : TH → Nat → Int32 → Int32 → Int32 → Option ((Unit ⊕ Nat) × TH)} (hfl : 14 ≤ fr ∧ 306 ≤ lo ∧ fr2 + 2 ≤ fr ∧ 47 + lo2 ≤ lo) (hslf : ∀ (σ : TH) (q0 : Nat) (q1 : Int32) (q2 : Int32) (w : Unit ⊕ Nat) (z : TH), slf σ q0 q1 q2 = some (w, z) → cm_ l D cy ka yX15_goesText fr2 lo2 [va_rf (some q0), .int q1, .int q2] σ (fun _ : Unit => none) w z) (hrec_5 : ∀ (σ : TH) (l0 : Nat) (l1 : Int32) (l2 : Int32) (l3 : Int32), rec_5 σ l0 l1 l2 l3 = some (w, z) → v_ l D cy ka cX15_goesText RX15 4 none "goesText" fr lo (qm_ D cy σ0 z (fun _ : Unit => none) w) σ0 z σ 5 [(0, va_rf (some l0)), (1, .int l1), (2, .int l2), (3, .int l3)] []) {σ : TH} {l0 : Nat} {l1 : Int32} {l2 : Int32} {l3 : Int32} (hf : f_X15_goesText_b80 slf rec_5 σ l0 l1 l2 l3 = some (w, z)) : v_ l D cy ka cX15_goesText RX15 4 none "goesText" fr lo (qm_ D cy σ0 z (fun _ : Unit => none) w) σ0 z σ 80 [(0, va_rf (some l0)), (1, .int l1), (2, .int l2), (3, .int l3)] [] := by
  unfold f_X15_goesText_b80 at hf
  refine v_aload_n (x := (some l0)) dX15_goesText_80 rfl 0 rfl ?_
  obtain ⟨hk_l0, hf⟩ := gt_of hf
  refine v_geti cb_16 hk_l0 38 1638 rfl (by decide) rfl (lk_n kw_1495 rfl) hf dX15_goesText_81 (fun x19 hf => ?_)
  refine v_bipush (v := 60) dX15_goesText_84 (by decide) ?_
  refine v_icmp_ne (tgt := 99) hf dX15_goesText_86 (by decide) (fun hq hf => ?_) (fun hq hf => ?_)
  · refine v_aload_n (x := (some l0)) dX15_goesText_89 rfl 0 rfl ?_
    refine v_iconst (v := 3) dX15_goesText_90 (by decide) ?_
    refine v_aload_n (x := (some l0)) dX15_goesText_91 rfl 0 rfl ?_
    refine v_geti cb_16 hk_l0 32 1632 rfl (by decide) rfl (lk_n kw_1489 rfl) hf dX15_goesText_92 (fun x20 hf => ?_)
    obtain ⟨r21, s22, hcs22, hf⟩ := bd_of hf
    have hts22 := c_X15_stop (l := l) (D := D) (cy := cy) (ka := ka) hcs22
    refine v_callV cb_16 hk_l0 (As := [.int (3 : Int32), .int x20]) (rest := []) hts22 yb_X15_stop kw_1888 kw_1890 kp_99 rfl ⟨by omega, by omega⟩ rfl (cat_len (Nat.le_of_ble_eq_true rfl)) dX15_goesText_95 ?_
    have hk_l0 := tk_ hts22.1 hk_l0
    show v_ l D cy ka cX15_goesText RX15 4 none "goesText" fr lo (qm_ D cy σ0 z (fun _ : Unit => none) w) σ0 z _ 98 [(0, va_rf (some l0)), (1, .int l1), (2, .int l2), (3, .int l3)] [va_rf r21]
    obtain ⟨a23, rfl, hf⟩ := nn_of hf
    obtain ⟨hk_a23, hf⟩ := gt_of hf
    exact v_athrow hk_a23 (by decide +kernel) hf dX15_goesText_98
  · refine v_aload_n (x := (some l0)) dX15_goesText_99 rfl 0 rfl ?_
    refine v_dup dX15_goesText_100 (va_rf_cat _) ?_
    refine v_geti cb_16 hk_l0 38 1638 rfl (by decide) rfl (lk_n kw_1495 rfl) hf dX15_goesText_101 (fun x24 hf => ?_)
    refine v_iconst (v := 1) dX15_goesText_104 (by decide) ?_
    refine v_iadd dX15_goesText_105 ?_
    refine v_puti2 cb_16 hk_l0 38 1638 rfl (by decide) rfl (lk_n kw_1495 rfl) (Or.inl rfl) rfl rfl hf dX15_goesText_106 (fun s25 hts25 hf => ?_)
    have hk_l0 := tk_ hts25 hk_l0
    refine v_aload_n (x := (some l0)) dX15_goesText_109 rfl 0 rfl ?_
    refine v_aload_n (x := (some l0)) dX15_goesText_110 rfl 0 rfl ?_
    refine v_geti cb_16 hk_l0 32 1632 rfl (by decide) rfl (lk_n kw_1489 rfl) hf dX15_goesText_111 (fun x26 hf => ?_)
    obtain ⟨x27, s28, hcs28, hf⟩ := bd_of hf
    have hts28 := c_X15_byteAt (l := l) (D := D) (cy := cy) (ka := ka) hcs28
    refine v_callV cb_16 hk_l0 (As := [.int x26]) (rest := []) hts28 yb_X15_byteAt kw_1881 kw_1883 kp_98 rfl ⟨by omega, by omega⟩ rfl (cat_len (Nat.le_of_ble_eq_true rfl)) dX15_goesText_114 ?_
    have hk_l0 := tk_ hts28.1 hk_l0
    show v_ l D cy ka cX15_goesText RX15 4 none "goesText" fr lo (qm_ D cy σ0 z (fun _ : Unit => none) w) σ0 z _ 117 [(0, va_rf (some l0)), (1, .int l1), (2, .int l2), (3, .int l3)] [.int x27]
    refine v_bipush (v := 123) dX15_goesText_117 (by decide) ?_
    refine v_icmp_ne (tgt := 131) hf dX15_goesText_119 (by decide) (fun hq hf => ?_) (fun hq hf => ?_)
    · refine v_aload_n (x := (some l0)) dX15_goesText_122 rfl 0 rfl ?_
      refine v_iload_n (x := l1) dX15_goesText_123 rfl 1 rfl ?_
      refine v_iload_n (x := l2) dX15_goesText_124 rfl 2 rfl ?_
      rcases bx_of hf with ⟨x29, s30, hcs30, hf⟩ | ⟨q9, s9, hc9, hf⟩
      rotate_left
      · have ht9 := e_X15_goesBrace (l := l) (D := D) (cy := cy) (ka := ka) (fr := fr - 1) (lo := lo - 24) ⟨by omega, by omega, by omega, by omega⟩ hslf hc9
        exact v_callVX cb_16 hk_l0 (As := [.int l1, .int l2]) (rest := []) ht9 yb_X15_goesBrace kw_1892 kw_1894 kp_100 rfl ⟨by omega, by omega⟩ rfl (cat_len (Nat.le_of_ble_eq_true rfl)) (by decide +kernel) hf dX15_goesText_125
      have hts30 := e_X15_goesBrace (l := l) (D := D) (cy := cy) (ka := ka) (fr := fr - 1) (lo := lo - 24) ⟨by omega, by omega, by omega, by omega⟩ hslf hcs30
      refine v_callV cb_16 hk_l0 (As := [.int l1, .int l2]) (rest := []) hts30 yb_X15_goesBrace kw_1892 kw_1894 kp_100 rfl ⟨by omega, by omega⟩ rfl (cat_len (Nat.le_of_ble_eq_true rfl)) dX15_goesText_125 ?_
      have hk_l0 := tk_ hts30.1 hk_l0
      show v_ l D cy ka cX15_goesText RX15 4 none "goesText" fr lo (qm_ D cy σ0 z (fun _ : Unit => none) w) σ0 z _ 128 [(0, va_rf (some l0)), (1, .int l1), (2, .int l2), (3, .int l3)] []
      refine v_goto (tgt := 5) dX15_goesText_128 (by decide) ?_
      refine v_sub [0, 1, 2, 3] (L2 := [(0, va_rf (some l0)), (1, .int l1), (2, .int l2), (3, .int l3)]) rfl ?_
      exact hrec_5 _ _ _ _ _ hf
    · refine v_sub [0, 1, 2, 3] (L2 := [(0, va_rf (some l0)), (1, .int l1), (2, .int l2), (3, .int l3)]) rfl ?_
      exact t_X15_goesText_b131 hfl hslf hrec_5 _ _ _ _ _ _ hf
def f_X15_goesText_b5 (slf : TH → Nat → Int32 → Int32 → Option ((Unit ⊕ Nat) × TH)) : Nat → TH → Nat → Int32 → Int32 → Int32 → Option ((Unit ⊕ Nat) × TH)
  | 0, _, _, _, _, _ => none
  | n + 1, σ, l0, l1, l2, l3 => gt_ (kd_ σ l0 = 17) <| lt_ (fi_ σ 1632 l0) fun x2 => bd_ (f_X15_byteAt σ l0 x2) fun x3 s4 => if x3 = (-1 : Int32) then (f_X15_goesText_b174 slf s4 l0 l3) else (lt_ (fi_ s4 1632 l0) fun x10 => bd_ (f_X15_byteAt s4 l0 x10) fun x11 s12 => if x11 = (125 : Int32) then (f_X15_goesText_b174 slf s12 l0 l3) else (lt_ (fi_ s12 1632 l0) fun x13 => bd_ (f_X15_byteAt s12 l0 x13) fun x14 s15 => if x14 = (124 : Int32) then (f_X15_goesText_b174 slf s15 l0 l3) else (lt_ (fi_ s15 1632 l0) fun x16 => bd_ (f_X15_byteAt s15 l0 x16) fun x17 s18 => if x17 = (123 : Int32) then (f_X15_goesText_b80 slf (f_X15_goesText_b5 slf n) s18 l0 l1 l2 l3) else (lt_ (fi_ s18 1632 l0) fun x43 => bd_ (f_X15_byteAt s18 l0 x43) fun x44 s45 => bd_ (f_X15_isPlain s45 x44) fun x46 s47 => if x46 = 0 then (lt_ (fi_ s47 1632 l0) fun x48 => bd_ (f_X15_stop s47 l0 (1 : Int32) x48) fun r49 s50 => nn_ r49 fun a51 => gt_ (kd_ s50 a51 = 16) <| some (.inr a51, s50)) else (f_X15_goesText_b80 slf (f_X15_goesText_b5 slf n) s47 l0 l1 l2 l3)))))
set_option maxHeartbeats 4000000 in
set_option maxRecDepth 100000 in
theorem t_X15_goesText_b5 {l : Launch} {D : va_G} {cy : Nat → ClassId} {ka : Nat → Nat} {σ0 z : TH} {w : (Unit ⊕ Nat)} {slf : TH → Nat → Int32 → Int32 → Option ((Unit ⊕ Nat) × TH)} {fr lo fr2 lo2 : Nat} (hfl : 14 ≤ fr ∧ 306 ≤ lo ∧ fr2 + 2 ≤ fr ∧ 47 + lo2 ≤ lo) (hslf : ∀ (σ : TH) (q0 : Nat) (q1 : Int32) (q2 : Int32) (w : Unit ⊕ Nat) (z : TH), slf σ q0 q1 q2 = some (w, z) → cm_ l D cy ka yX15_goesText fr2 lo2 [va_rf (some q0), .int q1, .int q2] σ (fun _ : Unit => none) w z)  : ∀ (n : Nat) (σ : TH) (l0 : Nat) (l1 : Int32) (l2 : Int32) (l3 : Int32), f_X15_goesText_b5 slf n σ l0 l1 l2 l3 = some (w, z) → v_ l D cy ka cX15_goesText RX15 4 none "goesText" fr lo (qm_ D cy σ0 z (fun _ : Unit => none) w) σ0 z σ 5 [(0, va_rf (some l0)), (1, .int l1), (2, .int l2), (3, .int l3)] [] := by
  intro n
  induction n with
  | zero => intro σ l0 l1 l2 l3 hf; unfold f_X15_goesText_b5 at hf; cases hf
  | succ n ih =>
    intro σ l0 l1 l2 l3 hf
    unfold f_X15_goesText_b5 at hf
    have hrec_5 := ih
    refine v_aload_n (x := (some l0)) dX15_goesText_5 rfl 0 rfl ?_
    refine v_aload_n (x := (some l0)) dX15_goesText_6 rfl 0 rfl ?_
    obtain ⟨hk_l0, hf⟩ := gt_of hf
    refine v_geti cb_16 hk_l0 32 1632 rfl (by decide) rfl (lk_n kw_1489 rfl) hf dX15_goesText_7 (fun x2 hf => ?_)
    obtain ⟨x3, s4, hcs4, hf⟩ := bd_of hf
    have hts4 := c_X15_byteAt (l := l) (D := D) (cy := cy) (ka := ka) hcs4
    refine v_callV cb_16 hk_l0 (As := [.int x2]) (rest := []) hts4 yb_X15_byteAt kw_1881 kw_1883 kp_98 rfl ⟨by omega, by omega⟩ rfl (cat_len (Nat.le_of_ble_eq_true rfl)) dX15_goesText_10 ?_
    have hk_l0 := tk_ hts4.1 hk_l0
    show v_ l D cy ka cX15_goesText RX15 4 none "goesText" fr lo (qm_ D cy σ0 z (fun _ : Unit => none) w) σ0 z _ 13 [(0, va_rf (some l0)), (1, .int l1), (2, .int l2), (3, .int l3)] [.int x3]
    refine v_iconst (v := (-1)) dX15_goesText_13 (by decide) ?_
    refine v_icmp_eq (tgt := 174) hf dX15_goesText_14 (by decide) (fun hq hf => ?_) (fun hq hf => ?_)
    · refine v_sub [0, 3] (L2 := [(0, va_rf (some l0)), (3, .int l3)]) rfl ?_
      exact t_X15_goesText_b174 hfl hslf  hf
    · refine v_aload_n (x := (some l0)) dX15_goesText_17 rfl 0 rfl ?_
      refine v_aload_n (x := (some l0)) dX15_goesText_18 rfl 0 rfl ?_
      refine v_geti cb_16 hk_l0 32 1632 rfl (by decide) rfl (lk_n kw_1489 rfl) hf dX15_goesText_19 (fun x10 hf => ?_)
      obtain ⟨x11, s12, hcs12, hf⟩ := bd_of hf
      have hts12 := c_X15_byteAt (l := l) (D := D) (cy := cy) (ka := ka) hcs12
      refine v_callV cb_16 hk_l0 (As := [.int x10]) (rest := []) hts12 yb_X15_byteAt kw_1881 kw_1883 kp_98 rfl ⟨by omega, by omega⟩ rfl (cat_len (Nat.le_of_ble_eq_true rfl)) dX15_goesText_22 ?_
      have hk_l0 := tk_ hts12.1 hk_l0
      show v_ l D cy ka cX15_goesText RX15 4 none "goesText" fr lo (qm_ D cy σ0 z (fun _ : Unit => none) w) σ0 z _ 25 [(0, va_rf (some l0)), (1, .int l1), (2, .int l2), (3, .int l3)] [.int x11]
      refine v_bipush (v := 125) dX15_goesText_25 (by decide) ?_
      refine v_icmp_eq (tgt := 174) hf dX15_goesText_27 (by decide) (fun hq hf => ?_) (fun hq hf => ?_)
      · refine v_sub [0, 3] (L2 := [(0, va_rf (some l0)), (3, .int l3)]) rfl ?_
        exact t_X15_goesText_b174 hfl hslf  hf
      · refine v_aload_n (x := (some l0)) dX15_goesText_30 rfl 0 rfl ?_
        refine v_aload_n (x := (some l0)) dX15_goesText_31 rfl 0 rfl ?_
        refine v_geti cb_16 hk_l0 32 1632 rfl (by decide) rfl (lk_n kw_1489 rfl) hf dX15_goesText_32 (fun x13 hf => ?_)
        obtain ⟨x14, s15, hcs15, hf⟩ := bd_of hf
        have hts15 := c_X15_byteAt (l := l) (D := D) (cy := cy) (ka := ka) hcs15
        refine v_callV cb_16 hk_l0 (As := [.int x13]) (rest := []) hts15 yb_X15_byteAt kw_1881 kw_1883 kp_98 rfl ⟨by omega, by omega⟩ rfl (cat_len (Nat.le_of_ble_eq_true rfl)) dX15_goesText_35 ?_
        have hk_l0 := tk_ hts15.1 hk_l0
        show v_ l D cy ka cX15_goesText RX15 4 none "goesText" fr lo (qm_ D cy σ0 z (fun _ : Unit => none) w) σ0 z _ 38 [(0, va_rf (some l0)), (1, .int l1), (2, .int l2), (3, .int l3)] [.int x14]
        refine v_bipush (v := 124) dX15_goesText_38 (by decide) ?_
        refine v_icmp_eq (tgt := 174) hf dX15_goesText_40 (by decide) (fun hq hf => ?_) (fun hq hf => ?_)
        · refine v_sub [0, 3] (L2 := [(0, va_rf (some l0)), (3, .int l3)]) rfl ?_
          exact t_X15_goesText_b174 hfl hslf  hf
        · refine v_aload_n (x := (some l0)) dX15_goesText_43 rfl 0 rfl ?_
          refine v_aload_n (x := (some l0)) dX15_goesText_44 rfl 0 rfl ?_
          refine v_geti cb_16 hk_l0 32 1632 rfl (by decide) rfl (lk_n kw_1489 rfl) hf dX15_goesText_45 (fun x16 hf => ?_)
          obtain ⟨x17, s18, hcs18, hf⟩ := bd_of hf
          have hts18 := c_X15_byteAt (l := l) (D := D) (cy := cy) (ka := ka) hcs18
          refine v_callV cb_16 hk_l0 (As := [.int x16]) (rest := []) hts18 yb_X15_byteAt kw_1881 kw_1883 kp_98 rfl ⟨by omega, by omega⟩ rfl (cat_len (Nat.le_of_ble_eq_true rfl)) dX15_goesText_48 ?_
          have hk_l0 := tk_ hts18.1 hk_l0
          show v_ l D cy ka cX15_goesText RX15 4 none "goesText" fr lo (qm_ D cy σ0 z (fun _ : Unit => none) w) σ0 z _ 51 [(0, va_rf (some l0)), (1, .int l1), (2, .int l2), (3, .int l3)] [.int x17]
          refine v_bipush (v := 123) dX15_goesText_51 (by decide) ?_
          refine v_icmp_eq (tgt := 80) hf dX15_goesText_53 (by decide) (fun hq hf => ?_) (fun hq hf => ?_)
          · refine v_sub [0, 1, 2, 3] (L2 := [(0, va_rf (some l0)), (1, .int l1), (2, .int l2), (3, .int l3)]) rfl ?_
            exact t_X15_goesText_b80 hfl hslf hrec_5 hf
          · refine v_aload_n (x := (some l0)) dX15_goesText_56 rfl 0 rfl ?_
            refine v_aload_n (x := (some l0)) dX15_goesText_57 rfl 0 rfl ?_
            refine v_geti cb_16 hk_l0 32 1632 rfl (by decide) rfl (lk_n kw_1489 rfl) hf dX15_goesText_58 (fun x43 hf => ?_)
            obtain ⟨x44, s45, hcs45, hf⟩ := bd_of hf
            have hts45 := c_X15_byteAt (l := l) (D := D) (cy := cy) (ka := ka) hcs45
            refine v_callV cb_16 hk_l0 (As := [.int x43]) (rest := []) hts45 yb_X15_byteAt kw_1881 kw_1883 kp_98 rfl ⟨by omega, by omega⟩ rfl (cat_len (Nat.le_of_ble_eq_true rfl)) dX15_goesText_61 ?_
            have hk_l0 := tk_ hts45.1 hk_l0
            show v_ l D cy ka cX15_goesText RX15 4 none "goesText" fr lo (qm_ D cy σ0 z (fun _ : Unit => none) w) σ0 z _ 64 [(0, va_rf (some l0)), (1, .int l1), (2, .int l2), (3, .int l3)] [.int x44]
            obtain ⟨x46, s47, hcs47, hf⟩ := bd_of hf
            have hts47 := c_X15_isPlain (l := l) (D := D) (cy := cy) (ka := ka) hcs47
            refine v_callS (As := [.int x44]) (rest := []) hts47 yb_X15_isPlain kw_1885 kw_1886 rfl ⟨by omega, by omega⟩ rfl (cat_len (Nat.le_of_ble_eq_true rfl)) dX15_goesText_64 ?_
            have hk_l0 := tk_ hts47.1 hk_l0
            show v_ l D cy ka cX15_goesText RX15 4 none "goesText" fr lo (qm_ D cy σ0 z (fun _ : Unit => none) w) σ0 z _ 67 [(0, va_rf (some l0)), (1, .int l1), (2, .int l2), (3, .int l3)] [.int x46]
            refine v_if_ne (tgt := 80) hf dX15_goesText_67 (by decide) (fun hq hf => ?_) (fun hq hf => ?_)
            · refine v_aload_n (x := (some l0)) dX15_goesText_70 rfl 0 rfl ?_
              refine v_iconst (v := 1) dX15_goesText_71 (by decide) ?_
              refine v_aload_n (x := (some l0)) dX15_goesText_72 rfl 0 rfl ?_
              refine v_geti cb_16 hk_l0 32 1632 rfl (by decide) rfl (lk_n kw_1489 rfl) hf dX15_goesText_73 (fun x48 hf => ?_)
              obtain ⟨r49, s50, hcs50, hf⟩ := bd_of hf
              have hts50 := c_X15_stop (l := l) (D := D) (cy := cy) (ka := ka) hcs50
              refine v_callV cb_16 hk_l0 (As := [.int (1 : Int32), .int x48]) (rest := []) hts50 yb_X15_stop kw_1888 kw_1890 kp_99 rfl ⟨by omega, by omega⟩ rfl (cat_len (Nat.le_of_ble_eq_true rfl)) dX15_goesText_76 ?_
              have hk_l0 := tk_ hts50.1 hk_l0
              show v_ l D cy ka cX15_goesText RX15 4 none "goesText" fr lo (qm_ D cy σ0 z (fun _ : Unit => none) w) σ0 z _ 79 [(0, va_rf (some l0)), (1, .int l1), (2, .int l2), (3, .int l3)] [va_rf r49]
              obtain ⟨a51, rfl, hf⟩ := nn_of hf
              obtain ⟨hk_a51, hf⟩ := gt_of hf
              exact v_athrow hk_a51 (by decide +kernel) hf dX15_goesText_79
            · refine v_sub [0, 1, 2, 3] (L2 := [(0, va_rf (some l0)), (1, .int l1), (2, .int l2), (3, .int l3)]) rfl ?_
              exact t_X15_goesText_b80 hfl hslf hrec_5 hf
/-- LivesAheadModel.goesText(IZ)V: its body, over itself -/
def g_X15_goesText (slf : TH → Nat → Int32 → Int32 → Option ((Unit ⊕ Nat) × TH)) (σ : TH) (p0 : Nat) (p1 : Int32) (p2 : Int32) : Option ((Unit ⊕ Nat) × TH) :=
  gt_ (kd_ σ p0 = 17) <| lt_ (fi_ σ 1632 p0) fun x1 => f_X15_goesText_b5 slf fu_ σ p0 p1 p2 x1
set_option maxHeartbeats 4000000 in
set_option maxRecDepth 100000 in
theorem e_X15_goesText {l : Launch} {D : va_G} {cy : Nat → ClassId} {ka : Nat → Nat} {σ z : TH} {p0 : Nat} {p1 : Int32} {p2 : Int32} {w : (Unit ⊕ Nat)} {slf : TH → Nat → Int32 → Int32 → Option ((Unit ⊕ Nat) × TH)} {fr lo fr2 lo2 : Nat} (hfl : 14 ≤ fr ∧ 306 ≤ lo ∧ fr2 + 2 ≤ fr ∧ 47 + lo2 ≤ lo) (hslf : ∀ (σ : TH) (q0 : Nat) (q1 : Int32) (q2 : Int32) (w : Unit ⊕ Nat) (z : TH), slf σ q0 q1 q2 = some (w, z) → cm_ l D cy ka yX15_goesText fr2 lo2 [va_rf (some q0), .int q1, .int q2] σ (fun _ : Unit => none) w z) (hf : g_X15_goesText slf σ p0 p1 p2 = some (w, z)) : cm_ l D cy ka yX15_goesText fr lo [va_rf (some p0), .int p1, .int p2] σ (fun _ : Unit => none) w z := by
  unfold g_X15_goesText at hf
  refine m_start (rf := (fun _ : Unit => none)) (w := w) (cc := cX15_goesText) (own := RX15) (maxL := 4) (ret := none) (nm := "goesText") (by decide +kernel) kw_1880 rfl rfl (by simp [lg_sl, va_rf_cat, cat_i, cat_l]) ?_
  refine v_eqL (L2 := [(0, va_rf (some p0)), (1, .int p1), (2, .int p2)]) (by simp [lv_args, va_rf_cat, cat_i, cat_l]) ?_
  refine v_aload_n (x := (some p0)) dX15_goesText_0 rfl 0 rfl ?_
  obtain ⟨hk_p0, hf⟩ := gt_of hf
  refine v_geti cb_16 hk_p0 32 1632 rfl (by decide) rfl (lk_n kw_1489 rfl) hf dX15_goesText_1 (fun x1 hf => ?_)
  refine v_istore_n [(3, .int x1), (0, va_rf (some p0)), (1, .int p1), (2, .int p2)] dX15_goesText_4 rfl (by decide) rfl ?_
  refine v_sub [1, 2, 3, 0] (L2 := [(0, va_rf (some p0)), (1, .int p1), (2, .int p2), (3, .int x1)]) rfl ?_
  exact t_X15_goesText_b5 hfl hslf  _ _ _ _ _ _ hf
def f_X15_goesText : Nat → TH → Nat → Int32 → Int32 → Option ((Unit ⊕ Nat) × TH)
  | 0, _, _, _, _ => none
  | d + 1, σ, p0, p1, p2 => g_X15_goesText (f_X15_goesText d) σ p0 p1 p2
theorem c_X15_goesText {l : Launch} {D : va_G} {cy : Nat → ClassId} {ka : Nat → Nat} : ∀ (d : Nat) {σ z : TH} {p0 : Nat} {p1 : Int32} {p2 : Int32} {w : (Unit ⊕ Nat)}, f_X15_goesText d σ p0 p1 p2 = some (w, z) → cm_ l D cy ka yX15_goesText (14 + 2 * d) (306 + 47 * d) [va_rf (some p0), .int p1, .int p2] σ (fun _ : Unit => none) w z := by
  intro d
  induction d with
  | zero => intro σ z p0 p1 p2 w hf; unfold f_X15_goesText at hf; cases hf
  | succ d ih =>
    intro σ z p0 p1 p2 w hf
    unfold f_X15_goesText at hf
    exact e_X15_goesText (fr2 := 14 + 2 * d) (lo2 := 306 + 47 * d) ⟨by omega, by omega, by omega, by omega⟩ (fun _ _ _ _ _ _ h => ih h) hf
theorem dX15_goes_0 : decode cX15_goes 0 = .ok (.aload_n 0, 1) := by decide +kernel
theorem dX15_goes_1 : decode cX15_goes 1 = .ok (.aload_n 1, 1) := by decide +kernel
theorem dX15_goes_2 : decode cX15_goes 2 = .ok (.iload_n 2, 1) := by decide +kernel
theorem dX15_goes_3 : decode cX15_goes 3 = .ok (.iload_n 3, 1) := by decide +kernel
theorem dX15_goes_4 : decode cX15_goes 4 = .ok (.invokevirtual 462, 3) := by decide +kernel
theorem dX15_goes_7 : decode cX15_goes 7 = .ok (.aload_n 0, 1) := by decide +kernel
theorem dX15_goes_8 : decode cX15_goes 8 = .ok (.iconst 0, 1) := by decide +kernel
theorem dX15_goes_9 : decode cX15_goes 9 = .ok (.putfield 388, 3) := by decide +kernel
theorem dX15_goes_12 : decode cX15_goes 12 = .ok (.aload_n 0, 1) := by decide +kernel
theorem dX15_goes_13 : decode cX15_goes 13 = .ok (.iconst 0, 1) := by decide +kernel
theorem dX15_goes_14 : decode cX15_goes 14 = .ok (.iload 4, 2) := by decide +kernel
theorem dX15_goes_16 : decode cX15_goes 16 = .ok (.invokevirtual 373, 3) := by decide +kernel
theorem dX15_goes_19 : decode cX15_goes 19 = .ok (.aload_n 0, 1) := by decide +kernel
theorem dX15_goes_20 : decode cX15_goes 20 = .ok (.getfield 289, 3) := by decide +kernel
theorem dX15_goes_23 : decode cX15_goes 23 = .ok (.aload_n 0, 1) := by decide +kernel
theorem dX15_goes_24 : decode cX15_goes 24 = .ok (.getfield 275, 3) := by decide +kernel
theorem dX15_goes_27 : decode cX15_goes 27 = .ok (.if_icmp .ge 13, 3) := by decide +kernel
theorem dX15_goes_30 : decode cX15_goes 30 = .ok (.aload_n 0, 1) := by decide +kernel
theorem dX15_goes_31 : decode cX15_goes 31 = .ok (.iconst 1, 1) := by decide +kernel
theorem dX15_goes_32 : decode cX15_goes 32 = .ok (.aload_n 0, 1) := by decide +kernel
theorem dX15_goes_33 : decode cX15_goes 33 = .ok (.getfield 289, 3) := by decide +kernel
theorem dX15_goes_36 : decode cX15_goes 36 = .ok (.invokevirtual 342, 3) := by decide +kernel
theorem dX15_goes_39 : decode cX15_goes 39 = .ok (.athrow, 1) := by decide +kernel
theorem dX15_goes_40 : decode cX15_goes 40 = .ok (.return_, 1) := by decide +kernel
/-- LivesAheadModel.goes([BIIZ)V -/
def f_X15_goes (σ : TH) (p0 : Nat) (p1 : Option Nat) (p2 : Int32) (p3 : Int32) (p4 : Int32) : Option ((Unit ⊕ Nat) × TH) :=
  gt_ (kd_ σ p0 = 17) <| bd_ (f_X15_starts σ p0 p1 p2 p3) fun x1 s2 => lt_ (si_ s2 1645 p0 (0 : Int32)) fun s3 => bx_ (f_X15_goesText 12 s3 p0 (0 : Int32) p4) fun x4 s5 => lt_ (fi_ s5 1632 p0) fun x6 => lt_ (fi_ s5 1631 p0) fun x7 => if x7 ≤ x6 then (some (.inl (), s5)) else (lt_ (fi_ s5 1632 p0) fun x8 => bd_ (f_X15_stop s5 p0 (1 : Int32) x8) fun r9 s10 => nn_ r9 fun a11 => gt_ (kd_ s10 a11 = 16) <| some (.inr a11, s10))
set_option maxHeartbeats 4000000 in
set_option maxRecDepth 100000 in
theorem c_X15_goes {l : Launch} {D : va_G} {cy : Nat → ClassId} {ka : Nat → Nat} {σ z : TH} {p0 : Nat} {p1 : Option Nat} {p2 : Int32} {p3 : Int32} {p4 : Int32} {w : (Unit ⊕ Nat)} (hf : f_X15_goes σ p0 p1 p2 p3 p4 = some (w, z)) : cm_ l D cy ka yX15_goes 39 893 [va_rf (some p0), va_rf p1, .int p2, .int p3, .int p4] σ (fun _ : Unit => none) w z := by
  unfold f_X15_goes at hf
  refine m_start (rf := (fun _ : Unit => none)) (w := w) (cc := cX15_goes) (own := RX15) (maxL := 5) (ret := none) (nm := "goes") (by decide +kernel) kw_1872 rfl rfl (by simp [lg_sl, va_rf_cat, cat_i, cat_l]) ?_
  refine v_eqL (L2 := [(0, va_rf (some p0)), (1, va_rf p1), (2, .int p2), (3, .int p3), (4, .int p4)]) (by simp [lv_args, va_rf_cat, cat_i, cat_l]) ?_
  refine v_aload_n (x := (some p0)) dX15_goes_0 rfl 0 rfl ?_
  refine v_aload_n (x := p1) dX15_goes_1 rfl 1 rfl ?_
  refine v_iload_n (x := p2) dX15_goes_2 rfl 2 rfl ?_
  refine v_iload_n (x := p3) dX15_goes_3 rfl 3 rfl ?_
  obtain ⟨hk_p0, hf⟩ := gt_of hf
  obtain ⟨x1, s2, hcs2, hf⟩ := bd_of hf
  have hts2 := c_X15_starts (l := l) (D := D) (cy := cy) (ka := ka) hcs2
  refine v_callV cb_16 hk_p0 (As := [va_rf p1, .int p2, .int p3]) (rest := []) hts2 yb_X15_starts kw_1873 kw_1875 kp_96 rfl ⟨Nat.le_of_ble_eq_true rfl, Nat.le_of_ble_eq_true rfl⟩ rfl (cat_len (Nat.le_of_ble_eq_true rfl)) dX15_goes_4 ?_
  have hk_p0 := tk_ hts2.1 hk_p0
  show v_ l D cy ka cX15_goes RX15 5 none "goes" 39 893 (qm_ D cy σ z (fun _ : Unit => none) w) σ z _ 7 [(0, va_rf (some p0)), (1, va_rf p1), (2, .int p2), (3, .int p3), (4, .int p4)] []
  refine v_aload_n (x := (some p0)) dX15_goes_7 rfl 0 rfl ?_
  refine v_iconst (v := 0) dX15_goes_8 (by decide) ?_
  refine v_puti2 cb_16 hk_p0 45 1645 rfl (by decide) rfl (lk_n kw_1502 rfl) (Or.inl rfl) rfl rfl hf dX15_goes_9 (fun s3 hts3 hf => ?_)
  have hk_p0 := tk_ hts3 hk_p0
  refine v_aload_n (x := (some p0)) dX15_goes_12 rfl 0 rfl ?_
  refine v_iconst (v := 0) dX15_goes_13 (by decide) ?_
  refine v_iload (x := p4) dX15_goes_14 4 rfl ?_
  rcases bx_of hf with ⟨x4, s5, hcs5, hf⟩ | ⟨q9, s9, hc9, hf⟩
  rotate_left
  · have ht9 := c_X15_goesText (l := l) (D := D) (cy := cy) (ka := ka) 12 hc9
    exact v_callVX cb_16 hk_p0 (As := [.int (0 : Int32), .int p4]) (rest := []) ht9 yb_X15_goesText kw_1877 kw_1879 kp_97 rfl ⟨Nat.le_of_ble_eq_true rfl, Nat.le_of_ble_eq_true rfl⟩ rfl (cat_len (Nat.le_of_ble_eq_true rfl)) (by decide +kernel) hf dX15_goes_16
  have hts5 := c_X15_goesText (l := l) (D := D) (cy := cy) (ka := ka) 12 hcs5
  refine v_callV cb_16 hk_p0 (As := [.int (0 : Int32), .int p4]) (rest := []) hts5 yb_X15_goesText kw_1877 kw_1879 kp_97 rfl ⟨Nat.le_of_ble_eq_true rfl, Nat.le_of_ble_eq_true rfl⟩ rfl (cat_len (Nat.le_of_ble_eq_true rfl)) dX15_goes_16 ?_
  have hk_p0 := tk_ hts5.1 hk_p0
  show v_ l D cy ka cX15_goes RX15 5 none "goes" 39 893 (qm_ D cy σ z (fun _ : Unit => none) w) σ z _ 19 [(0, va_rf (some p0)), (1, va_rf p1), (2, .int p2), (3, .int p3), (4, .int p4)] []
  refine v_aload_n (x := (some p0)) dX15_goes_19 rfl 0 rfl ?_
  refine v_geti cb_16 hk_p0 32 1632 rfl (by decide) rfl (lk_n kw_1489 rfl) hf dX15_goes_20 (fun x6 hf => ?_)
  refine v_aload_n (x := (some p0)) dX15_goes_23 rfl 0 rfl ?_
  refine v_geti cb_16 hk_p0 31 1631 rfl (by decide) rfl (lk_n kw_1488 rfl) hf dX15_goes_24 (fun x7 hf => ?_)
  refine v_icmp_ge (tgt := 40) hf dX15_goes_27 (by decide) (fun hq hf => ?_) (fun hq hf => ?_)
  · exact v_vretM hf dX15_goes_40
  · refine v_aload_n (x := (some p0)) dX15_goes_30 rfl 0 rfl ?_
    refine v_iconst (v := 1) dX15_goes_31 (by decide) ?_
    refine v_aload_n (x := (some p0)) dX15_goes_32 rfl 0 rfl ?_
    refine v_geti cb_16 hk_p0 32 1632 rfl (by decide) rfl (lk_n kw_1489 rfl) hf dX15_goes_33 (fun x8 hf => ?_)
    obtain ⟨r9, s10, hcs10, hf⟩ := bd_of hf
    have hts10 := c_X15_stop (l := l) (D := D) (cy := cy) (ka := ka) hcs10
    refine v_callV cb_16 hk_p0 (As := [.int (1 : Int32), .int x8]) (rest := []) hts10 yb_X15_stop kw_1888 kw_1890 kp_99 rfl ⟨Nat.le_of_ble_eq_true rfl, Nat.le_of_ble_eq_true rfl⟩ rfl (cat_len (Nat.le_of_ble_eq_true rfl)) dX15_goes_36 ?_
    have hk_p0 := tk_ hts10.1 hk_p0
    show v_ l D cy ka cX15_goes RX15 5 none "goes" 39 893 (qm_ D cy σ z (fun _ : Unit => none) w) σ z _ 39 [(0, va_rf (some p0)), (1, va_rf p1), (2, .int p2), (3, .int p3), (4, .int p4)] [va_rf r9]
    obtain ⟨a11, rfl, hf⟩ := nn_of hf
    obtain ⟨hk_a11, hf⟩ := gt_of hf
    exact v_athrow hk_a11 (by decide +kernel) hf dX15_goes_39
theorem dX15_lengthOf_0 : decode cX15_lengthOf 0 = .ok (.aload_n 0, 1) := by decide +kernel
theorem dX15_lengthOf_1 : decode cX15_lengthOf 1 = .ok (.aload_n 1, 1) := by decide +kernel
theorem dX15_lengthOf_2 : decode cX15_lengthOf 2 = .ok (.getfield 483, 3) := by decide +kernel
theorem dX15_lengthOf_5 : decode cX15_lengthOf 5 = .ok (.aload_n 1, 1) := by decide +kernel
theorem dX15_lengthOf_6 : decode cX15_lengthOf 6 = .ok (.getfield 483, 3) := by decide +kernel
theorem dX15_lengthOf_9 : decode cX15_lengthOf 9 = .ok (.arraylength, 1) := by decide +kernel
theorem dX15_lengthOf_10 : decode cX15_lengthOf 10 = .ok (.aload_n 1, 1) := by decide +kernel
theorem dX15_lengthOf_11 : decode cX15_lengthOf 11 = .ok (.getfield 472, 3) := by decide +kernel
theorem dX15_lengthOf_14 : decode cX15_lengthOf 14 = .ok (.iconst 1, 1) := by decide +kernel
theorem dX15_lengthOf_15 : decode cX15_lengthOf 15 = .ok (.invokevirtual 479, 3) := by decide +kernel
theorem dX15_lengthOf_18 : decode cX15_lengthOf 18 = .ok (.aload_n 0, 1) := by decide +kernel
theorem dX15_lengthOf_19 : decode cX15_lengthOf 19 = .ok (.getfield 327, 3) := by decide +kernel
theorem dX15_lengthOf_22 : decode cX15_lengthOf 22 = .ok (.ireturn, 1) := by decide +kernel
/-- LivesAheadModel.lengthOf(LLivesAheadModel$Paragraph;)I -/
def f_X15_lengthOf (σ : TH) (p0 : Nat) (p1 : Option Nat) : Option (Int32 × TH) :=
  nn_ p1 fun a1 => gt_ (kd_ σ a1 = 15) <| lt_ (fr_ σ 1406 a1) fun r2 => lt_ (fr_ σ 1406 a1) fun r3 => nn_ r3 fun a4 => gt_ (kd_ σ a4 = 21) <| lt_ (Int32.ofNat (ln_ σ a4)) fun x5 => lt_ (fi_ σ 1400 a1) fun x6 => gt_ (kd_ σ p0 = 17) <| bn_ (f_X15_goes σ p0 r2 x5 x6 (1 : Int32)) fun x7 s8 => lt_ (fi_ s8 1641 p0) fun x9 => some (x9, s8)
set_option maxHeartbeats 4000000 in
set_option maxRecDepth 100000 in
theorem c_X15_lengthOf {l : Launch} {D : va_G} {cy : Nat → ClassId} {ka : Nat → Nat} {σ z : TH} {p0 : Nat} {p1 : Option Nat} {r : Int32} (hf : f_X15_lengthOf σ p0 p1 = some (r, z)) : ct_ l D cy ka yX15_lengthOf 40 917 [va_rf (some p0), va_rf p1] σ (some (.int r)) z := by
  unfold f_X15_lengthOf at hf
  refine v_start (cc := cX15_lengthOf) (own := RX15) (maxL := 2) (ret := (some FieldType.int)) (nm := "lengthOf") (by decide +kernel) kw_2077 rfl rfl (by simp [lg_sl, va_rf_cat, cat_i, cat_l]) ?_
  refine v_eqL (L2 := [(0, va_rf (some p0)), (1, va_rf p1)]) (by simp [lv_args, va_rf_cat, cat_i, cat_l]) ?_
  refine v_aload_n (x := (some p0)) dX15_lengthOf_0 rfl 0 rfl ?_
  refine v_aload_n (x := p1) dX15_lengthOf_1 rfl 1 rfl ?_
  obtain ⟨a1, rfl, hf⟩ := nn_of hf
  obtain ⟨hk_a1, hf⟩ := gt_of hf
  refine v_getr cb_14 hk_a1 6 1406 rfl (by decide) rfl (lk_N kw_2034 rfl) hf dX15_lengthOf_2 (fun r2 hf => ?_)
  refine v_aload_n (x := (some a1)) dX15_lengthOf_5 rfl 1 rfl ?_
  refine v_getr cb_14 hk_a1 6 1406 rfl (by decide) rfl (lk_N kw_2034 rfl) hf dX15_lengthOf_6 (fun r3 hf => ?_)
  obtain ⟨a4, rfl, hf⟩ := nn_of hf
  obtain ⟨hk_a4, hf⟩ := gt_of hf
  refine v_alen 20 1 .byte hk_a4 (by decide) rfl hf dX15_lengthOf_9 (fun x5 hf => ?_)
  refine v_aload_n (x := (some a1)) dX15_lengthOf_10 rfl 1 rfl ?_
  refine v_geti cb_14 hk_a1 0 1400 rfl (by decide) rfl (lk_N kw_2028 rfl) hf dX15_lengthOf_11 (fun x6 hf => ?_)
  refine v_iconst (v := 1) dX15_lengthOf_14 (by decide) ?_
  obtain ⟨hk_p0, hf⟩ := gt_of hf
  obtain ⟨x7, s8, hcs8, hf⟩ := bn_of hf
  have hts8 := c_X15_goes (l := l) (D := D) (cy := cy) (ka := ka) hcs8
  refine v_callV cb_16 hk_p0 (As := [va_rf r2, .int x5, .int x6, .int (1 : Int32)]) (rest := []) hts8 yb_X15_goes kw_1869 kw_1871 kp_95 rfl ⟨Nat.le_of_ble_eq_true rfl, Nat.le_of_ble_eq_true rfl⟩ rfl (cat_len (Nat.le_of_ble_eq_true rfl)) dX15_lengthOf_15 ?_
  have hk_a1 := tk_ hts8.1 hk_a1
  have hk_p0 := tk_ hts8.1 hk_p0
  show v_ l D cy ka cX15_lengthOf RX15 2 (some FieldType.int) "lengthOf" 40 917 (qf_ D cy σ z (some (.int r))) σ z _ 18 [(0, va_rf (some p0)), (1, va_rf (some a1))] []
  refine v_aload_n (x := (some p0)) dX15_lengthOf_18 rfl 0 rfl ?_
  refine v_geti cb_16 hk_p0 41 1641 rfl (by decide) rfl (lk_n kw_1498 rfl) hf dX15_lengthOf_19 (fun x9 hf => ?_)
  exact v_iret hf dX15_lengthOf_22
theorem dX15_ruleHolds_0 : decode cX15_ruleHolds 0 = .ok (.aload_n 0, 1) := by decide +kernel
theorem dX15_ruleHolds_1 : decode cX15_ruleHolds 1 = .ok (.aload_n 1, 1) := by decide +kernel
theorem dX15_ruleHolds_2 : decode cX15_ruleHolds 2 = .ok (.iload_n 2, 1) := by decide +kernel
theorem dX15_ruleHolds_3 : decode cX15_ruleHolds 3 = .ok (.iload_n 3, 1) := by decide +kernel
theorem dX15_ruleHolds_4 : decode cX15_ruleHolds 4 = .ok (.invokevirtual 462, 3) := by decide +kernel
theorem dX15_ruleHolds_7 : decode cX15_ruleHolds 7 = .ok (.aload_n 0, 1) := by decide +kernel
theorem dX15_ruleHolds_8 : decode cX15_ruleHolds 8 = .ok (.iconst 1, 1) := by decide +kernel
theorem dX15_ruleHolds_9 : decode cX15_ruleHolds 9 = .ok (.putfield 388, 3) := by decide +kernel
theorem dX15_ruleHolds_12 : decode cX15_ruleHolds 12 = .ok (.aload_n 0, 1) := by decide +kernel
theorem dX15_ruleHolds_13 : decode cX15_ruleHolds 13 = .ok (.invokevirtual 352, 3) := by decide +kernel
theorem dX15_ruleHolds_16 : decode cX15_ruleHolds 16 = .ok (.aload_n 0, 1) := by decide +kernel
theorem dX15_ruleHolds_17 : decode cX15_ruleHolds 17 = .ok (.invokevirtual 370, 3) := by decide +kernel
theorem dX15_ruleHolds_20 : decode cX15_ruleHolds 20 = .ok (.istore 4, 2) := by decide +kernel
theorem dX15_ruleHolds_22 : decode cX15_ruleHolds 22 = .ok (.aload_n 0, 1) := by decide +kernel
theorem dX15_ruleHolds_23 : decode cX15_ruleHolds 23 = .ok (.getfield 296, 3) := by decide +kernel
theorem dX15_ruleHolds_26 : decode cX15_ruleHolds 26 = .ok (.iconst 1, 1) := by decide +kernel
theorem dX15_ruleHolds_27 : decode cX15_ruleHolds 27 = .ok (.if_icmp .eq 13, 3) := by decide +kernel
theorem dX15_ruleHolds_30 : decode cX15_ruleHolds 30 = .ok (.aload_n 0, 1) := by decide +kernel
theorem dX15_ruleHolds_31 : decode cX15_ruleHolds 31 = .ok (.iconst 1, 1) := by decide +kernel
theorem dX15_ruleHolds_32 : decode cX15_ruleHolds 32 = .ok (.aload_n 0, 1) := by decide +kernel
theorem dX15_ruleHolds_33 : decode cX15_ruleHolds 33 = .ok (.getfield 295, 3) := by decide +kernel
theorem dX15_ruleHolds_36 : decode cX15_ruleHolds 36 = .ok (.invokevirtual 342, 3) := by decide +kernel
theorem dX15_ruleHolds_39 : decode cX15_ruleHolds 39 = .ok (.athrow, 1) := by decide +kernel
theorem dX15_ruleHolds_40 : decode cX15_ruleHolds 40 = .ok (.iload 4, 2) := by decide +kernel
theorem dX15_ruleHolds_42 : decode cX15_ruleHolds 42 = .ok (.ireturn, 1) := by decide +kernel
/-- LivesAheadModel.ruleHolds([BII)Z -/
def f_X15_ruleHolds (σ : TH) (p0 : Nat) (p1 : Option Nat) (p2 : Int32) (p3 : Int32) : Option ((Int32 ⊕ Nat) × TH) :=
  gt_ (kd_ σ p0 = 17) <| bd_ (f_X15_starts σ p0 p1 p2 p3) fun x1 s2 => lt_ (si_ s2 1645 p0 (1 : Int32)) fun s3 => bd_ (f_X15_next s3 p0) fun x4 s5 => bx_ (f_X15_test s5 p0) fun x6 s7 => lt_ (fi_ s7 1633 p0) fun x8 => if x8 = (1 : Int32) then (gt_ (x6 = 0 ∨ x6 = 1) <| some (.inl (x6), s7)) else (lt_ (fi_ s7 1634 p0) fun x9 => bd_ (f_X15_stop s7 p0 (1 : Int32) x9) fun r10 s11 => nn_ r10 fun a12 => gt_ (kd_ s11 a12 = 16) <| some (.inr a12, s11))
set_option maxHeartbeats 4000000 in
set_option maxRecDepth 100000 in
theorem c_X15_ruleHolds {l : Launch} {D : va_G} {cy : Nat → ClassId} {ka : Nat → Nat} {σ z : TH} {p0 : Nat} {p1 : Option Nat} {p2 : Int32} {p3 : Int32} {w : (Int32 ⊕ Nat)} (hf : f_X15_ruleHolds σ p0 p1 p2 p3 = some (w, z)) : cm_ l D cy ka yX15_ruleHolds 13 282 [va_rf (some p0), va_rf p1, .int p2, .int p3] σ (fun r : Int32 => some (.int r)) w z := by
  unfold f_X15_ruleHolds at hf
  refine m_start (rf := (fun r : Int32 => some (.int r))) (w := w) (cc := cX15_ruleHolds) (own := RX15) (maxL := 5) (ret := (some FieldType.boolean)) (nm := "ruleHolds") (by decide +kernel) kw_2113 rfl rfl (by simp [lg_sl, va_rf_cat, cat_i, cat_l]) ?_
  refine v_eqL (L2 := [(0, va_rf (some p0)), (1, va_rf p1), (2, .int p2), (3, .int p3)]) (by simp [lv_args, va_rf_cat, cat_i, cat_l]) ?_
  refine v_aload_n (x := (some p0)) dX15_ruleHolds_0 rfl 0 rfl ?_
  refine v_aload_n (x := p1) dX15_ruleHolds_1 rfl 1 rfl ?_
  refine v_iload_n (x := p2) dX15_ruleHolds_2 rfl 2 rfl ?_
  refine v_iload_n (x := p3) dX15_ruleHolds_3 rfl 3 rfl ?_
  obtain ⟨hk_p0, hf⟩ := gt_of hf
  obtain ⟨x1, s2, hcs2, hf⟩ := bd_of hf
  have hts2 := c_X15_starts (l := l) (D := D) (cy := cy) (ka := ka) hcs2
  refine v_callV cb_16 hk_p0 (As := [va_rf p1, .int p2, .int p3]) (rest := []) hts2 yb_X15_starts kw_1873 kw_1875 kp_96 rfl ⟨Nat.le_of_ble_eq_true rfl, Nat.le_of_ble_eq_true rfl⟩ rfl (cat_len (Nat.le_of_ble_eq_true rfl)) dX15_ruleHolds_4 ?_
  have hk_p0 := tk_ hts2.1 hk_p0
  show v_ l D cy ka cX15_ruleHolds RX15 5 (some FieldType.boolean) "ruleHolds" 13 282 (qm_ D cy σ z (fun r : Int32 => some (.int r)) w) σ z _ 7 [(0, va_rf (some p0)), (1, va_rf p1), (2, .int p2), (3, .int p3)] []
  refine v_aload_n (x := (some p0)) dX15_ruleHolds_7 rfl 0 rfl ?_
  refine v_iconst (v := 1) dX15_ruleHolds_8 (by decide) ?_
  refine v_puti2 cb_16 hk_p0 45 1645 rfl (by decide) rfl (lk_n kw_1502 rfl) (Or.inl rfl) rfl rfl hf dX15_ruleHolds_9 (fun s3 hts3 hf => ?_)
  have hk_p0 := tk_ hts3 hk_p0
  refine v_aload_n (x := (some p0)) dX15_ruleHolds_12 rfl 0 rfl ?_
  obtain ⟨x4, s5, hcs5, hf⟩ := bd_of hf
  have hts5 := c_X15_next (l := l) (D := D) (cy := cy) (ka := ka) hcs5
  refine v_callV cb_16 hk_p0 (As := []) (rest := []) hts5 yb_X15_next kw_1896 kw_1898 kp_101 rfl ⟨Nat.le_of_ble_eq_true rfl, Nat.le_of_ble_eq_true rfl⟩ rfl (cat_len (Nat.le_of_ble_eq_true rfl)) dX15_ruleHolds_13 ?_
  have hk_p0 := tk_ hts5.1 hk_p0
  show v_ l D cy ka cX15_ruleHolds RX15 5 (some FieldType.boolean) "ruleHolds" 13 282 (qm_ D cy σ z (fun r : Int32 => some (.int r)) w) σ z _ 16 [(0, va_rf (some p0)), (1, va_rf p1), (2, .int p2), (3, .int p3)] []
  refine v_aload_n (x := (some p0)) dX15_ruleHolds_16 rfl 0 rfl ?_
  rcases bx_of hf with ⟨x6, s7, hcs7, hf⟩ | ⟨q9, s9, hc9, hf⟩
  rotate_left
  · have ht9 := c_X15_test (l := l) (D := D) (cy := cy) (ka := ka) hc9
    exact v_callVX cb_16 hk_p0 (As := []) (rest := []) ht9 yb_X15_test kw_2011 kw_2013 kp_121 rfl ⟨Nat.le_of_ble_eq_true rfl, Nat.le_of_ble_eq_true rfl⟩ rfl (cat_len (Nat.le_of_ble_eq_true rfl)) (by decide +kernel) hf dX15_ruleHolds_17
  have hts7 := c_X15_test (l := l) (D := D) (cy := cy) (ka := ka) hcs7
  refine v_callV cb_16 hk_p0 (As := []) (rest := []) hts7 yb_X15_test kw_2011 kw_2013 kp_121 rfl ⟨Nat.le_of_ble_eq_true rfl, Nat.le_of_ble_eq_true rfl⟩ rfl (cat_len (Nat.le_of_ble_eq_true rfl)) dX15_ruleHolds_17 ?_
  have hk_p0 := tk_ hts7.1 hk_p0
  show v_ l D cy ka cX15_ruleHolds RX15 5 (some FieldType.boolean) "ruleHolds" 13 282 (qm_ D cy σ z (fun r : Int32 => some (.int r)) w) σ z _ 20 [(0, va_rf (some p0)), (1, va_rf p1), (2, .int p2), (3, .int p3)] [.int x6]
  refine v_istore [(4, .int x6), (0, va_rf (some p0)), (1, va_rf p1), (2, .int p2), (3, .int p3)] dX15_ruleHolds_20 (by decide) rfl ?_
  refine v_aload_n (x := (some p0)) dX15_ruleHolds_22 rfl 1 rfl ?_
  refine v_geti cb_16 hk_p0 33 1633 rfl (by decide) rfl (lk_n kw_1490 rfl) hf dX15_ruleHolds_23 (fun x8 hf => ?_)
  refine v_iconst (v := 1) dX15_ruleHolds_26 (by decide) ?_
  refine v_icmp_eq (tgt := 40) hf dX15_ruleHolds_27 (by decide) (fun hq hf => ?_) (fun hq hf => ?_)
  · refine v_iload (x := x6) dX15_ruleHolds_40 0 rfl ?_
    obtain ⟨hb9, hf⟩ := gt_of hf
    exact v_zretM hf (nz_ hb9) dX15_ruleHolds_42
  · refine v_aload_n (x := (some p0)) dX15_ruleHolds_30 rfl 1 rfl ?_
    refine v_iconst (v := 1) dX15_ruleHolds_31 (by decide) ?_
    refine v_aload_n (x := (some p0)) dX15_ruleHolds_32 rfl 1 rfl ?_
    refine v_geti cb_16 hk_p0 34 1634 rfl (by decide) rfl (lk_n kw_1491 rfl) hf dX15_ruleHolds_33 (fun x9 hf => ?_)
    obtain ⟨r10, s11, hcs11, hf⟩ := bd_of hf
    have hts11 := c_X15_stop (l := l) (D := D) (cy := cy) (ka := ka) hcs11
    refine v_callV cb_16 hk_p0 (As := [.int (1 : Int32), .int x9]) (rest := []) hts11 yb_X15_stop kw_1888 kw_1890 kp_99 rfl ⟨Nat.le_of_ble_eq_true rfl, Nat.le_of_ble_eq_true rfl⟩ rfl (cat_len (Nat.le_of_ble_eq_true rfl)) dX15_ruleHolds_36 ?_
    have hk_p0 := tk_ hts11.1 hk_p0
    show v_ l D cy ka cX15_ruleHolds RX15 5 (some FieldType.boolean) "ruleHolds" 13 282 (qm_ D cy σ z (fun r : Int32 => some (.int r)) w) σ z _ 39 [(4, .int x6), (0, va_rf (some p0)), (1, va_rf p1), (2, .int p2), (3, .int p3)] [va_rf r10]
    obtain ⟨a12, rfl, hf⟩ := nn_of hf
    obtain ⟨hk_a12, hf⟩ := gt_of hf
    exact v_athrow hk_a12 (by decide +kernel) hf dX15_ruleHolds_39
theorem dX15_mayBeTold_0 : decode cX15_mayBeTold 0 = .ok (.iconst 0, 1) := by decide +kernel
theorem dX15_mayBeTold_1 : decode cX15_mayBeTold 1 = .ok (.istore_n 2, 1) := by decide +kernel
theorem dX15_mayBeTold_2 : decode cX15_mayBeTold 2 = .ok (.iconst 0, 1) := by decide +kernel
theorem dX15_mayBeTold_3 : decode cX15_mayBeTold 3 = .ok (.istore_n 3, 1) := by decide +kernel
theorem dX15_mayBeTold_4 : decode cX15_mayBeTold 4 = .ok (.iload_n 3, 1) := by decide +kernel
theorem dX15_mayBeTold_5 : decode cX15_mayBeTold 5 = .ok (.aload_n 0, 1) := by decide +kernel
theorem dX15_mayBeTold_6 : decode cX15_mayBeTold 6 = .ok (.getfield 540, 3) := by decide +kernel
theorem dX15_mayBeTold_9 : decode cX15_mayBeTold 9 = .ok (.if_icmp .ge 28, 3) := by decide +kernel
theorem dX15_mayBeTold_12 : decode cX15_mayBeTold 12 = .ok (.iload_n 2, 1) := by decide +kernel
theorem dX15_mayBeTold_13 : decode cX15_mayBeTold 13 = .ok (.ifCond .ne 12, 3) := by decide +kernel
theorem dX15_mayBeTold_16 : decode cX15_mayBeTold 16 = .ok (.aload_n 0, 1) := by decide +kernel
theorem dX15_mayBeTold_17 : decode cX15_mayBeTold 17 = .ok (.iload_n 3, 1) := by decide +kernel
theorem dX15_mayBeTold_18 : decode cX15_mayBeTold 18 = .ok (.iload_n 1, 1) := by decide +kernel
theorem dX15_mayBeTold_19 : decode cX15_mayBeTold 19 = .ok (.invokevirtual 553, 3) := by decide +kernel
theorem dX15_mayBeTold_22 : decode cX15_mayBeTold 22 = .ok (.ifCond .eq 7, 3) := by decide +kernel
theorem dX15_mayBeTold_25 : decode cX15_mayBeTold 25 = .ok (.iconst 1, 1) := by decide +kernel
theorem dX15_mayBeTold_26 : decode cX15_mayBeTold 26 = .ok (.goto 4, 3) := by decide +kernel
theorem dX15_mayBeTold_29 : decode cX15_mayBeTold 29 = .ok (.iconst 0, 1) := by decide +kernel
theorem dX15_mayBeTold_30 : decode cX15_mayBeTold 30 = .ok (.istore_n 2, 1) := by decide +kernel
theorem dX15_mayBeTold_31 : decode cX15_mayBeTold 31 = .ok (.iinc 3 1, 3) := by decide +kernel
theorem dX15_mayBeTold_34 : decode cX15_mayBeTold 34 = .ok (.goto (-30), 3) := by decide +kernel
theorem dX15_mayBeTold_37 : decode cX15_mayBeTold 37 = .ok (.iconst 0, 1) := by decide +kernel
theorem dX15_mayBeTold_38 : decode cX15_mayBeTold 38 = .ok (.istore_n 3, 1) := by decide +kernel
theorem dX15_mayBeTold_39 : decode cX15_mayBeTold 39 = .ok (.iconst 0, 1) := by decide +kernel
theorem dX15_mayBeTold_40 : decode cX15_mayBeTold 40 = .ok (.istore 4, 2) := by decide +kernel
theorem dX15_mayBeTold_42 : decode cX15_mayBeTold 42 = .ok (.iload 4, 2) := by decide +kernel
theorem dX15_mayBeTold_44 : decode cX15_mayBeTold 44 = .ok (.aload_n 0, 1) := by decide +kernel
theorem dX15_mayBeTold_45 : decode cX15_mayBeTold 45 = .ok (.getfield 537, 3) := by decide +kernel
theorem dX15_mayBeTold_48 : decode cX15_mayBeTold 48 = .ok (.if_icmp .ge 44, 3) := by decide +kernel
theorem dX15_mayBeTold_51 : decode cX15_mayBeTold 51 = .ok (.iload_n 2, 1) := by decide +kernel
theorem dX15_mayBeTold_52 : decode cX15_mayBeTold 52 = .ok (.ifCond .eq 40, 3) := by decide +kernel
theorem dX15_mayBeTold_55 : decode cX15_mayBeTold 55 = .ok (.iload_n 3, 1) := by decide +kernel
theorem dX15_mayBeTold_56 : decode cX15_mayBeTold 56 = .ok (.ifCond .ne 36, 3) := by decide +kernel
theorem dX15_mayBeTold_59 : decode cX15_mayBeTold 59 = .ok (.aload_n 0, 1) := by decide +kernel
theorem dX15_mayBeTold_60 : decode cX15_mayBeTold 60 = .ok (.aload_n 0, 1) := by decide +kernel
theorem dX15_mayBeTold_61 : decode cX15_mayBeTold 61 = .ok (.getfield 116, 3) := by decide +kernel
theorem dX15_mayBeTold_64 : decode cX15_mayBeTold 64 = .ok (.iload 4, 2) := by decide +kernel
theorem dX15_mayBeTold_66 : decode cX15_mayBeTold 66 = .ok (.aaload, 1) := by decide +kernel
theorem dX15_mayBeTold_67 : decode cX15_mayBeTold 67 = .ok (.getfield 483, 3) := by decide +kernel
theorem dX15_mayBeTold_70 : decode cX15_mayBeTold 70 = .ok (.aload_n 0, 1) := by decide +kernel
theorem dX15_mayBeTold_71 : decode cX15_mayBeTold 71 = .ok (.getfield 116, 3) := by decide +kernel
theorem dX15_mayBeTold_74 : decode cX15_mayBeTold 74 = .ok (.iload 4, 2) := by decide +kernel
theorem dX15_mayBeTold_76 : decode cX15_mayBeTold 76 = .ok (.aaload, 1) := by decide +kernel
theorem dX15_mayBeTold_77 : decode cX15_mayBeTold 77 = .ok (.getfield 483, 3) := by decide +kernel
theorem dX15_mayBeTold_80 : decode cX15_mayBeTold 80 = .ok (.arraylength, 1) := by decide +kernel
theorem dX15_mayBeTold_81 : decode cX15_mayBeTold 81 = .ok (.iload_n 1, 1) := by decide +kernel
theorem dX15_mayBeTold_82 : decode cX15_mayBeTold 82 = .ok (.invokevirtual 533, 3) := by decide +kernel
theorem dX15_mayBeTold_85 : decode cX15_mayBeTold 85 = .ok (.istore_n 3, 1) := by decide +kernel
theorem dX15_mayBeTold_86 : decode cX15_mayBeTold 86 = .ok (.iinc 4 1, 3) := by decide +kernel
theorem dX15_mayBeTold_89 : decode cX15_mayBeTold 89 = .ok (.goto (-47), 3) := by decide +kernel
theorem dX15_mayBeTold_92 : decode cX15_mayBeTold 92 = .ok (.iload_n 3, 1) := by decide +kernel
theorem dX15_mayBeTold_93 : decode cX15_mayBeTold 93 = .ok (.ireturn, 1) := by decide +kernel
def f_X15_mayBeTold_b92 (σ : TH) (l3 : Int32) : Option (Int32 × TH) :=
  gt_ (l3 = 0 ∨ l3 = 1) <| some (l3, σ)
set_option maxHeartbeats 4000000 in
set_option maxRecDepth 100000 in
theorem t_X15_mayBeTold_b92 {l : Launch} {D : va_G} {cy : Nat → ClassId} {ka : Nat → Nat} {σ0 z : TH} {r : Int32}  {σ : TH} {l3 : Int32} (hf : f_X15_mayBeTold_b92 σ l3 = some (r, z)) : v_ l D cy ka cX15_mayBeTold RX15 5 (some FieldType.boolean) "mayBeTold" 14 306 (qf_ D cy σ0 z (some (.int r))) σ0 z σ 92 [(3, .int l3)] [] := by
  unfold f_X15_mayBeTold_b92 at hf
  refine v_iload_n (x := l3) dX15_mayBeTold_92 rfl 0 rfl ?_
  obtain ⟨hb9, hf⟩ := gt_of hf
  exact v_zret hf (nz_ hb9) dX15_mayBeTold_93
def f_X15_mayBeTold_b42 : Nat → TH → Nat → Int32 → Int32 → Int32 → Int32 → Option (Int32 × TH)
  | 0, _, _, _, _, _, _ => none
  | n + 1, σ, l0, l1, l2, l3, l4 => gt_ (kd_ σ l0 = 17) <| lt_ (fi_ σ 1658 l0) fun x2 => if x2 ≤ l4 then (f_X15_mayBeTold_b92 σ l3) else (if l2 = 0 then (f_X15_mayBeTold_b92 σ l3) else (if l3 = 0 then (lt_ (fr_ σ 1660 l0) fun r3 => nn_ r3 fun a4 => gt_ (kd_ σ a4 = 27) <| gt_ (¬ (l4 < 0 ∨ ln_ σ a4 ≤ l4.toNatClampNeg)) <| lt_ (ar_ σ a4 l4.toNatClampNeg) fun r5 => nn_ r5 fun a6 => gt_ (kd_ σ a6 = 15) <| lt_ (fr_ σ 1406 a6) fun r7 => lt_ (fr_ σ 1660 l0) fun r8 => nn_ r8 fun a9 => gt_ (kd_ σ a9 = 27) <| gt_ (¬ (l4 < 0 ∨ ln_ σ a9 ≤ l4.toNatClampNeg)) <| lt_ (ar_ σ a9 l4.toNatClampNeg) fun r10 => nn_ r10 fun a11 => gt_ (kd_ σ a11 = 15) <| lt_ (fr_ σ 1406 a11) fun r12 => nn_ r12 fun a13 => gt_ (kd_ σ a13 = 21) <| lt_ (Int32.ofNat (ln_ σ a13)) fun x14 => bn_ (f_X15_ruleHolds σ l0 r7 x14 l1) fun x15 s16 => lt_ (l4 + 1) fun x17 => (f_X15_mayBeTold_b42 n) s16 l0 l1 l2 x15 x17) else (f_X15_mayBeTold_b92 σ l3)))
set_option maxHeartbeats 4000000 in
set_option maxRecDepth 100000 in
theorem t_X15_mayBeTold_b42 {l : Launch} {D : va_G} {cy : Nat → ClassId} {ka : Nat → Nat} {σ0 z : TH} {r : Int32}  : ∀ (n : Nat) (σ : TH) (l0 : Nat) (l1 : Int32) (l2 : Int32) (l3 : Int32) (l4 : Int32), f_X15_mayBeTold_b42 n σ l0 l1 l2 l3 l4 = some (r, z) → v_ l D cy ka cX15_mayBeTold RX15 5 (some FieldType.boolean) "mayBeTold" 14 306 (qf_ D cy σ0 z (some (.int r))) σ0 z σ 42 [(0, va_rf (some l0)), (1, .int l1), (2, .int l2), (3, .int l3), (4, .int l4)] [] := by
  intro n
  induction n with
  | zero => intro σ l0 l1 l2 l3 l4 hf; unfold f_X15_mayBeTold_b42 at hf; cases hf
  | succ n ih =>
    intro σ l0 l1 l2 l3 l4 hf
    unfold f_X15_mayBeTold_b42 at hf
    have hrec_42 := ih
    refine v_iload (x := l4) dX15_mayBeTold_42 4 rfl ?_
    refine v_aload_n (x := (some l0)) dX15_mayBeTold_44 rfl 0 rfl ?_
    obtain ⟨hk_l0, hf⟩ := gt_of hf
    refine v_geti cb_16 hk_l0 58 1658 rfl (by decide) rfl (lk_n kw_1515 rfl) hf dX15_mayBeTold_45 (fun x2 hf => ?_)
    refine v_icmp_ge (tgt := 92) hf dX15_mayBeTold_48 (by decide) (fun hq hf => ?_) (fun hq hf => ?_)
    · refine v_sub [3] (L2 := [(3, .int l3)]) rfl ?_
      exact t_X15_mayBeTold_b92  hf
    · refine v_iload_n (x := l2) dX15_mayBeTold_51 rfl 2 rfl ?_
      refine v_if_eq (tgt := 92) hf dX15_mayBeTold_52 (by decide) (fun hq hf => ?_) (fun hq hf => ?_)
      · refine v_sub [3] (L2 := [(3, .int l3)]) rfl ?_
        exact t_X15_mayBeTold_b92  hf
      · refine v_iload_n (x := l3) dX15_mayBeTold_55 rfl 3 rfl ?_
        refine v_if_ne (tgt := 92) hf dX15_mayBeTold_56 (by decide) (fun hq hf => ?_) (fun hq hf => ?_)
        · refine v_aload_n (x := (some l0)) dX15_mayBeTold_59 rfl 0 rfl ?_
          refine v_aload_n (x := (some l0)) dX15_mayBeTold_60 rfl 0 rfl ?_
          refine v_getr cb_16 hk_l0 60 1660 rfl (by decide) rfl (lk_n kw_1517 rfl) hf dX15_mayBeTold_61 (fun r3 hf => ?_)
          refine v_iload (x := l4) dX15_mayBeTold_64 4 rfl ?_
          obtain ⟨a4, rfl, hf⟩ := nn_of hf
          obtain ⟨hk_a4, hf⟩ := gt_of hf
          refine v_aald 26 7 RX13 hk_a4 (by decide) rfl hf dX15_mayBeTold_66 (fun r5 hf => ?_)
          obtain ⟨a6, rfl, hf⟩ := nn_of hf
          obtain ⟨hk_a6, hf⟩ := gt_of hf
          refine v_getr cb_14 hk_a6 6 1406 rfl (by decide) rfl (lk_N kw_2034 rfl) hf dX15_mayBeTold_67 (fun r7 hf => ?_)
          refine v_aload_n (x := (some l0)) dX15_mayBeTold_70 rfl 0 rfl ?_
          refine v_getr cb_16 hk_l0 60 1660 rfl (by decide) rfl (lk_n kw_1517 rfl) hf dX15_mayBeTold_71 (fun r8 hf => ?_)
          refine v_iload (x := l4) dX15_mayBeTold_74 4 rfl ?_
          obtain ⟨a9, rfl, hf⟩ := nn_of hf
          obtain ⟨hk_a9, hf⟩ := gt_of hf
          refine v_aald 26 7 RX13 hk_a9 (by decide) rfl hf dX15_mayBeTold_76 (fun r10 hf => ?_)
          obtain ⟨a11, rfl, hf⟩ := nn_of hf
          obtain ⟨hk_a11, hf⟩ := gt_of hf
          refine v_getr cb_14 hk_a11 6 1406 rfl (by decide) rfl (lk_N kw_2034 rfl) hf dX15_mayBeTold_77 (fun r12 hf => ?_)
          obtain ⟨a13, rfl, hf⟩ := nn_of hf
          obtain ⟨hk_a13, hf⟩ := gt_of hf
          refine v_alen 20 1 .byte hk_a13 (by decide) rfl hf dX15_mayBeTold_80 (fun x14 hf => ?_)
          refine v_iload_n (x := l1) dX15_mayBeTold_81 rfl 1 rfl ?_
          obtain ⟨x15, s16, hcs16, hf⟩ := bn_of hf
          have hts16 := c_X15_ruleHolds (l := l) (D := D) (cy := cy) (ka := ka) hcs16
          refine v_callV cb_16 hk_l0 (As := [va_rf r7, .int x14, .int l1]) (rest := []) hts16 yb_X15_ruleHolds kw_2110 kw_2112 kp_129 rfl ⟨Nat.le_of_ble_eq_true rfl, Nat.le_of_ble_eq_true rfl⟩ rfl (cat_len (Nat.le_of_ble_eq_true rfl)) dX15_mayBeTold_82 ?_
          have hk_l0 := tk_ hts16.1 hk_l0
          show v_ l D cy ka cX15_mayBeTold RX15 5 (some FieldType.boolean) "mayBeTold" 14 306 (qf_ D cy σ0 z (some (.int r))) σ0 z _ 85 [(0, va_rf (some l0)), (1, .int l1), (2, .int l2), (3, .int l3), (4, .int l4)] [.int x15]
          refine v_istore_n [(3, .int x15), (0, va_rf (some l0)), (1, .int l1), (2, .int l2), (4, .int l4)] dX15_mayBeTold_85 rfl (by decide) rfl ?_
          obtain ⟨x17, ex17⟩ : ∃ y : Int32, y = l4 + 1 := ⟨_, rfl⟩
          rw [lt_e, ← ex17] at hf
          refine v_iinc (v := x17) [(4, .int x17), (3, .int x15), (0, va_rf (some l0)), (1, .int l1), (2, .int l2)] dX15_mayBeTold_86 4 rfl (by rw [ex17]; rfl) (by decide) rfl ?_
          refine v_goto (tgt := 42) dX15_mayBeTold_89 (by decide) ?_
          refine v_sub [2, 3, 4, 1, 0] (L2 := [(0, va_rf (some l0)), (1, .int l1), (2, .int l2), (3, .int x15), (4, .int x17)]) rfl ?_
          exact hrec_42 _ _ _ _ _ _ hf
        · refine v_sub [3] (L2 := [(3, .int l3)]) rfl ?_
          exact t_X15_mayBeTold_b92  hf
def f_X15_mayBeTold_b30 (rec_4 : TH → Nat → Int32 → Int32 → Int32 → Option (Int32 × TH)) (σ : TH) (l0 : Nat) (l1 : Int32) (l3 : Int32) (t0 : Int32) : Option (Int32 × TH) :=
  lt_ (l3 + 1) fun x20 => rec_4 σ l0 l1 t0 x20
set_option maxHeartbeats 4000000 in
set_option maxRecDepth 100000 in
theorem t_X15_mayBeTold_b30 {l : Launch} {D : va_G} {cy : Nat → ClassId} {ka : Nat → Nat} {σ0 z : TH} {r : Int32} {rec_4 : TH → Nat → Int32 → Int32 → Int32 → Option (Int32 × TH)} (hrec_4 : ∀ (σ : TH) (l0 : Nat) (l1 : Int32) (l2 : Int32) (l3 : Int32), rec_4 σ l0 l1 l2 l3 = some (r, z) → v_ l D cy ka cX15_mayBeTold RX15 5 (some FieldType.boolean) "mayBeTold" 14 306 (qf_ D cy σ0 z (some (.int r))) σ0 z σ 4 [(0, va_rf (some l0)), (1, .int l1), (2, .int l2), (3, .int l3)] []) {σ : TH} {l0 : Nat} {l1 : Int32} {l3 : Int32} {t0 : Int32} (hf : f_X15_mayBeTold_b30 rec_4 σ l0 l1 l3 t0 = some (r, z)) : v_ l D cy ka cX15_mayBeTold RX15 5 (some FieldType.boolean) "mayBeTold" 14 306 (qf_ D cy σ0 z (some (.int r))) σ0 z σ 30 [(0, va_rf (some l0)), (1, .int l1), (3, .int l3)] [.int t0] := by
  unfold f_X15_mayBeTold_b30 at hf
  refine v_istore_n [(2, .int t0), (0, va_rf (some l0)), (1, .int l1), (3, .int l3)] dX15_mayBeTold_30 rfl (by decide) rfl ?_
  obtain ⟨x20, ex20⟩ : ∃ y : Int32, y = l3 + 1 := ⟨_, rfl⟩
  rw [lt_e, ← ex20] at hf
  refine v_iinc (v := x20) [(3, .int x20), (2, .int t0), (0, va_rf (some l0)), (1, .int l1)] dX15_mayBeTold_31 3 rfl (by rw [ex20]; rfl) (by decide) rfl ?_
  refine v_goto (tgt := 4) dX15_mayBeTold_34 (by decide) ?_
  refine v_sub [2, 3, 1, 0] (L2 := [(0, va_rf (some l0)), (1, .int l1), (2, .int t0), (3, .int x20)]) rfl ?_
  exact hrec_4 _ _ _ _ _ hf
def f_X15_mayBeTold_b25 (rec_4 : TH → Nat → Int32 → Int32 → Int32 → Option (Int32 × TH)) (σ : TH) (l0 : Nat) (l1 : Int32) (l3 : Int32) : Option (Int32 × TH) :=
  f_X15_mayBeTold_b30 rec_4 σ l0 l1 l3 (1 : Int32)
set_option maxHeartbeats 4000000 in
set_option maxRecDepth 100000 in
theorem t_X15_mayBeTold_b25 {l : Launch} {D : va_G} {cy : Nat → ClassId} {ka : Nat → Nat} {σ0 z : TH} {r : Int32} {rec_4 : TH → Nat → Int32 → Int32 → Int32 → Option (Int32 × TH)} (hrec_4 : ∀ (σ : TH) (l0 : Nat) (l1 : Int32) (l2 : Int32) (l3 : Int32), rec_4 σ l0 l1 l2 l3 = some (r, z) → v_ l D cy ka cX15_mayBeTold RX15 5 (some FieldType.boolean) "mayBeTold" 14 306 (qf_ D cy σ0 z (some (.int r))) σ0 z σ 4 [(0, va_rf (some l0)), (1, .int l1), (2, .int l2), (3, .int l3)] []) {σ : TH} {l0 : Nat} {l1 : Int32} {l3 : Int32} (hf : f_X15_mayBeTold_b25 rec_4 σ l0 l1 l3 = some (r, z)) : v_ l D cy ka cX15_mayBeTold RX15 5 (some FieldType.boolean) "mayBeTold" 14 306 (qf_ D cy σ0 z (some (.int r))) σ0 z σ 25 [(0, va_rf (some l0)), (1, .int l1), (3, .int l3)] [] := by
  unfold f_X15_mayBeTold_b25 at hf
  refine v_iconst (v := 1) dX15_mayBeTold_25 (by decide) ?_
  refine v_goto (tgt := 30) dX15_mayBeTold_26 (by decide) ?_
  refine v_sub [0, 1, 2] (L2 := [(0, va_rf (some l0)), (1, .int l1), (3, .int l3)]) rfl ?_
  exact t_X15_mayBeTold_b30 hrec_4 hf
def f_X15_mayBeTold_b4 : Nat → TH → Nat → Int32 → Int32 → Int32 → Option (Int32 × TH)
  | 0, _, _, _, _, _ => none
  | n + 1, σ, l0, l1, l2, l3 => gt_ (kd_ σ l0 = 17) <| lt_ (fi_ σ 1659 l0) fun x1 => if x1 ≤ l3 then (f_X15_mayBeTold_b42 fu_ σ l0 l1 l2 (0 : Int32) (0 : Int32)) else (if l2 = 0 then (bd_ (f_X15_speaksOf σ l0 l3 l1) fun x18 s19 => if x18 = 0 then (f_X15_mayBeTold_b30 (f_X15_mayBeTold_b4 n) s19 l0 l1 l3 (0 : Int32)) else (f_X15_mayBeTold_b25 (f_X15_mayBeTold_b4 n) s19 l0 l1 l3)) else (f_X15_mayBeTold_b25 (f_X15_mayBeTold_b4 n) σ l0 l1 l3))
set_option maxHeartbeats 4000000 in
set_option maxRecDepth 100000 in
theorem t_X15_mayBeTold_b4 {l : Launch} {D : va_G} {cy : Nat → ClassId} {ka : Nat → Nat} {σ0 z : TH} {r : Int32}  : ∀ (n : Nat) (σ : TH) (l0 : Nat) (l1 : Int32) (l2 : Int32) (l3 : Int32), f_X15_mayBeTold_b4 n σ l0 l1 l2 l3 = some (r, z) → v_ l D cy ka cX15_mayBeTold RX15 5 (some FieldType.boolean) "mayBeTold" 14 306 (qf_ D cy σ0 z (some (.int r))) σ0 z σ 4 [(0, va_rf (some l0)), (1, .int l1), (2, .int l2), (3, .int l3)] [] := by
  intro n
  induction n with
  | zero => intro σ l0 l1 l2 l3 hf; unfold f_X15_mayBeTold_b4 at hf; cases hf
  | succ n ih =>
    intro σ l0 l1 l2 l3 hf
    unfold f_X15_mayBeTold_b4 at hf
    have hrec_4 := ih
    refine v_iload_n (x := l3) dX15_mayBeTold_4 rfl 3 rfl ?_
    refine v_aload_n (x := (some l0)) dX15_mayBeTold_5 rfl 0 rfl ?_
    obtain ⟨hk_l0, hf⟩ := gt_of hf
    refine v_geti cb_16 hk_l0 59 1659 rfl (by decide) rfl (lk_n kw_1516 rfl) hf dX15_mayBeTold_6 (fun x1 hf => ?_)
    refine v_icmp_ge (tgt := 37) hf dX15_mayBeTold_9 (by decide) (fun hq hf => ?_) (fun hq hf => ?_)
    · refine v_iconst (v := 0) dX15_mayBeTold_37 (by decide) ?_
      refine v_istore_n [(3, .int (0 : Int32)), (0, va_rf (some l0)), (1, .int l1), (2, .int l2)] dX15_mayBeTold_38 rfl (by decide) rfl ?_
      refine v_iconst (v := 0) dX15_mayBeTold_39 (by decide) ?_
      refine v_istore [(4, .int (0 : Int32)), (3, .int (0 : Int32)), (0, va_rf (some l0)), (1, .int l1), (2, .int l2)] dX15_mayBeTold_40 (by decide) rfl ?_
      refine v_sub [2, 3, 4, 1, 0] (L2 := [(0, va_rf (some l0)), (1, .int l1), (2, .int l2), (3, .int (0 : Int32)), (4, .int (0 : Int32))]) rfl ?_
      exact t_X15_mayBeTold_b42  _ _ _ _ _ _ _ hf
    · refine v_iload_n (x := l2) dX15_mayBeTold_12 rfl 2 rfl ?_
      refine v_if_ne (tgt := 25) hf dX15_mayBeTold_13 (by decide) (fun hq hf => ?_) (fun hq hf => ?_)
      · refine v_aload_n (x := (some l0)) dX15_mayBeTold_16 rfl 0 rfl ?_
        refine v_iload_n (x := l3) dX15_mayBeTold_17 rfl 3 rfl ?_
        refine v_iload_n (x := l1) dX15_mayBeTold_18 rfl 1 rfl ?_
        obtain ⟨x18, s19, hcs19, hf⟩ := bd_of hf
        have hts19 := c_X15_speaksOf (l := l) (D := D) (cy := cy) (ka := ka) hcs19
        refine v_callV cb_16 hk_l0 (As := [.int l3, .int l1]) (rest := []) hts19 yb_X15_speaksOf kw_1974 kw_1976 kp_112 rfl ⟨Nat.le_of_ble_eq_true rfl, Nat.le_of_ble_eq_true rfl⟩ rfl (cat_len (Nat.le_of_ble_eq_true rfl)) dX15_mayBeTold_19 ?_
        have hk_l0 := tk_ hts19.1 hk_l0
        show v_ l D cy ka cX15_mayBeTold RX15 5 (some FieldType.boolean) "mayBeTold" 14 306 (qf_ D cy σ0 z (some (.int r))) σ0 z _ 22 [(0, va_rf (some l0)), (1, .int l1), (2, .int l2), (3, .int l3)] [.int x18]
        refine v_if_eq (tgt := 29) hf dX15_mayBeTold_22 (by decide) (fun hq hf => ?_) (fun hq hf => ?_)
        · refine v_iconst (v := 0) dX15_mayBeTold_29 (by decide) ?_
          refine v_sub [0, 1, 3] (L2 := [(0, va_rf (some l0)), (1, .int l1), (3, .int l3)]) rfl ?_
          exact t_X15_mayBeTold_b30 hrec_4 hf
        · refine v_sub [0, 1, 3] (L2 := [(0, va_rf (some l0)), (1, .int l1), (3, .int l3)]) rfl ?_
          exact t_X15_mayBeTold_b25 hrec_4 hf
      · refine v_sub [0, 1, 3] (L2 := [(0, va_rf (some l0)), (1, .int l1), (3, .int l3)]) rfl ?_
        exact t_X15_mayBeTold_b25 hrec_4 hf
/-- LivesAheadModel.mayBeTold(I)Z -/
def f_X15_mayBeTold (σ : TH) (p0 : Nat) (p1 : Int32) : Option (Int32 × TH) :=
  f_X15_mayBeTold_b4 fu_ σ p0 p1 (0 : Int32) (0 : Int32)
set_option maxHeartbeats 4000000 in
set_option maxRecDepth 100000 in
theorem c_X15_mayBeTold {l : Launch} {D : va_G} {cy : Nat → ClassId} {ka : Nat → Nat} {σ z : TH} {p0 : Nat} {p1 : Int32} {r : Int32} (hf : f_X15_mayBeTold σ p0 p1 = some (r, z)) : ct_ l D cy ka yX15_mayBeTold 14 306 [va_rf (some p0), .int p1] σ (some (.int r)) z := by
  unfold f_X15_mayBeTold at hf
  refine v_start (cc := cX15_mayBeTold) (own := RX15) (maxL := 5) (ret := (some FieldType.boolean)) (nm := "mayBeTold") (by decide +kernel) kw_2141 rfl rfl (by simp [lg_sl, va_rf_cat, cat_i, cat_l]) ?_
  refine v_eqL (L2 := [(0, va_rf (some p0)), (1, .int p1)]) (by simp [lv_args, va_rf_cat, cat_i, cat_l]) ?_
  refine v_iconst (v := 0) dX15_mayBeTold_0 (by decide) ?_
  refine v_istore_n [(2, .int (0 : Int32)), (0, va_rf (some p0)), (1, .int p1)] dX15_mayBeTold_1 rfl (by decide) rfl ?_
  refine v_iconst (v := 0) dX15_mayBeTold_2 (by decide) ?_
  refine v_istore_n [(3, .int (0 : Int32)), (2, .int (0 : Int32)), (0, va_rf (some p0)), (1, .int p1)] dX15_mayBeTold_3 rfl (by decide) rfl ?_
  refine v_sub [2, 3, 1, 0] (L2 := [(0, va_rf (some p0)), (1, .int p1), (2, .int (0 : Int32)), (3, .int (0 : Int32))]) rfl ?_
  exact t_X15_mayBeTold_b4  _ _ _ _ _ _ hf
