/-! Functions over the typed heap and contracts, by wip/gen/gen.py: J0_isLatin1_aae02 J3_checkIndex_8e157 J0_checkIndex_df160 J1_charAt_3b067 J2_checkIndex_2214a J2_charAt_3b067 J0_charAt_5068e J0_coder_7d493 J0_length_8abf5 J15_checkIndex_7cf53 J7_copyOf_6403c J7_copyOf_1904c J7_copyOf_59c91 J8_newLength_cabcc Jx4a65c_grow_92f84 Jx4a65c_grow_d5877 Jx4a65c_add_72be8 Jx4a65c_add_9ea2d Jx4a65c_fastRemove_b59b0 Jx4a65c_get_915e3 Jxa1e45_init_da8c8 Jxc12de_init_da8c8 Jx4a65c_init_da8c8 Jx4a65c_remove_915e3 X11_personAt X11_about X11_ages X11_alike X11_answer X11_apart X11_ask X11_handOver X11_storiesOf X11_heirOf X11_livingWriter -/
theorem dJ0_isLatin1_aae02_0 : decode cJ0_isLatin1_aae02 0 = .ok (.getstatic 38, 3) := by decide +kernel
theorem dJ0_isLatin1_aae02_3 : decode cJ0_isLatin1_aae02 3 = .ok (.ifCond .eq 14, 3) := by decide +kernel
theorem dJ0_isLatin1_aae02_6 : decode cJ0_isLatin1_aae02 6 = .ok (.aload_n 0, 1) := by decide +kernel
theorem dJ0_isLatin1_aae02_7 : decode cJ0_isLatin1_aae02 7 = .ok (.getfield 15, 3) := by decide +kernel
theorem dJ0_isLatin1_aae02_10 : decode cJ0_isLatin1_aae02 10 = .ok (.ifCond .ne 7, 3) := by decide +kernel
theorem dJ0_isLatin1_aae02_13 : decode cJ0_isLatin1_aae02 13 = .ok (.iconst 1, 1) := by decide +kernel
theorem dJ0_isLatin1_aae02_14 : decode cJ0_isLatin1_aae02 14 = .ok (.goto 4, 3) := by decide +kernel
theorem dJ0_isLatin1_aae02_17 : decode cJ0_isLatin1_aae02 17 = .ok (.iconst 0, 1) := by decide +kernel
theorem dJ0_isLatin1_aae02_18 : decode cJ0_isLatin1_aae02 18 = .ok (.ireturn, 1) := by decide +kernel
def f_J0_isLatin1_aae02_b18 (σ : TH) (t0 : Int32) : Option (Int32 × TH) :=
  gt_ (t0 = 0 ∨ t0 = 1) <| some (t0, σ)
set_option maxHeartbeats 4000000 in
set_option maxRecDepth 100000 in
theorem t_J0_isLatin1_aae02_b18 {l : Launch} {D : va_G} {cy : Nat → ClassId} {ka : Nat → Nat} {σ0 z : TH} {r : Int32}  {σ : TH} {t0 : Int32} (hf : f_J0_isLatin1_aae02_b18 σ t0 = some (r, z)) : v_ l D cy ka cJ0_isLatin1_aae02 RJ0 1 (some FieldType.boolean) "isLatin1" 0 0 (qf_ D cy σ0 z (some (.int r))) σ0 z σ 18 [] [.int t0] := by
  unfold f_J0_isLatin1_aae02_b18 at hf
  obtain ⟨hb9, hf⟩ := gt_of hf
  exact v_zret hf (nz_ hb9) dJ0_isLatin1_aae02_18
def f_J0_isLatin1_aae02_b17 (σ : TH) : Option (Int32 × TH) :=
  f_J0_isLatin1_aae02_b18 σ (0 : Int32)
set_option maxHeartbeats 4000000 in
set_option maxRecDepth 100000 in
theorem t_J0_isLatin1_aae02_b17 {l : Launch} {D : va_G} {cy : Nat → ClassId} {ka : Nat → Nat} {σ0 z : TH} {r : Int32}  {σ : TH}  (hf : f_J0_isLatin1_aae02_b17 σ  = some (r, z)) : v_ l D cy ka cJ0_isLatin1_aae02 RJ0 1 (some FieldType.boolean) "isLatin1" 0 0 (qf_ D cy σ0 z (some (.int r))) σ0 z σ 17 [] [] := by
  unfold f_J0_isLatin1_aae02_b17 at hf
  refine v_iconst (v := 0) dJ0_isLatin1_aae02_17 (by decide) ?_
  refine v_sub [] (L2 := []) rfl ?_
  exact t_J0_isLatin1_aae02_b18  hf
/-- java/lang/String.isLatin1()Z -/
def f_J0_isLatin1_aae02 (σ : TH) (p0 : Nat) : Option (Int32 × TH) :=
  if (1 : Int32) = 0 then (f_J0_isLatin1_aae02_b17 σ ) else (gt_ (p0 < 18) <| if (0 : Int32) = 0 then (f_J0_isLatin1_aae02_b18 σ (1 : Int32)) else (f_J0_isLatin1_aae02_b17 σ ))
set_option maxHeartbeats 4000000 in
set_option maxRecDepth 100000 in
theorem c_J0_isLatin1_aae02 {l : Launch} {D : va_G} {cy : Nat → ClassId} {ka : Nat → Nat} {σ z : TH} {p0 : Nat} {r : Int32} (hf : f_J0_isLatin1_aae02 σ p0 = some (r, z)) : ct_ l D cy ka yJ0_isLatin1_aae02 0 0 [va_rf (some (ka p0))] σ (some (.int r)) z := by
  unfold f_J0_isLatin1_aae02 at hf
  refine v_start (cc := cJ0_isLatin1_aae02) (own := RJ0) (maxL := 1) (ret := (some FieldType.boolean)) (nm := "isLatin1") (by decide +kernel) kw_736 rfl rfl (by simp [lg_sl, va_rf_cat, cat_i, cat_l]) ?_
  refine v_eqL (L2 := [(0, va_rf (some (ka p0)))]) (by simp [lv_args, va_rf_cat, cat_i, cat_l]) ?_
  refine v_getsC kw_727 dJ0_isLatin1_aae02_0 ?_
  refine v_if_eq (tgt := 17) hf dJ0_isLatin1_aae02_3 (by decide) (fun hq hf => ?_) (fun hq hf => ?_)
  · refine v_sub [] (L2 := []) rfl ?_
    exact t_J0_isLatin1_aae02_b17  hf
  · refine v_aload_n (x := (some (ka p0))) dJ0_isLatin1_aae02_6 rfl 0 rfl ?_
    obtain ⟨h18_p0, hf⟩ := gt_of hf
    refine v_scod h18_p0 kw_2328 dJ0_isLatin1_aae02_7 ?_
    refine v_if_ne (tgt := 17) hf dJ0_isLatin1_aae02_10 (by decide) (fun hq hf => ?_) (fun hq hf => ?_)
    · refine v_iconst (v := 1) dJ0_isLatin1_aae02_13 (by decide) ?_
      refine v_goto (tgt := 18) dJ0_isLatin1_aae02_14 (by decide) ?_
      refine v_sub [] (L2 := []) rfl ?_
      exact t_J0_isLatin1_aae02_b18  hf
    · refine v_sub [] (L2 := []) rfl ?_
      exact t_J0_isLatin1_aae02_b17  hf
theorem dJ3_checkIndex_8e157_0 : decode cJ3_checkIndex_8e157 0 = .ok (.iload_n 0, 1) := by decide +kernel
theorem dJ3_checkIndex_8e157_1 : decode cJ3_checkIndex_8e157 1 = .ok (.ifCond .lt 8, 3) := by decide +kernel
theorem dJ3_checkIndex_8e157_4 : decode cJ3_checkIndex_8e157 4 = .ok (.iload_n 0, 1) := by decide +kernel
theorem dJ3_checkIndex_8e157_5 : decode cJ3_checkIndex_8e157 5 = .ok (.iload_n 1, 1) := by decide +kernel
theorem dJ3_checkIndex_8e157_6 : decode cJ3_checkIndex_8e157 6 = .ok (.if_icmp .lt 10, 3) := by decide +kernel
theorem dJ3_checkIndex_8e157_9 : decode cJ3_checkIndex_8e157 9 = .ok (.aload_n 2, 1) := by decide +kernel
theorem dJ3_checkIndex_8e157_10 : decode cJ3_checkIndex_8e157 10 = .ok (.iload_n 0, 1) := by decide +kernel
theorem dJ3_checkIndex_8e157_11 : decode cJ3_checkIndex_8e157 11 = .ok (.iload_n 1, 1) := by decide +kernel
theorem dJ3_checkIndex_8e157_12 : decode cJ3_checkIndex_8e157 12 = .ok (.invokestatic 95, 3) := by decide +kernel
theorem dJ3_checkIndex_8e157_15 : decode cJ3_checkIndex_8e157 15 = .ok (.athrow, 1) := by decide +kernel
theorem dJ3_checkIndex_8e157_16 : decode cJ3_checkIndex_8e157 16 = .ok (.iload_n 0, 1) := by decide +kernel
theorem dJ3_checkIndex_8e157_17 : decode cJ3_checkIndex_8e157 17 = .ok (.ireturn, 1) := by decide +kernel
def f_J3_checkIndex_8e157_b9 (σ : TH) (l0 : Int32) (l1 : Int32) (l2 : Option Nat) : Option (Int32 × TH) :=
  none
set_option maxHeartbeats 4000000 in
set_option maxRecDepth 100000 in
theorem t_J3_checkIndex_8e157_b9 {l : Launch} {D : va_G} {cy : Nat → ClassId} {ka : Nat → Nat} {σ0 z : TH} {r : Int32}  {σ : TH} {l0 : Int32} {l1 : Int32} {l2 : Option Nat} (hf : f_J3_checkIndex_8e157_b9 σ l0 l1 l2 = some (r, z)) : v_ l D cy ka cJ3_checkIndex_8e157 RJ3 3 (some FieldType.int) "checkIndex" 0 0 (qf_ D cy σ0 z (some (.int r))) σ0 z σ 9 [(0, .int l0), (1, .int l1), (2, va_rf l2)] [] := by
  unfold f_J3_checkIndex_8e157_b9 at hf
  refine v_aload_n (x := l2) dJ3_checkIndex_8e157_9 rfl 2 rfl ?_
  refine v_iload_n (x := l0) dJ3_checkIndex_8e157_10 rfl 0 rfl ?_
  refine v_iload_n (x := l1) dJ3_checkIndex_8e157_11 rfl 1 rfl ?_
  cases hf
/-- jdk/internal/util/Preconditions.checkIndex(IILjava/util/function/BiFunction;)I -/
def f_J3_checkIndex_8e157 (σ : TH) (p0 : Int32) (p1 : Int32) (p2 : Option Nat) : Option (Int32 × TH) :=
  if p0 < 0 then (f_J3_checkIndex_8e157_b9 σ p0 p1 p2) else (if p0 < p1 then (some (p0, σ)) else (f_J3_checkIndex_8e157_b9 σ p0 p1 p2))
set_option maxHeartbeats 4000000 in
set_option maxRecDepth 100000 in
theorem c_J3_checkIndex_8e157 {l : Launch} {D : va_G} {cy : Nat → ClassId} {ka : Nat → Nat} {σ z : TH} {p0 : Int32} {p1 : Int32} {p2 : Option Nat} {r : Int32} (hf : f_J3_checkIndex_8e157 σ p0 p1 p2 = some (r, z)) : ct_ l D cy ka yJ3_checkIndex_8e157 0 0 [.int p0, .int p1, va_rf p2] σ (some (.int r)) z := by
  unfold f_J3_checkIndex_8e157 at hf
  refine v_start (cc := cJ3_checkIndex_8e157) (own := RJ3) (maxL := 3) (ret := (some FieldType.int)) (nm := "checkIndex") (by decide +kernel) kw_416 rfl rfl (by simp [lg_sl, va_rf_cat, cat_i, cat_l]) ?_
  refine v_eqL (L2 := [(0, .int p0), (1, .int p1), (2, va_rf p2)]) (by simp [lv_args, va_rf_cat, cat_i, cat_l]) ?_
  refine v_iload_n (x := p0) dJ3_checkIndex_8e157_0 rfl 0 rfl ?_
  refine v_if_lt (tgt := 9) hf dJ3_checkIndex_8e157_1 (by decide) (fun hq hf => ?_) (fun hq hf => ?_)
  · refine v_sub [0, 1, 2] (L2 := [(0, .int p0), (1, .int p1), (2, va_rf p2)]) rfl ?_
    exact t_J3_checkIndex_8e157_b9  hf
  · refine v_iload_n (x := p0) dJ3_checkIndex_8e157_4 rfl 0 rfl ?_
    refine v_iload_n (x := p1) dJ3_checkIndex_8e157_5 rfl 1 rfl ?_
    refine v_icmp_lt (tgt := 16) hf dJ3_checkIndex_8e157_6 (by decide) (fun hq hf => ?_) (fun hq hf => ?_)
    · refine v_iload_n (x := p0) dJ3_checkIndex_8e157_16 rfl 0 rfl ?_
      exact v_iret hf dJ3_checkIndex_8e157_17
    · refine v_sub [0, 1, 2] (L2 := [(0, .int p0), (1, .int p1), (2, va_rf p2)]) rfl ?_
      exact t_J3_checkIndex_8e157_b9  hf
theorem dJ0_checkIndex_df160_0 : decode cJ0_checkIndex_df160 0 = .ok (.iload_n 0, 1) := by decide +kernel
theorem dJ0_checkIndex_df160_1 : decode cJ0_checkIndex_df160 1 = .ok (.iload_n 1, 1) := by decide +kernel
theorem dJ0_checkIndex_df160_2 : decode cJ0_checkIndex_df160 2 = .ok (.getstatic 1053, 3) := by decide +kernel
theorem dJ0_checkIndex_df160_5 : decode cJ0_checkIndex_df160 5 = .ok (.invokestatic 1059, 3) := by decide +kernel
theorem dJ0_checkIndex_df160_8 : decode cJ0_checkIndex_df160 8 = .ok (.pop, 1) := by decide +kernel
theorem dJ0_checkIndex_df160_9 : decode cJ0_checkIndex_df160 9 = .ok (.return_, 1) := by decide +kernel
/-- java/lang/String.checkIndex(II)V -/
def f_J0_checkIndex_df160 (σ : TH) (p0 : Int32) (p1 : Int32) : Option (Unit × TH) :=
  bd_ (f_J3_checkIndex_8e157 σ p0 p1 none) fun x2 s3 => some ((), s3)
set_option maxHeartbeats 4000000 in
set_option maxRecDepth 100000 in
theorem c_J0_checkIndex_df160 {l : Launch} {D : va_G} {cy : Nat → ClassId} {ka : Nat → Nat} {σ z : TH} {p0 : Int32} {p1 : Int32} {r : Unit} (hf : f_J0_checkIndex_df160 σ p0 p1 = some (r, z)) : ct_ l D cy ka yJ0_checkIndex_df160 1 22 [.int p0, .int p1] σ none z := by
  unfold f_J0_checkIndex_df160 at hf
  refine v_start (cc := cJ0_checkIndex_df160) (own := RJ0) (maxL := 2) (ret := none) (nm := "checkIndex") (by decide +kernel) kw_742 rfl rfl (by simp [lg_sl, va_rf_cat, cat_i, cat_l]) ?_
  refine v_eqL (L2 := [(0, .int p0), (1, .int p1)]) (by simp [lv_args, va_rf_cat, cat_i, cat_l]) ?_
  refine v_iload_n (x := p0) dJ0_checkIndex_df160_0 rfl 0 rfl ?_
  refine v_iload_n (x := p1) dJ0_checkIndex_df160_1 rfl 1 rfl ?_
  refine v_getsF kw_743 dJ0_checkIndex_df160_2 (fun r1 => ?_)
  obtain ⟨x2, s3, hcs3, hf⟩ := bd_of hf
  have hts3 := c_J3_checkIndex_8e157 (l := l) (D := D) (cy := cy) (ka := ka) (show f_J3_checkIndex_8e157 σ p0 p1 r1 = some (x2, s3) from hcs3)
  refine v_callS (As := [.int p0, .int p1, va_rf r1]) (rest := []) hts3 yb_J3_checkIndex_8e157 kw_745 kw_415 rfl ⟨Nat.le_of_ble_eq_true rfl, Nat.le_of_ble_eq_true rfl⟩ rfl (cat_len (Nat.le_of_ble_eq_true rfl)) dJ0_checkIndex_df160_5 ?_
  show v_ l D cy ka cJ0_checkIndex_df160 RJ0 2 none "checkIndex" 1 22 (qf_ D cy σ z none) σ z _ 8 [(0, .int p0), (1, .int p1)] [.int x2]
  refine v_pop dJ0_checkIndex_df160_8 rfl ?_
  exact v_vret hf dJ0_checkIndex_df160_9
theorem dJ1_charAt_3b067_0 : decode cJ1_charAt_3b067 0 = .ok (.iload_n 1, 1) := by decide +kernel
theorem dJ1_charAt_3b067_1 : decode cJ1_charAt_3b067 1 = .ok (.aload_n 0, 1) := by decide +kernel
theorem dJ1_charAt_3b067_2 : decode cJ1_charAt_3b067 2 = .ok (.arraylength, 1) := by decide +kernel
theorem dJ1_charAt_3b067_3 : decode cJ1_charAt_3b067 3 = .ok (.invokestatic 9, 3) := by decide +kernel
theorem dJ1_charAt_3b067_6 : decode cJ1_charAt_3b067 6 = .ok (.aload_n 0, 1) := by decide +kernel
theorem dJ1_charAt_3b067_7 : decode cJ1_charAt_3b067 7 = .ok (.iload_n 1, 1) := by decide +kernel
theorem dJ1_charAt_3b067_8 : decode cJ1_charAt_3b067 8 = .ok (.baload, 1) := by decide +kernel
theorem dJ1_charAt_3b067_9 : decode cJ1_charAt_3b067 9 = .ok (.sipush 255, 3) := by decide +kernel
theorem dJ1_charAt_3b067_12 : decode cJ1_charAt_3b067 12 = .ok (.iand, 1) := by decide +kernel
theorem dJ1_charAt_3b067_13 : decode cJ1_charAt_3b067 13 = .ok (.i2c, 1) := by decide +kernel
theorem dJ1_charAt_3b067_14 : decode cJ1_charAt_3b067 14 = .ok (.ireturn, 1) := by decide +kernel
/-- java/lang/StringLatin1.charAt([BI)C -/
def f_J1_charAt_3b067 (σ : TH) (p0 : Nat) (p1 : Int32) : Option (Int32 × TH) :=
  gt_ (p0 < 18) <| bd_ (f_J0_checkIndex_df160 σ p1 (Int32.ofNat (stl_.getD p0 0))) fun x1 s2 => gt_ (¬ (p1 < 0 ∨ stl_.getD p0 0 ≤ p1.toNatClampNeg)) <| gt_ ((Int32.toUInt32 ((Int32.toUInt32 (((stb_.getD p0 []).getD p1.toNatClampNeg 0) &&& (255 : Int32)) % 65536).toInt32) % 65536).toInt32 = (Int32.toUInt32 (((stb_.getD p0 []).getD p1.toNatClampNeg 0) &&& (255 : Int32)) % 65536).toInt32) <| some ((Int32.toUInt32 (((stb_.getD p0 []).getD p1.toNatClampNeg 0) &&& (255 : Int32)) % 65536).toInt32, s2)
set_option maxHeartbeats 4000000 in
set_option maxRecDepth 100000 in
theorem c_J1_charAt_3b067 {l : Launch} {D : va_G} {cy : Nat → ClassId} {ka : Nat → Nat} {σ z : TH} {p0 : Nat} {p1 : Int32} {r : Int32} (hf : f_J1_charAt_3b067 σ p0 p1 = some (r, z)) : ct_ l D cy ka yJ1_charAt_3b067 2 43 [va_rf (some (ka (100 + p0))), .int p1] σ (some (.int r)) z := by
  unfold f_J1_charAt_3b067 at hf
  refine v_start (cc := cJ1_charAt_3b067) (own := RJ1) (maxL := 2) (ret := (some FieldType.char)) (nm := "charAt") (by decide +kernel) kw_739 rfl rfl (by simp [lg_sl, va_rf_cat, cat_i, cat_l]) ?_
  refine v_eqL (L2 := [(0, va_rf (some (ka (100 + p0)))), (1, .int p1)]) (by simp [lv_args, va_rf_cat, cat_i, cat_l]) ?_
  refine v_iload_n (x := p1) dJ1_charAt_3b067_0 rfl 1 rfl ?_
  refine v_aload_n (x := (some (ka (100 + p0)))) dJ1_charAt_3b067_1 rfl 0 rfl ?_
  obtain ⟨h18_p0, hf⟩ := gt_of hf
  refine v_slen h18_p0 dJ1_charAt_3b067_2 ?_
  obtain ⟨x1, s2, hcs2, hf⟩ := bd_of hf
  have hts2 := c_J0_checkIndex_df160 (l := l) (D := D) (cy := cy) (ka := ka) hcs2
  refine v_callS (As := [.int p1, .int (Int32.ofNat (stl_.getD p0 0))]) (rest := []) hts2 yb_J0_checkIndex_df160 kw_740 kw_741 rfl ⟨Nat.le_of_ble_eq_true rfl, Nat.le_of_ble_eq_true rfl⟩ rfl (cat_len (Nat.le_of_ble_eq_true rfl)) dJ1_charAt_3b067_3 ?_
  show v_ l D cy ka cJ1_charAt_3b067 RJ1 2 (some FieldType.char) "charAt" 2 43 (qf_ D cy σ z (some (.int r))) σ z _ 6 [(0, va_rf (some (ka (100 + p0)))), (1, .int p1)] []
  refine v_aload_n (x := (some (ka (100 + p0)))) dJ1_charAt_3b067_6 rfl 0 rfl ?_
  refine v_iload_n (x := p1) dJ1_charAt_3b067_7 rfl 1 rfl ?_
  refine v_sbald h18_p0 hf dJ1_charAt_3b067_8 (fun hf => ?_)
  refine v_sipush (v := 255) dJ1_charAt_3b067_9 (by decide) ?_
  refine v_iand dJ1_charAt_3b067_12 ?_
  refine v_i2c dJ1_charAt_3b067_13 ?_
  obtain ⟨hb9, hf⟩ := gt_of hf
  exact v_zret hf (nc_ hb9) dJ1_charAt_3b067_14
theorem dJ2_checkIndex_2214a_0 : decode cJ2_checkIndex_2214a 0 = .ok (.iload_n 0, 1) := by decide +kernel
theorem dJ2_checkIndex_2214a_1 : decode cJ2_checkIndex_2214a 1 = .ok (.aload_n 1, 1) := by decide +kernel
theorem dJ2_checkIndex_2214a_2 : decode cJ2_checkIndex_2214a 2 = .ok (.invokestatic 48, 3) := by decide +kernel
theorem dJ2_checkIndex_2214a_5 : decode cJ2_checkIndex_2214a 5 = .ok (.invokestatic 414, 3) := by decide +kernel
theorem dJ2_checkIndex_2214a_8 : decode cJ2_checkIndex_2214a 8 = .ok (.return_, 1) := by decide +kernel
/-- java/lang/StringUTF16.checkIndex(I[B)V -/
def f_J2_checkIndex_2214a (σ : TH) (p0 : Int32) (p1 : Option Nat) : Option (Unit × TH) :=
  none
set_option maxHeartbeats 4000000 in
set_option maxRecDepth 100000 in
theorem c_J2_checkIndex_2214a {l : Launch} {D : va_G} {cy : Nat → ClassId} {ka : Nat → Nat} {σ z : TH} {p0 : Int32} {p1 : Option Nat} {r : Unit} (hf : f_J2_checkIndex_2214a σ p0 p1 = some (r, z)) : ct_ l D cy ka yJ2_checkIndex_2214a 0 0 [.int p0, va_rf p1] σ none z := by
  unfold f_J2_checkIndex_2214a at hf
  refine v_start (cc := cJ2_checkIndex_2214a) (own := RJ2) (maxL := 2) (ret := none) (nm := "checkIndex") (by decide +kernel) kw_751 rfl rfl (by simp [lg_sl, va_rf_cat, cat_i, cat_l]) ?_
  refine v_eqL (L2 := [(0, .int p0), (1, va_rf p1)]) (by simp [lv_args, va_rf_cat, cat_i, cat_l]) ?_
  refine v_iload_n (x := p0) dJ2_checkIndex_2214a_0 rfl 0 rfl ?_
  refine v_aload_n (x := p1) dJ2_checkIndex_2214a_1 rfl 1 rfl ?_
  cases hf
theorem dJ2_charAt_3b067_0 : decode cJ2_charAt_3b067 0 = .ok (.iload_n 1, 1) := by decide +kernel
theorem dJ2_charAt_3b067_1 : decode cJ2_charAt_3b067 1 = .ok (.aload_n 0, 1) := by decide +kernel
theorem dJ2_charAt_3b067_2 : decode cJ2_charAt_3b067 2 = .ok (.invokestatic 67, 3) := by decide +kernel
theorem dJ2_charAt_3b067_5 : decode cJ2_charAt_3b067 5 = .ok (.aload_n 0, 1) := by decide +kernel
theorem dJ2_charAt_3b067_6 : decode cJ2_charAt_3b067 6 = .ok (.iload_n 1, 1) := by decide +kernel
theorem dJ2_charAt_3b067_7 : decode cJ2_charAt_3b067 7 = .ok (.invokestatic 71, 3) := by decide +kernel
theorem dJ2_charAt_3b067_10 : decode cJ2_charAt_3b067 10 = .ok (.ireturn, 1) := by decide +kernel
/-- java/lang/StringUTF16.charAt([BI)C -/
def f_J2_charAt_3b067 (σ : TH) (p0 : Option Nat) (p1 : Int32) : Option (Int32 × TH) :=
  none
set_option maxHeartbeats 4000000 in
set_option maxRecDepth 100000 in
theorem c_J2_charAt_3b067 {l : Launch} {D : va_G} {cy : Nat → ClassId} {ka : Nat → Nat} {σ z : TH} {p0 : Option Nat} {p1 : Int32} {r : Int32} (hf : f_J2_charAt_3b067 σ p0 p1 = some (r, z)) : ct_ l D cy ka yJ2_charAt_3b067 0 0 [va_rf p0, .int p1] σ (some (.int r)) z := by
  unfold f_J2_charAt_3b067 at hf
  refine v_start (cc := cJ2_charAt_3b067) (own := RJ2) (maxL := 2) (ret := (some FieldType.char)) (nm := "charAt") (by decide +kernel) kw_748 rfl rfl (by simp [lg_sl, va_rf_cat, cat_i, cat_l]) ?_
  refine v_eqL (L2 := [(0, va_rf p0), (1, .int p1)]) (by simp [lv_args, va_rf_cat, cat_i, cat_l]) ?_
  refine v_iload_n (x := p1) dJ2_charAt_3b067_0 rfl 1 rfl ?_
  refine v_aload_n (x := p0) dJ2_charAt_3b067_1 rfl 0 rfl ?_
  cases hf
theorem dJ0_charAt_5068e_0 : decode cJ0_charAt_5068e 0 = .ok (.aload_n 0, 1) := by decide +kernel
theorem dJ0_charAt_5068e_1 : decode cJ0_charAt_5068e 1 = .ok (.invokevirtual 492, 3) := by decide +kernel
theorem dJ0_charAt_5068e_4 : decode cJ0_charAt_5068e 4 = .ok (.ifCond .eq 12, 3) := by decide +kernel
theorem dJ0_charAt_5068e_7 : decode cJ0_charAt_5068e 7 = .ok (.aload_n 0, 1) := by decide +kernel
theorem dJ0_charAt_5068e_8 : decode cJ0_charAt_5068e 8 = .ok (.getfield 9, 3) := by decide +kernel
theorem dJ0_charAt_5068e_11 : decode cJ0_charAt_5068e 11 = .ok (.iload_n 1, 1) := by decide +kernel
theorem dJ0_charAt_5068e_12 : decode cJ0_charAt_5068e 12 = .ok (.invokestatic 495, 3) := by decide +kernel
theorem dJ0_charAt_5068e_15 : decode cJ0_charAt_5068e 15 = .ok (.ireturn, 1) := by decide +kernel
theorem dJ0_charAt_5068e_16 : decode cJ0_charAt_5068e 16 = .ok (.aload_n 0, 1) := by decide +kernel
theorem dJ0_charAt_5068e_17 : decode cJ0_charAt_5068e 17 = .ok (.getfield 9, 3) := by decide +kernel
theorem dJ0_charAt_5068e_20 : decode cJ0_charAt_5068e 20 = .ok (.iload_n 1, 1) := by decide +kernel
theorem dJ0_charAt_5068e_21 : decode cJ0_charAt_5068e 21 = .ok (.invokestatic 498, 3) := by decide +kernel
theorem dJ0_charAt_5068e_24 : decode cJ0_charAt_5068e 24 = .ok (.ireturn, 1) := by decide +kernel
/-- java/lang/String.charAt(I)C -/
def f_J0_charAt_5068e (σ : TH) (p0 : Nat) (p1 : Int32) : Option (Int32 × TH) :=
  gt_ (p0 < 18) <| bd_ (f_J0_isLatin1_aae02 σ p0) fun x1 s2 => if x1 = 0 then (none) else (bd_ (f_J1_charAt_3b067 s2 p0 p1) fun x3 s4 => gt_ ((Int32.toUInt32 x3 % 65536).toInt32 = x3) <| some (x3, s4))
set_option maxHeartbeats 4000000 in
set_option maxRecDepth 100000 in
theorem c_J0_charAt_5068e {l : Launch} {D : va_G} {cy : Nat → ClassId} {ka : Nat → Nat} {σ z : TH} {p0 : Nat} {p1 : Int32} {r : Int32} (hf : f_J0_charAt_5068e σ p0 p1 = some (r, z)) : ct_ l D cy ka yJ0_charAt_5068e 3 64 [va_rf (some (ka p0)), .int p1] σ (some (.int r)) z := by
  unfold f_J0_charAt_5068e at hf
  refine v_start (cc := cJ0_charAt_5068e) (own := RJ0) (maxL := 2) (ret := (some FieldType.char)) (nm := "charAt") (by decide +kernel) kw_732 rfl rfl (by simp [lg_sl, va_rf_cat, cat_i, cat_l]) ?_
  refine v_eqL (L2 := [(0, va_rf (some (ka p0))), (1, .int p1)]) (by simp [lv_args, va_rf_cat, cat_i, cat_l]) ?_
  refine v_aload_n (x := (some (ka p0))) dJ0_charAt_5068e_0 rfl 0 rfl ?_
  obtain ⟨h18_p0, hf⟩ := gt_of hf
  obtain ⟨x1, s2, hcs2, hf⟩ := bd_of hf
  have hts2 := c_J0_isLatin1_aae02 (l := l) (D := D) (cy := cy) (ka := ka) hcs2
  refine v_callVS h18_p0 (As := []) (rest := []) hts2 yb_J0_isLatin1_aae02 kw_733 kw_734 kw_735 rfl ⟨Nat.le_of_ble_eq_true rfl, Nat.le_of_ble_eq_true rfl⟩ rfl (cat_len (Nat.le_of_ble_eq_true rfl)) dJ0_charAt_5068e_1 ?_
  show v_ l D cy ka cJ0_charAt_5068e RJ0 2 (some FieldType.char) "charAt" 3 64 (qf_ D cy σ z (some (.int r))) σ z _ 4 [(0, va_rf (some (ka p0))), (1, .int p1)] [.int x1]
  refine v_if_eq (tgt := 16) hf dJ0_charAt_5068e_4 (by decide) (fun hq hf => ?_) (fun hq hf => ?_)
  · refine v_aload_n (x := (some (ka p0))) dJ0_charAt_5068e_16 rfl 0 rfl ?_
    refine v_sval h18_p0 kw_2327 dJ0_charAt_5068e_17 ?_
    refine v_iload_n (x := p1) dJ0_charAt_5068e_20 rfl 1 rfl ?_
    cases hf
  · refine v_aload_n (x := (some (ka p0))) dJ0_charAt_5068e_7 rfl 0 rfl ?_
    refine v_sval h18_p0 kw_2327 dJ0_charAt_5068e_8 ?_
    refine v_iload_n (x := p1) dJ0_charAt_5068e_11 rfl 1 rfl ?_
    obtain ⟨x3, s4, hcs4, hf⟩ := bd_of hf
    have hts4 := c_J1_charAt_3b067 (l := l) (D := D) (cy := cy) (ka := ka) hcs4
    refine v_callS (As := [va_rf (some (ka (100 + p0))), .int p1]) (rest := []) hts4 yb_J1_charAt_3b067 kw_737 kw_738 rfl ⟨Nat.le_of_ble_eq_true rfl, Nat.le_of_ble_eq_true rfl⟩ rfl (cat_len (Nat.le_of_ble_eq_true rfl)) dJ0_charAt_5068e_12 ?_
    show v_ l D cy ka cJ0_charAt_5068e RJ0 2 (some FieldType.char) "charAt" 3 64 (qf_ D cy σ z (some (.int r))) σ z _ 15 [(0, va_rf (some (ka p0))), (1, .int p1)] [.int x3]
    obtain ⟨hb9, hf⟩ := gt_of hf
    exact v_zret hf (nc_ hb9) dJ0_charAt_5068e_15
theorem dJ0_coder_7d493_0 : decode cJ0_coder_7d493 0 = .ok (.getstatic 38, 3) := by decide +kernel
theorem dJ0_coder_7d493_3 : decode cJ0_coder_7d493 3 = .ok (.ifCond .eq 10, 3) := by decide +kernel
theorem dJ0_coder_7d493_6 : decode cJ0_coder_7d493 6 = .ok (.aload_n 0, 1) := by decide +kernel
theorem dJ0_coder_7d493_7 : decode cJ0_coder_7d493 7 = .ok (.getfield 15, 3) := by decide +kernel
theorem dJ0_coder_7d493_10 : decode cJ0_coder_7d493 10 = .ok (.goto 4, 3) := by decide +kernel
theorem dJ0_coder_7d493_13 : decode cJ0_coder_7d493 13 = .ok (.iconst 1, 1) := by decide +kernel
theorem dJ0_coder_7d493_14 : decode cJ0_coder_7d493 14 = .ok (.ireturn, 1) := by decide +kernel
def f_J0_coder_7d493_b14 (σ : TH) (t0 : Int32) : Option (Int32 × TH) :=
  gt_ ((Int32.toInt8 t0).toInt32 = t0) <| some (t0, σ)
set_option maxHeartbeats 4000000 in
set_option maxRecDepth 100000 in
theorem t_J0_coder_7d493_b14 {l : Launch} {D : va_G} {cy : Nat → ClassId} {ka : Nat → Nat} {σ0 z : TH} {r : Int32}  {σ : TH} {t0 : Int32} (hf : f_J0_coder_7d493_b14 σ t0 = some (r, z)) : v_ l D cy ka cJ0_coder_7d493 RJ0 1 (some FieldType.byte) "coder" 0 0 (qf_ D cy σ0 z (some (.int r))) σ0 z σ 14 [] [.int t0] := by
  unfold f_J0_coder_7d493_b14 at hf
  obtain ⟨hb9, hf⟩ := gt_of hf
  exact v_zret hf (nb_ hb9) dJ0_coder_7d493_14
/-- java/lang/String.coder()B -/
def f_J0_coder_7d493 (σ : TH) (p0 : Nat) : Option (Int32 × TH) :=
  if (1 : Int32) = 0 then (f_J0_coder_7d493_b14 σ (1 : Int32)) else (gt_ (p0 < 18) <| f_J0_coder_7d493_b14 σ (0 : Int32))
set_option maxHeartbeats 4000000 in
set_option maxRecDepth 100000 in
theorem c_J0_coder_7d493 {l : Launch} {D : va_G} {cy : Nat → ClassId} {ka : Nat → Nat} {σ z : TH} {p0 : Nat} {r : Int32} (hf : f_J0_coder_7d493 σ p0 = some (r, z)) : ct_ l D cy ka yJ0_coder_7d493 0 0 [va_rf (some (ka p0))] σ (some (.int r)) z := by
  unfold f_J0_coder_7d493 at hf
  refine v_start (cc := cJ0_coder_7d493) (own := RJ0) (maxL := 1) (ret := (some FieldType.byte)) (nm := "coder") (by decide +kernel) kw_726 rfl rfl (by simp [lg_sl, va_rf_cat, cat_i, cat_l]) ?_
  refine v_eqL (L2 := [(0, va_rf (some (ka p0)))]) (by simp [lv_args, va_rf_cat, cat_i, cat_l]) ?_
  refine v_getsC kw_727 dJ0_coder_7d493_0 ?_
  refine v_if_eq (tgt := 13) hf dJ0_coder_7d493_3 (by decide) (fun hq hf => ?_) (fun hq hf => ?_)
  · refine v_iconst (v := 1) dJ0_coder_7d493_13 (by decide) ?_
    refine v_sub [] (L2 := []) rfl ?_
    exact t_J0_coder_7d493_b14  hf
  · refine v_aload_n (x := (some (ka p0))) dJ0_coder_7d493_6 rfl 0 rfl ?_
    obtain ⟨h18_p0, hf⟩ := gt_of hf
    refine v_scod h18_p0 kw_2328 dJ0_coder_7d493_7 ?_
    refine v_goto (tgt := 14) dJ0_coder_7d493_10 (by decide) ?_
    refine v_sub [] (L2 := []) rfl ?_
    exact t_J0_coder_7d493_b14  hf
theorem dJ0_length_8abf5_0 : decode cJ0_length_8abf5 0 = .ok (.aload_n 0, 1) := by decide +kernel
theorem dJ0_length_8abf5_1 : decode cJ0_length_8abf5 1 = .ok (.getfield 9, 3) := by decide +kernel
theorem dJ0_length_8abf5_4 : decode cJ0_length_8abf5 4 = .ok (.arraylength, 1) := by decide +kernel
theorem dJ0_length_8abf5_5 : decode cJ0_length_8abf5 5 = .ok (.aload_n 0, 1) := by decide +kernel
theorem dJ0_length_8abf5_6 : decode cJ0_length_8abf5 6 = .ok (.invokevirtual 335, 3) := by decide +kernel
theorem dJ0_length_8abf5_9 : decode cJ0_length_8abf5 9 = .ok (.ishr, 1) := by decide +kernel
theorem dJ0_length_8abf5_10 : decode cJ0_length_8abf5 10 = .ok (.ireturn, 1) := by decide +kernel
/-- java/lang/String.length()I -/
def f_J0_length_8abf5 (σ : TH) (p0 : Nat) : Option (Int32 × TH) :=
  gt_ (p0 < 18) <| bd_ (f_J0_coder_7d493 σ p0) fun x1 s2 => some ((Int32.ofNat (stl_.getD p0 0)) >>> (x1 &&& 31), s2)
set_option maxHeartbeats 4000000 in
set_option maxRecDepth 100000 in
theorem c_J0_length_8abf5 {l : Launch} {D : va_G} {cy : Nat → ClassId} {ka : Nat → Nat} {σ z : TH} {p0 : Nat} {r : Int32} (hf : f_J0_length_8abf5 σ p0 = some (r, z)) : ct_ l D cy ka yJ0_length_8abf5 1 20 [va_rf (some (ka p0))] σ (some (.int r)) z := by
  unfold f_J0_length_8abf5 at hf
  refine v_start (cc := cJ0_length_8abf5) (own := RJ0) (maxL := 1) (ret := (some FieldType.int)) (nm := "length") (by decide +kernel) kw_722 rfl rfl (by simp [lg_sl, va_rf_cat, cat_i, cat_l]) ?_
  refine v_eqL (L2 := [(0, va_rf (some (ka p0)))]) (by simp [lv_args, va_rf_cat, cat_i, cat_l]) ?_
  refine v_aload_n (x := (some (ka p0))) dJ0_length_8abf5_0 rfl 0 rfl ?_
  obtain ⟨h18_p0, hf⟩ := gt_of hf
  refine v_sval h18_p0 kw_2327 dJ0_length_8abf5_1 ?_
  refine v_slen h18_p0 dJ0_length_8abf5_4 ?_
  refine v_aload_n (x := (some (ka p0))) dJ0_length_8abf5_5 rfl 0 rfl ?_
  obtain ⟨x1, s2, hcs2, hf⟩ := bd_of hf
  have hts2 := c_J0_coder_7d493 (l := l) (D := D) (cy := cy) (ka := ka) hcs2
  refine v_callVS h18_p0 (As := []) (rest := [.int (Int32.ofNat (stl_.getD p0 0))]) hts2 yb_J0_coder_7d493 kw_723 kw_724 kw_725 rfl ⟨Nat.le_of_ble_eq_true rfl, Nat.le_of_ble_eq_true rfl⟩ rfl (cat_len (Nat.le_of_ble_eq_true rfl)) dJ0_length_8abf5_6 ?_
  show v_ l D cy ka cJ0_length_8abf5 RJ0 1 (some FieldType.int) "length" 1 20 (qf_ D cy σ z (some (.int r))) σ z _ 9 [(0, va_rf (some (ka p0)))] [.int x1, .int (Int32.ofNat (stl_.getD p0 0))]
  refine v_ishr dJ0_length_8abf5_9 ?_
  exact v_iret hf dJ0_length_8abf5_10
theorem dJ15_checkIndex_7cf53_0 : decode cJ15_checkIndex_7cf53 0 = .ok (.iload_n 0, 1) := by decide +kernel
theorem dJ15_checkIndex_7cf53_1 : decode cJ15_checkIndex_7cf53 1 = .ok (.iload_n 1, 1) := by decide +kernel
theorem dJ15_checkIndex_7cf53_2 : decode cJ15_checkIndex_7cf53 2 = .ok (.aconst_null, 1) := by decide +kernel
theorem dJ15_checkIndex_7cf53_3 : decode cJ15_checkIndex_7cf53 3 = .ok (.invokestatic 105, 3) := by decide +kernel
theorem dJ15_checkIndex_7cf53_6 : decode cJ15_checkIndex_7cf53 6 = .ok (.ireturn, 1) := by decide +kernel
/-- java/util/Objects.checkIndex(II)I -/
def f_J15_checkIndex_7cf53 (σ : TH) (p0 : Int32) (p1 : Int32) : Option (Int32 × TH) :=
  bd_ (f_J3_checkIndex_8e157 σ p0 p1 none) fun x1 s2 => some (x1, s2)
set_option maxHeartbeats 4000000 in
set_option maxRecDepth 100000 in
theorem c_J15_checkIndex_7cf53 {l : Launch} {D : va_G} {cy : Nat → ClassId} {ka : Nat → Nat} {σ z : TH} {p0 : Int32} {p1 : Int32} {r : Int32} (hf : f_J15_checkIndex_7cf53 σ p0 p1 = some (r, z)) : ct_ l D cy ka yJ15_checkIndex_7cf53 1 22 [.int p0, .int p1] σ (some (.int r)) z := by
  unfold f_J15_checkIndex_7cf53 at hf
  refine v_start (cc := cJ15_checkIndex_7cf53) (own := RJ15) (maxL := 2) (ret := (some FieldType.int)) (nm := "checkIndex") (by decide +kernel) kw_413 rfl rfl (by simp [lg_sl, va_rf_cat, cat_i, cat_l]) ?_
  refine v_eqL (L2 := [(0, .int p0), (1, .int p1)]) (by simp [lv_args, va_rf_cat, cat_i, cat_l]) ?_
  refine v_iload_n (x := p0) dJ15_checkIndex_7cf53_0 rfl 0 rfl ?_
  refine v_iload_n (x := p1) dJ15_checkIndex_7cf53_1 rfl 1 rfl ?_
  refine v_null dJ15_checkIndex_7cf53_2 ?_
  obtain ⟨x1, s2, hcs2, hf⟩ := bd_of hf
  have hts2 := c_J3_checkIndex_8e157 (l := l) (D := D) (cy := cy) (ka := ka) hcs2
  refine v_callS (As := [.int p0, .int p1, va_rf none]) (rest := []) hts2 yb_J3_checkIndex_8e157 kw_414 kw_415 rfl ⟨Nat.le_of_ble_eq_true rfl, Nat.le_of_ble_eq_true rfl⟩ rfl (cat_len (Nat.le_of_ble_eq_true rfl)) dJ15_checkIndex_7cf53_3 ?_
  show v_ l D cy ka cJ15_checkIndex_7cf53 RJ15 2 (some FieldType.int) "checkIndex" 1 22 (qf_ D cy σ z (some (.int r))) σ z _ 6 [(0, .int p0), (1, .int p1)] [.int x1]
  exact v_iret hf dJ15_checkIndex_7cf53_6
theorem dJ7_copyOf_6403c_0 : decode cJ7_copyOf_6403c 0 = .ok (.aload_n 2, 1) := by decide +kernel
theorem dJ7_copyOf_6403c_1 : decode cJ7_copyOf_6403c 1 = .ok (.ldc 110, 2) := by decide +kernel
theorem dJ7_copyOf_6403c_3 : decode cJ7_copyOf_6403c 3 = .ok (.if_acmp .ne 10, 3) := by decide +kernel
theorem dJ7_copyOf_6403c_6 : decode cJ7_copyOf_6403c 6 = .ok (.iload_n 1, 1) := by decide +kernel
theorem dJ7_copyOf_6403c_7 : decode cJ7_copyOf_6403c 7 = .ok (.anewarray 2, 3) := by decide +kernel
theorem dJ7_copyOf_6403c_10 : decode cJ7_copyOf_6403c 10 = .ok (.goto 14, 3) := by decide +kernel
theorem dJ7_copyOf_6403c_13 : decode cJ7_copyOf_6403c 13 = .ok (.aload_n 2, 1) := by decide +kernel
theorem dJ7_copyOf_6403c_14 : decode cJ7_copyOf_6403c 14 = .ok (.invokevirtual 90, 3) := by decide +kernel
theorem dJ7_copyOf_6403c_17 : decode cJ7_copyOf_6403c 17 = .ok (.iload_n 1, 1) := by decide +kernel
theorem dJ7_copyOf_6403c_18 : decode cJ7_copyOf_6403c 18 = .ok (.invokestatic 95, 3) := by decide +kernel
theorem dJ7_copyOf_6403c_21 : decode cJ7_copyOf_6403c 21 = .ok (.checkcast 110, 3) := by decide +kernel
theorem dJ7_copyOf_6403c_24 : decode cJ7_copyOf_6403c 24 = .ok (.astore_n 3, 1) := by decide +kernel
theorem dJ7_copyOf_6403c_25 : decode cJ7_copyOf_6403c 25 = .ok (.aload_n 0, 1) := by decide +kernel
theorem dJ7_copyOf_6403c_26 : decode cJ7_copyOf_6403c 26 = .ok (.iconst 0, 1) := by decide +kernel
theorem dJ7_copyOf_6403c_27 : decode cJ7_copyOf_6403c 27 = .ok (.aload_n 3, 1) := by decide +kernel
theorem dJ7_copyOf_6403c_28 : decode cJ7_copyOf_6403c 28 = .ok (.iconst 0, 1) := by decide +kernel
theorem dJ7_copyOf_6403c_29 : decode cJ7_copyOf_6403c 29 = .ok (.aload_n 0, 1) := by decide +kernel
theorem dJ7_copyOf_6403c_30 : decode cJ7_copyOf_6403c 30 = .ok (.arraylength, 1) := by decide +kernel
theorem dJ7_copyOf_6403c_31 : decode cJ7_copyOf_6403c 31 = .ok (.iload_n 1, 1) := by decide +kernel
theorem dJ7_copyOf_6403c_32 : decode cJ7_copyOf_6403c 32 = .ok (.invokestatic 304, 3) := by decide +kernel
theorem dJ7_copyOf_6403c_35 : decode cJ7_copyOf_6403c 35 = .ok (.invokestatic 150, 3) := by decide +kernel
theorem dJ7_copyOf_6403c_38 : decode cJ7_copyOf_6403c 38 = .ok (.aload_n 3, 1) := by decide +kernel
theorem dJ7_copyOf_6403c_39 : decode cJ7_copyOf_6403c 39 = .ok (.areturn, 1) := by decide +kernel
def f_J7_copyOf_6403c_b24 (ka : Nat → Nat) (σ : TH) (l0 : Option Nat) (l1 : Int32) (t0 : Option Nat) : Option (Option Nat × TH) :=
  nn_ l0 fun a3 => gt_ (kd_ σ a3 = 24 ∨ a3 = ka 200) <| lt_ (if kd_ σ a3 = 24 then Int32.ofNat (ln_ σ a3) else 0) fun x4 => nn_ t0 fun a5 => gt_ (kd_ σ a3 = 24) <| gt_ (kd_ σ a5 = 24) <| gt_ (¬ (0 : Int32) < 0 ∧ ¬ (0 : Int32) < 0 ∧ ¬ (if l1 < x4 then l1 else x4) < 0 ∧ (0 : Int32).toNatClampNeg + (if l1 < x4 then l1 else x4 : Int32).toNatClampNeg ≤ ln_ σ a3 ∧ (0 : Int32).toNatClampNeg + (if l1 < x4 then l1 else x4 : Int32).toNatClampNeg ≤ ln_ σ a5 ∧ 0 < ln_ σ a5 ∧ ∀ i, i < (if l1 < x4 then l1 else x4 : Int32).toNatClampNeg → Option.elim (ar_ σ a3 ((0 : Int32).toNatClampNeg + i)) 1 (kd_ σ) ≠ 0 ∧ Option.elim (ar_ σ a3 ((0 : Int32).toNatClampNeg + i)) 1 (kd_ σ) < 18) <| lt_ (sc_ σ a3 a5 ((0 : Int32).toNatClampNeg) ((0 : Int32).toNatClampNeg) ((if l1 < x4 then l1 else x4 : Int32).toNatClampNeg)) fun s6 => some ((some a5), s6)
set_option maxHeartbeats 4000000 in
set_option maxRecDepth 100000 in
theorem t_J7_copyOf_6403c_b24 {l : Launch} {D : va_G} {cy : Nat → ClassId} {ka : Nat → Nat} {σ0 z : TH} {r : Option Nat}  {σ : TH} {l0 : Option Nat} {l1 : Int32} {t0 : Option Nat} (hf : f_J7_copyOf_6403c_b24 ka σ l0 l1 t0 = some (r, z)) : v_ l D cy ka cJ7_copyOf_6403c RJ7 4 (some (FieldType.array (FieldType.object "java/lang/Object"))) "copyOf" 1 60 (qf_ D cy σ0 z (some (va_rf r))) σ0 z σ 24 [(0, va_rf l0), (1, .int l1)] [va_rf t0] := by
  unfold f_J7_copyOf_6403c_b24 at hf
  refine v_astore_n [(3, va_rf t0), (0, va_rf l0), (1, .int l1)] dJ7_copyOf_6403c_24 rfl (by decide) rfl ?_
  refine v_aload_n (x := l0) dJ7_copyOf_6403c_25 rfl 1 rfl ?_
  refine v_iconst (v := 0) dJ7_copyOf_6403c_26 (by decide) ?_
  refine v_aload_n (x := t0) dJ7_copyOf_6403c_27 rfl 0 rfl ?_
  refine v_iconst (v := 0) dJ7_copyOf_6403c_28 (by decide) ?_
  refine v_aload_n (x := l0) dJ7_copyOf_6403c_29 rfl 1 rfl ?_
  obtain ⟨a3, rfl, hf⟩ := nn_of hf
  refine v_alenE hf dJ7_copyOf_6403c_30 (fun x4 hf => ?_)
  refine v_iload_n (x := l1) dJ7_copyOf_6403c_31 rfl 2 rfl ?_
  refine v_mmin kw_387 kw_16 (by decide) (by decide) (cat_len (Nat.le_of_ble_eq_true rfl)) dJ7_copyOf_6403c_32 ?_
  obtain ⟨a5, rfl, hf⟩ := nn_of hf
  obtain ⟨hk_a3, hf⟩ := gt_of hf
  obtain ⟨hk_a5, hf⟩ := gt_of hf
  refine v_acpq kw_390 hk_a3 hk_a5 hf (by decide) (by decide) (cat_len (Nat.le_of_ble_eq_true rfl)) dJ7_copyOf_6403c_35 (fun s6 hts6 hf => ?_)
  have hk_a3 := tk_ hts6 hk_a3
  have hk_a5 := tk_ hts6 hk_a5
  refine v_aload_n (x := (some a5)) dJ7_copyOf_6403c_38 rfl 0 rfl ?_
  exact v_aret (x := (some a5)) hf (Or.inr ⟨_, rfl⟩) dJ7_copyOf_6403c_39
/-- java/util/Arrays.copyOf([Ljava/lang/Object;ILjava/lang/Class;)[Ljava/lang/Object; -/
def f_J7_copyOf_6403c (ka : Nat → Nat) (σ : TH) (p0 : Option Nat) (p1 : Int32) (p2 : Option Nat) : Option (Option Nat × TH) :=
  if p2 = (some (ka 201)) then (gt_ (¬ p1 < 0 ∧ p1.toNatClampNeg ≤ 100000 ∧ kd_ σ (nx_ σ) = 0) <| lt_ (nx_ σ) fun a1 => lt_ (nw_ σ 24 p1.toNatClampNeg p1.toNatClampNeg) fun s2 => f_J7_copyOf_6403c_b24 ka s2 p0 p1 (some a1)) else (none)
set_option maxHeartbeats 4000000 in
set_option maxRecDepth 100000 in
theorem c_J7_copyOf_6403c {l : Launch} {D : va_G} {cy : Nat → ClassId} {ka : Nat → Nat} {σ z : TH} {p0 : Option Nat} {p1 : Int32} {p2 : Option Nat} {r : Option Nat} (hf : f_J7_copyOf_6403c ka σ p0 p1 p2 = some (r, z)) : ct_ l D cy ka yJ7_copyOf_6403c 1 60 [va_rf p0, .int p1, va_rf p2] σ (some (va_rf r)) z := by
  unfold f_J7_copyOf_6403c at hf
  refine v_start (cc := cJ7_copyOf_6403c) (own := RJ7) (maxL := 4) (ret := (some (FieldType.array (FieldType.object "java/lang/Object")))) (nm := "copyOf") (by decide +kernel) kw_383 rfl rfl (by simp [lg_sl, va_rf_cat, cat_i, cat_l]) ?_
  refine v_eqL (L2 := [(0, va_rf p0), (1, .int p1), (2, va_rf p2)]) (by simp [lv_args, va_rf_cat, cat_i, cat_l]) ?_
  refine v_aload_n (x := p2) dJ7_copyOf_6403c_0 rfl 2 rfl ?_
  refine v_ldcM kw_384 dJ7_copyOf_6403c_1 ?_
  refine v_acmp_ne (tgt := 13) hf dJ7_copyOf_6403c_3 (by decide) (fun hq hf => ?_) (fun hq hf => ?_)
  · refine v_iload_n (x := p1) dJ7_copyOf_6403c_6 rfl 1 rfl ?_
    refine v_anew2 24 4 "java/lang/Object" rfl (by decide) kw_386 (by decide) hf dJ7_copyOf_6403c_7 (fun a1 s2 hts2 hk_a1 hf => ?_)
    refine v_goto (tgt := 24) dJ7_copyOf_6403c_10 (by decide) ?_
    refine v_sub [0, 1] (L2 := [(0, va_rf p0), (1, .int p1)]) rfl ?_
    exact t_J7_copyOf_6403c_b24  hf
  · refine v_aload_n (x := p2) dJ7_copyOf_6403c_13 rfl 2 rfl ?_
    cases hf
theorem dJ7_copyOf_1904c_0 : decode cJ7_copyOf_1904c 0 = .ok (.aload_n 0, 1) := by decide +kernel
theorem dJ7_copyOf_1904c_1 : decode cJ7_copyOf_1904c 1 = .ok (.iload_n 1, 1) := by decide +kernel
theorem dJ7_copyOf_1904c_2 : decode cJ7_copyOf_1904c 2 = .ok (.aload_n 0, 1) := by decide +kernel
theorem dJ7_copyOf_1904c_3 : decode cJ7_copyOf_1904c 3 = .ok (.invokevirtual 86, 3) := by decide +kernel
theorem dJ7_copyOf_1904c_6 : decode cJ7_copyOf_1904c 6 = .ok (.invokestatic 300, 3) := by decide +kernel
theorem dJ7_copyOf_1904c_9 : decode cJ7_copyOf_1904c 9 = .ok (.areturn, 1) := by decide +kernel
/-- java/util/Arrays.copyOf([Ljava/lang/Object;I)[Ljava/lang/Object; -/
def f_J7_copyOf_1904c (ka : Nat → Nat) (σ : TH) (p0 : Option Nat) (p1 : Int32) : Option (Option Nat × TH) :=
  nn_ p0 fun a1 => gt_ (kd_ σ a1 = 24) <| bd_ (f_J7_copyOf_6403c ka σ (some a1) p1 (some (ka 201))) fun r2 s3 => some (r2, s3)
set_option maxHeartbeats 4000000 in
set_option maxRecDepth 100000 in
theorem c_J7_copyOf_1904c {l : Launch} {D : va_G} {cy : Nat → ClassId} {ka : Nat → Nat} {σ z : TH} {p0 : Option Nat} {p1 : Int32} {r : Option Nat} (hf : f_J7_copyOf_1904c ka σ p0 p1 = some (r, z)) : ct_ l D cy ka yJ7_copyOf_1904c 2 83 [va_rf p0, .int p1] σ (some (va_rf r)) z := by
  unfold f_J7_copyOf_1904c at hf
  refine v_start (cc := cJ7_copyOf_1904c) (own := RJ7) (maxL := 2) (ret := (some (FieldType.array (FieldType.object "java/lang/Object")))) (nm := "copyOf") (by decide +kernel) kw_358 rfl rfl (by simp [lg_sl, va_rf_cat, cat_i, cat_l]) ?_
  refine v_eqL (L2 := [(0, va_rf p0), (1, .int p1)]) (by simp [lv_args, va_rf_cat, cat_i, cat_l]) ?_
  refine v_aload_n (x := p0) dJ7_copyOf_1904c_0 rfl 0 rfl ?_
  refine v_iload_n (x := p1) dJ7_copyOf_1904c_1 rfl 1 rfl ?_
  refine v_aload_n (x := p0) dJ7_copyOf_1904c_2 rfl 0 rfl ?_
  obtain ⟨a1, rfl, hf⟩ := nn_of hf
  obtain ⟨hk_a1, hf⟩ := gt_of hf
  refine v_getC kw_359 hk_a1 (by decide) (by decide) (cat_len (Nat.le_of_ble_eq_true rfl)) dJ7_copyOf_1904c_3 ?_
  obtain ⟨r2, s3, hcs3, hf⟩ := bd_of hf
  have hts3 := c_J7_copyOf_6403c (l := l) (D := D) (cy := cy) (ka := ka) hcs3
  refine v_callS (As := [va_rf (some a1), .int p1, va_rf (some (ka 201))]) (rest := []) hts3 yb_J7_copyOf_6403c kw_381 kw_382 rfl ⟨Nat.le_of_ble_eq_true rfl, Nat.le_of_ble_eq_true rfl⟩ rfl (cat_len (Nat.le_of_ble_eq_true rfl)) dJ7_copyOf_1904c_6 ?_
  have hk_a1 := tk_ hts3.1 hk_a1
  show v_ l D cy ka cJ7_copyOf_1904c RJ7 2 (some (FieldType.array (FieldType.object "java/lang/Object"))) "copyOf" 2 83 (qf_ D cy σ z (some (va_rf r))) σ z _ 9 [(0, va_rf (some a1)), (1, .int p1)] [va_rf r2]
  exact v_aret (x := r2) hf (Or.inr ⟨_, rfl⟩) dJ7_copyOf_1904c_9
theorem dJ7_copyOf_59c91_0 : decode cJ7_copyOf_59c91 0 = .ok (.iload_n 1, 1) := by decide +kernel
theorem dJ7_copyOf_59c91_1 : decode cJ7_copyOf_59c91 1 = .ok (.aload_n 0, 1) := by decide +kernel
theorem dJ7_copyOf_59c91_2 : decode cJ7_copyOf_59c91 2 = .ok (.arraylength, 1) := by decide +kernel
theorem dJ7_copyOf_59c91_3 : decode cJ7_copyOf_59c91 3 = .ok (.if_icmp .ne 11, 3) := by decide +kernel
theorem dJ7_copyOf_59c91_6 : decode cJ7_copyOf_59c91 6 = .ok (.aload_n 0, 1) := by decide +kernel
theorem dJ7_copyOf_59c91_7 : decode cJ7_copyOf_59c91 7 = .ok (.invokevirtual 316, 3) := by decide +kernel
theorem dJ7_copyOf_59c91_10 : decode cJ7_copyOf_59c91 10 = .ok (.checkcast 317, 3) := by decide +kernel
theorem dJ7_copyOf_59c91_13 : decode cJ7_copyOf_59c91 13 = .ok (.areturn, 1) := by decide +kernel
theorem dJ7_copyOf_59c91_14 : decode cJ7_copyOf_59c91 14 = .ok (.iload_n 1, 1) := by decide +kernel
theorem dJ7_copyOf_59c91_15 : decode cJ7_copyOf_59c91 15 = .ok (.newarray .int, 2) := by decide +kernel
theorem dJ7_copyOf_59c91_17 : decode cJ7_copyOf_59c91 17 = .ok (.astore_n 2, 1) := by decide +kernel
theorem dJ7_copyOf_59c91_18 : decode cJ7_copyOf_59c91 18 = .ok (.aload_n 0, 1) := by decide +kernel
theorem dJ7_copyOf_59c91_19 : decode cJ7_copyOf_59c91 19 = .ok (.iconst 0, 1) := by decide +kernel
theorem dJ7_copyOf_59c91_20 : decode cJ7_copyOf_59c91 20 = .ok (.aload_n 2, 1) := by decide +kernel
theorem dJ7_copyOf_59c91_21 : decode cJ7_copyOf_59c91 21 = .ok (.iconst 0, 1) := by decide +kernel
theorem dJ7_copyOf_59c91_22 : decode cJ7_copyOf_59c91 22 = .ok (.aload_n 0, 1) := by decide +kernel
theorem dJ7_copyOf_59c91_23 : decode cJ7_copyOf_59c91 23 = .ok (.arraylength, 1) := by decide +kernel
theorem dJ7_copyOf_59c91_24 : decode cJ7_copyOf_59c91 24 = .ok (.iload_n 1, 1) := by decide +kernel
theorem dJ7_copyOf_59c91_25 : decode cJ7_copyOf_59c91 25 = .ok (.invokestatic 304, 3) := by decide +kernel
theorem dJ7_copyOf_59c91_28 : decode cJ7_copyOf_59c91 28 = .ok (.invokestatic 150, 3) := by decide +kernel
theorem dJ7_copyOf_59c91_31 : decode cJ7_copyOf_59c91 31 = .ok (.aload_n 2, 1) := by decide +kernel
theorem dJ7_copyOf_59c91_32 : decode cJ7_copyOf_59c91 32 = .ok (.areturn, 1) := by decide +kernel
/-- java/util/Arrays.copyOf([II)[I -/
def f_J7_copyOf_59c91 (σ : TH) (p0 : Option Nat) (p1 : Int32) : Option (Option Nat × TH) :=
  nn_ p0 fun a1 => gt_ (kd_ σ a1 = 20) <| lt_ (Int32.ofNat (ln_ σ a1)) fun x2 => if p1 = x2 then (none) else (gt_ (¬ p1 < 0 ∧ p1.toNatClampNeg ≤ 100000 ∧ kd_ σ (nx_ σ) = 0) <| lt_ (nx_ σ) fun a3 => lt_ (nw_ σ 20 p1.toNatClampNeg p1.toNatClampNeg) fun s4 => lt_ (Int32.ofNat (ln_ s4 a1)) fun x5 => gt_ (¬ (0 : Int32) < 0 ∧ ¬ (0 : Int32) < 0 ∧ ¬ (if p1 < x5 then p1 else x5) < 0 ∧ (0 : Int32).toNatClampNeg + (if p1 < x5 then p1 else x5 : Int32).toNatClampNeg ≤ ln_ s4 a1 ∧ (0 : Int32).toNatClampNeg + (if p1 < x5 then p1 else x5 : Int32).toNatClampNeg ≤ ln_ s4 a3) <| lt_ (sy_ s4 a1 a3 ((0 : Int32).toNatClampNeg) ((0 : Int32).toNatClampNeg) ((if p1 < x5 then p1 else x5 : Int32).toNatClampNeg)) fun s6 => some ((some a3), s6))
set_option maxHeartbeats 4000000 in
set_option maxRecDepth 100000 in
theorem c_J7_copyOf_59c91 {l : Launch} {D : va_G} {cy : Nat → ClassId} {ka : Nat → Nat} {σ z : TH} {p0 : Option Nat} {p1 : Int32} {r : Option Nat} (hf : f_J7_copyOf_59c91 σ p0 p1 = some (r, z)) : ct_ l D cy ka yJ7_copyOf_59c91 1 60 [va_rf p0, .int p1] σ (some (va_rf r)) z := by
  unfold f_J7_copyOf_59c91 at hf
  refine v_start (cc := cJ7_copyOf_59c91) (own := RJ7) (maxL := 3) (ret := (some (FieldType.array FieldType.int))) (nm := "copyOf") (by decide +kernel) kw_855 rfl rfl (by simp [lg_sl, va_rf_cat, cat_i, cat_l]) ?_
  refine v_eqL (L2 := [(0, va_rf p0), (1, .int p1)]) (by simp [lv_args, va_rf_cat, cat_i, cat_l]) ?_
  refine v_iload_n (x := p1) dJ7_copyOf_59c91_0 rfl 1 rfl ?_
  refine v_aload_n (x := p0) dJ7_copyOf_59c91_1 rfl 0 rfl ?_
  obtain ⟨a1, rfl, hf⟩ := nn_of hf
  obtain ⟨hk_a1, hf⟩ := gt_of hf
  refine v_alen 19 0 .int hk_a1 (by decide) rfl hf dJ7_copyOf_59c91_2 (fun x2 hf => ?_)
  refine v_icmp_ne (tgt := 14) hf dJ7_copyOf_59c91_3 (by decide) (fun hq hf => ?_) (fun hq hf => ?_)
  · refine v_aload_n (x := (some a1)) dJ7_copyOf_59c91_6 rfl 0 rfl ?_
    cases hf
  · refine v_iload_n (x := p1) dJ7_copyOf_59c91_14 rfl 1 rfl ?_
    refine v_newaI2 kw_135 hf dJ7_copyOf_59c91_15 (fun a3 s4 hts4 hk_a3 hf => ?_)
    have hk_a1 := tk_ hts4 hk_a1
    refine v_astore_n [(2, va_rf (some a3)), (0, va_rf (some a1)), (1, .int p1)] dJ7_copyOf_59c91_17 rfl (by decide) rfl ?_
    refine v_aload_n (x := (some a1)) dJ7_copyOf_59c91_18 rfl 1 rfl ?_
    refine v_iconst (v := 0) dJ7_copyOf_59c91_19 (by decide) ?_
    refine v_aload_n (x := (some a3)) dJ7_copyOf_59c91_20 rfl 0 rfl ?_
    refine v_iconst (v := 0) dJ7_copyOf_59c91_21 (by decide) ?_
    refine v_aload_n (x := (some a1)) dJ7_copyOf_59c91_22 rfl 1 rfl ?_
    refine v_alen 19 0 .int hk_a1 (by decide) rfl hf dJ7_copyOf_59c91_23 (fun x5 hf => ?_)
    refine v_iload_n (x := p1) dJ7_copyOf_59c91_24 rfl 2 rfl ?_
    refine v_mmin kw_387 kw_16 (by decide) (by decide) (cat_len (Nat.le_of_ble_eq_true rfl)) dJ7_copyOf_59c91_25 ?_
    refine v_acpi kw_390 hk_a1 hk_a3 hf (by decide) (by decide) (cat_len (Nat.le_of_ble_eq_true rfl)) dJ7_copyOf_59c91_28 (fun s6 hts6 hf => ?_)
    have hk_a1 := tk_ hts6 hk_a1
    have hk_a3 := tk_ hts6 hk_a3
    refine v_aload_n (x := (some a3)) dJ7_copyOf_59c91_31 rfl 0 rfl ?_
    exact v_aret (x := (some a3)) hf (Or.inr ⟨_, rfl⟩) dJ7_copyOf_59c91_32
theorem dJ8_newLength_cabcc_0 : decode cJ8_newLength_cabcc 0 = .ok (.iload_n 0, 1) := by decide +kernel
theorem dJ8_newLength_cabcc_1 : decode cJ8_newLength_cabcc 1 = .ok (.iload_n 1, 1) := by decide +kernel
theorem dJ8_newLength_cabcc_2 : decode cJ8_newLength_cabcc 2 = .ok (.iload_n 2, 1) := by decide +kernel
theorem dJ8_newLength_cabcc_3 : decode cJ8_newLength_cabcc 3 = .ok (.invokestatic 194, 3) := by decide +kernel
theorem dJ8_newLength_cabcc_6 : decode cJ8_newLength_cabcc 6 = .ok (.iadd, 1) := by decide +kernel
theorem dJ8_newLength_cabcc_7 : decode cJ8_newLength_cabcc 7 = .ok (.istore_n 3, 1) := by decide +kernel
theorem dJ8_newLength_cabcc_8 : decode cJ8_newLength_cabcc 8 = .ok (.iconst 0, 1) := by decide +kernel
theorem dJ8_newLength_cabcc_9 : decode cJ8_newLength_cabcc 9 = .ok (.iload_n 3, 1) := by decide +kernel
theorem dJ8_newLength_cabcc_10 : decode cJ8_newLength_cabcc 10 = .ok (.if_icmp .ge 11, 3) := by decide +kernel
theorem dJ8_newLength_cabcc_13 : decode cJ8_newLength_cabcc 13 = .ok (.iload_n 3, 1) := by decide +kernel
theorem dJ8_newLength_cabcc_14 : decode cJ8_newLength_cabcc 14 = .ok (.ldc 200, 2) := by decide +kernel
theorem dJ8_newLength_cabcc_16 : decode cJ8_newLength_cabcc 16 = .ok (.if_icmp .gt 5, 3) := by decide +kernel
theorem dJ8_newLength_cabcc_19 : decode cJ8_newLength_cabcc 19 = .ok (.iload_n 3, 1) := by decide +kernel
theorem dJ8_newLength_cabcc_20 : decode cJ8_newLength_cabcc 20 = .ok (.ireturn, 1) := by decide +kernel
theorem dJ8_newLength_cabcc_21 : decode cJ8_newLength_cabcc 21 = .ok (.iload_n 0, 1) := by decide +kernel
theorem dJ8_newLength_cabcc_22 : decode cJ8_newLength_cabcc 22 = .ok (.iload_n 1, 1) := by decide +kernel
theorem dJ8_newLength_cabcc_23 : decode cJ8_newLength_cabcc 23 = .ok (.invokestatic 201, 3) := by decide +kernel
theorem dJ8_newLength_cabcc_26 : decode cJ8_newLength_cabcc 26 = .ok (.ireturn, 1) := by decide +kernel
def f_J8_newLength_cabcc_b21 (σ : TH) (l0 : Int32) (l1 : Int32) : Option (Int32 × TH) :=
  none
set_option maxHeartbeats 4000000 in
set_option maxRecDepth 100000 in
theorem t_J8_newLength_cabcc_b21 {l : Launch} {D : va_G} {cy : Nat → ClassId} {ka : Nat → Nat} {σ0 z : TH} {r : Int32}  {σ : TH} {l0 : Int32} {l1 : Int32} (hf : f_J8_newLength_cabcc_b21 σ l0 l1 = some (r, z)) : v_ l D cy ka cJ8_newLength_cabcc RJ8 4 (some FieldType.int) "newLength" 1 21 (qf_ D cy σ0 z (some (.int r))) σ0 z σ 21 [(0, .int l0), (1, .int l1)] [] := by
  unfold f_J8_newLength_cabcc_b21 at hf
  refine v_iload_n (x := l0) dJ8_newLength_cabcc_21 rfl 0 rfl ?_
  refine v_iload_n (x := l1) dJ8_newLength_cabcc_22 rfl 1 rfl ?_
  cases hf
/-- jdk/internal/util/ArraysSupport.newLength(III)I -/
def f_J8_newLength_cabcc (σ : TH) (p0 : Int32) (p1 : Int32) (p2 : Int32) : Option (Int32 × TH) :=
  lt_ (p0 + (if p1 < p2 then p2 else p1)) fun x1 => if x1 ≤ (0 : Int32) then (f_J8_newLength_cabcc_b21 σ p0 p1) else (if (2147483639 : Int32) < x1 then (f_J8_newLength_cabcc_b21 σ p0 p1) else (some (x1, σ)))
set_option maxHeartbeats 4000000 in
set_option maxRecDepth 100000 in
theorem c_J8_newLength_cabcc {l : Launch} {D : va_G} {cy : Nat → ClassId} {ka : Nat → Nat} {σ z : TH} {p0 : Int32} {p1 : Int32} {p2 : Int32} {r : Int32} (hf : f_J8_newLength_cabcc σ p0 p1 p2 = some (r, z)) : ct_ l D cy ka yJ8_newLength_cabcc 1 21 [.int p0, .int p1, .int p2] σ (some (.int r)) z := by
  unfold f_J8_newLength_cabcc at hf
  refine v_start (cc := cJ8_newLength_cabcc) (own := RJ8) (maxL := 4) (ret := (some FieldType.int)) (nm := "newLength") (by decide +kernel) kw_348 rfl rfl (by simp [lg_sl, va_rf_cat, cat_i, cat_l]) ?_
  refine v_eqL (L2 := [(0, .int p0), (1, .int p1), (2, .int p2)]) (by simp [lv_args, va_rf_cat, cat_i, cat_l]) ?_
  refine v_iload_n (x := p0) dJ8_newLength_cabcc_0 rfl 0 rfl ?_
  refine v_iload_n (x := p1) dJ8_newLength_cabcc_1 rfl 1 rfl ?_
  refine v_iload_n (x := p2) dJ8_newLength_cabcc_2 rfl 2 rfl ?_
  refine v_mmax kw_349 kw_16 (by decide) (by decide) (cat_len (Nat.le_of_ble_eq_true rfl)) dJ8_newLength_cabcc_3 ?_
  refine v_iadd dJ8_newLength_cabcc_6 ?_
  obtain ⟨x1, ex1⟩ : ∃ y : Int32, y = p0 + (if p1 < p2 then p2 else p1) := ⟨_, rfl⟩
  rw [lt_e, ← ex1] at hf
  rw [← ex1]
  refine v_istore_n [(3, .int x1), (0, .int p0), (1, .int p1), (2, .int p2)] dJ8_newLength_cabcc_7 rfl (by decide) rfl ?_
  refine v_iconst (v := 0) dJ8_newLength_cabcc_8 (by decide) ?_
  refine v_iload_n (x := x1) dJ8_newLength_cabcc_9 rfl 0 rfl ?_
  refine v_icmp_ge (tgt := 21) hf dJ8_newLength_cabcc_10 (by decide) (fun hq hf => ?_) (fun hq hf => ?_)
  · refine v_sub [1, 2] (L2 := [(0, .int p0), (1, .int p1)]) rfl ?_
    exact t_J8_newLength_cabcc_b21  hf
  · refine v_iload_n (x := x1) dJ8_newLength_cabcc_13 rfl 0 rfl ?_
    refine v_ldc (v := 2147483639) kw_352 dJ8_newLength_cabcc_14 ?_
    refine v_icmp_gt (tgt := 21) hf dJ8_newLength_cabcc_16 (by decide) (fun hq hf => ?_) (fun hq hf => ?_)
    · refine v_sub [1, 2] (L2 := [(0, .int p0), (1, .int p1)]) rfl ?_
      exact t_J8_newLength_cabcc_b21  hf
    · refine v_iload_n (x := x1) dJ8_newLength_cabcc_19 rfl 0 rfl ?_
      exact v_iret hf dJ8_newLength_cabcc_20
theorem dJx4a65c_grow_92f84_0 : decode cJx4a65c_grow_92f84 0 = .ok (.aload_n 0, 1) := by decide +kernel
theorem dJx4a65c_grow_92f84_1 : decode cJx4a65c_grow_92f84 1 = .ok (.getfield 9, 3) := by decide +kernel
theorem dJx4a65c_grow_92f84_4 : decode cJx4a65c_grow_92f84 4 = .ok (.arraylength, 1) := by decide +kernel
theorem dJx4a65c_grow_92f84_5 : decode cJx4a65c_grow_92f84 5 = .ok (.istore_n 2, 1) := by decide +kernel
theorem dJx4a65c_grow_92f84_6 : decode cJx4a65c_grow_92f84 6 = .ok (.iload_n 2, 1) := by decide +kernel
theorem dJx4a65c_grow_92f84_7 : decode cJx4a65c_grow_92f84 7 = .ok (.ifCond .gt 13, 3) := by decide +kernel
theorem dJx4a65c_grow_92f84_10 : decode cJx4a65c_grow_92f84 10 = .ok (.aload_n 0, 1) := by decide +kernel
theorem dJx4a65c_grow_92f84_11 : decode cJx4a65c_grow_92f84 11 = .ok (.getfield 9, 3) := by decide +kernel
theorem dJx4a65c_grow_92f84_14 : decode cJx4a65c_grow_92f84 14 = .ok (.getstatic 39, 3) := by decide +kernel
theorem dJx4a65c_grow_92f84_17 : decode cJx4a65c_grow_92f84 17 = .ok (.if_acmp .eq 28, 3) := by decide +kernel
theorem dJx4a65c_grow_92f84_20 : decode cJx4a65c_grow_92f84 20 = .ok (.iload_n 2, 1) := by decide +kernel
theorem dJx4a65c_grow_92f84_21 : decode cJx4a65c_grow_92f84 21 = .ok (.iload_n 1, 1) := by decide +kernel
theorem dJx4a65c_grow_92f84_22 : decode cJx4a65c_grow_92f84 22 = .ok (.iload_n 2, 1) := by decide +kernel
theorem dJx4a65c_grow_92f84_23 : decode cJx4a65c_grow_92f84 23 = .ok (.isub, 1) := by decide +kernel
theorem dJx4a65c_grow_92f84_24 : decode cJx4a65c_grow_92f84 24 = .ok (.iload_n 2, 1) := by decide +kernel
theorem dJx4a65c_grow_92f84_25 : decode cJx4a65c_grow_92f84 25 = .ok (.iconst 1, 1) := by decide +kernel
theorem dJx4a65c_grow_92f84_26 : decode cJx4a65c_grow_92f84 26 = .ok (.ishr, 1) := by decide +kernel
theorem dJx4a65c_grow_92f84_27 : decode cJx4a65c_grow_92f84 27 = .ok (.invokestatic 73, 3) := by decide +kernel
theorem dJx4a65c_grow_92f84_30 : decode cJx4a65c_grow_92f84 30 = .ok (.istore_n 3, 1) := by decide +kernel
theorem dJx4a65c_grow_92f84_31 : decode cJx4a65c_grow_92f84 31 = .ok (.aload_n 0, 1) := by decide +kernel
theorem dJx4a65c_grow_92f84_32 : decode cJx4a65c_grow_92f84 32 = .ok (.aload_n 0, 1) := by decide +kernel
theorem dJx4a65c_grow_92f84_33 : decode cJx4a65c_grow_92f84 33 = .ok (.getfield 9, 3) := by decide +kernel
theorem dJx4a65c_grow_92f84_36 : decode cJx4a65c_grow_92f84 36 = .ok (.iload_n 3, 1) := by decide +kernel
theorem dJx4a65c_grow_92f84_37 : decode cJx4a65c_grow_92f84 37 = .ok (.invokestatic 66, 3) := by decide +kernel
theorem dJx4a65c_grow_92f84_40 : decode cJx4a65c_grow_92f84 40 = .ok (.dup_x1, 1) := by decide +kernel
theorem dJx4a65c_grow_92f84_41 : decode cJx4a65c_grow_92f84 41 = .ok (.putfield 9, 3) := by decide +kernel
theorem dJx4a65c_grow_92f84_44 : decode cJx4a65c_grow_92f84 44 = .ok (.areturn, 1) := by decide +kernel
theorem dJx4a65c_grow_92f84_45 : decode cJx4a65c_grow_92f84 45 = .ok (.aload_n 0, 1) := by decide +kernel
theorem dJx4a65c_grow_92f84_46 : decode cJx4a65c_grow_92f84 46 = .ok (.bipush 10, 2) := by decide +kernel
theorem dJx4a65c_grow_92f84_48 : decode cJx4a65c_grow_92f84 48 = .ok (.iload_n 1, 1) := by decide +kernel
theorem dJx4a65c_grow_92f84_49 : decode cJx4a65c_grow_92f84 49 = .ok (.invokestatic 79, 3) := by decide +kernel
theorem dJx4a65c_grow_92f84_52 : decode cJx4a65c_grow_92f84 52 = .ok (.anewarray 7, 3) := by decide +kernel
theorem dJx4a65c_grow_92f84_55 : decode cJx4a65c_grow_92f84 55 = .ok (.dup_x1, 1) := by decide +kernel
theorem dJx4a65c_grow_92f84_56 : decode cJx4a65c_grow_92f84 56 = .ok (.putfield 9, 3) := by decide +kernel
theorem dJx4a65c_grow_92f84_59 : decode cJx4a65c_grow_92f84 59 = .ok (.areturn, 1) := by decide +kernel
def f_Jx4a65c_grow_92f84_b20 (ka : Nat → Nat) (σ : TH) (l0 : Nat) (l1 : Int32) (l2 : Int32) : Option (Option Nat × TH) :=
  bd_ (f_J8_newLength_cabcc σ l2 (l1 - l2) (l2 >>> ((1 : Int32) &&& 31))) fun x4 s5 => gt_ (kd_ s5 l0 = 1) <| lt_ (fr_ s5 1 l0) fun r6 => bd_ (f_J7_copyOf_1904c ka s5 r6 x4) fun r7 s8 => lt_ (sr_ s8 1 l0 r7) fun s9 => some (r7, s9)
set_option maxHeartbeats 4000000 in
set_option maxRecDepth 100000 in
theorem t_Jx4a65c_grow_92f84_b20 {l : Launch} {D : va_G} {cy : Nat → ClassId} {ka : Nat → Nat} {σ0 z : TH} {r : Option Nat}  {σ : TH} {l0 : Nat} {l1 : Int32} {l2 : Int32} (hf : f_Jx4a65c_grow_92f84_b20 ka σ l0 l1 l2 = some (r, z)) : v_ l D cy ka cJx4a65c_grow_92f84 RJx4a65c 4 (some (FieldType.array (FieldType.object "java/lang/Object"))) "grow" 3 104 (qf_ D cy σ0 z (some (va_rf r))) σ0 z σ 20 [(0, va_rf (some l0)), (1, .int l1), (2, .int l2)] [] := by
  unfold f_Jx4a65c_grow_92f84_b20 at hf
  refine v_iload_n (x := l2) dJx4a65c_grow_92f84_20 rfl 2 rfl ?_
  refine v_iload_n (x := l1) dJx4a65c_grow_92f84_21 rfl 1 rfl ?_
  refine v_iload_n (x := l2) dJx4a65c_grow_92f84_22 rfl 2 rfl ?_
  refine v_isub dJx4a65c_grow_92f84_23 ?_
  refine v_iload_n (x := l2) dJx4a65c_grow_92f84_24 rfl 2 rfl ?_
  refine v_iconst (v := 1) dJx4a65c_grow_92f84_25 (by decide) ?_
  refine v_ishr dJx4a65c_grow_92f84_26 ?_
  obtain ⟨x4, s5, hcs5, hf⟩ := bd_of hf
  have hts5 := c_J8_newLength_cabcc (l := l) (D := D) (cy := cy) (ka := ka) hcs5
  refine v_callS (As := [.int l2, .int (l1 - l2), .int (l2 >>> ((1 : Int32) &&& 31))]) (rest := []) hts5 yb_J8_newLength_cabcc kw_346 kw_347 rfl ⟨Nat.le_of_ble_eq_true rfl, Nat.le_of_ble_eq_true rfl⟩ rfl (cat_len (Nat.le_of_ble_eq_true rfl)) dJx4a65c_grow_92f84_27 ?_
  show v_ l D cy ka cJx4a65c_grow_92f84 RJx4a65c 4 (some (FieldType.array (FieldType.object "java/lang/Object"))) "grow" 3 104 (qf_ D cy σ0 z (some (va_rf r))) σ0 z _ 30 [(0, va_rf (some l0)), (1, .int l1), (2, .int l2)] [.int x4]
  refine v_istore_n [(3, .int x4), (0, va_rf (some l0)), (1, .int l1), (2, .int l2)] dJx4a65c_grow_92f84_30 rfl (by decide) rfl ?_
  refine v_aload_n (x := (some l0)) dJx4a65c_grow_92f84_31 rfl 1 rfl ?_
  refine v_aload_n (x := (some l0)) dJx4a65c_grow_92f84_32 rfl 1 rfl ?_
  obtain ⟨hk_l0, hf⟩ := gt_of hf
  refine v_getr cb_0 hk_l0 1 1 rfl (by decide) rfl (lk_n kw_56 rfl) hf dJx4a65c_grow_92f84_33 (fun r6 hf => ?_)
  refine v_iload_n (x := x4) dJx4a65c_grow_92f84_36 rfl 0 rfl ?_
  obtain ⟨r7, s8, hcs8, hf⟩ := bd_of hf
  have hts8 := c_J7_copyOf_1904c (l := l) (D := D) (cy := cy) (ka := ka) hcs8
  refine v_callS (As := [va_rf r6, .int x4]) (rest := [va_rf (some l0)]) hts8 yb_J7_copyOf_1904c kw_356 kw_357 rfl ⟨Nat.le_of_ble_eq_true rfl, Nat.le_of_ble_eq_true rfl⟩ rfl (cat_len (Nat.le_of_ble_eq_true rfl)) dJx4a65c_grow_92f84_37 ?_
  have hk_l0 := tk_ hts8.1 hk_l0
  show v_ l D cy ka cJx4a65c_grow_92f84 RJx4a65c 4 (some (FieldType.array (FieldType.object "java/lang/Object"))) "grow" 3 104 (qf_ D cy σ0 z (some (va_rf r))) σ0 z _ 40 [(3, .int x4), (0, va_rf (some l0)), (1, .int l1), (2, .int l2)] [va_rf r7, va_rf (some l0)]
  refine v_dup_x1 dJx4a65c_grow_92f84_40 (va_rf_cat _) (va_rf_cat _) ?_
  refine v_putr2 cb_0 hk_l0 1 1 rfl (by decide) rfl (lk_n kw_56 rfl) (Or.inl rfl) (nr_ _ (Or.inr ⟨_, rfl⟩)) (fr9_ _ (Or.inr ⟨_, rfl⟩)) hf dJx4a65c_grow_92f84_41 (fun s9 hts9 hf => ?_)
  have hk_l0 := tk_ hts9 hk_l0
  exact v_aret (x := r7) hf (Or.inr ⟨_, rfl⟩) dJx4a65c_grow_92f84_44
/-- java/util/ArrayList.grow(I)[Ljava/lang/Object; -/
def f_Jx4a65c_grow_92f84 (ka : Nat → Nat) (σ : TH) (p0 : Nat) (p1 : Int32) : Option (Option Nat × TH) :=
  gt_ (kd_ σ p0 = 1) <| lt_ (fr_ σ 1 p0) fun r1 => nn_ r1 fun a2 => gt_ (kd_ σ a2 = 24 ∨ a2 = ka 200) <| lt_ (if kd_ σ a2 = 24 then Int32.ofNat (ln_ σ a2) else 0) fun x3 => if 0 < x3 then (f_Jx4a65c_grow_92f84_b20 ka σ p0 p1 x3) else (lt_ (fr_ σ 1 p0) fun r10 => if r10 = (some (ka 200)) then (gt_ (¬ (if (10 : Int32) < p1 then p1 else (10 : Int32)) < 0 ∧ (if (10 : Int32) < p1 then p1 else (10 : Int32) : Int32).toNatClampNeg ≤ 100000 ∧ kd_ σ (nx_ σ) = 0) <| lt_ (nx_ σ) fun a11 => lt_ (nw_ σ 24 ((if (10 : Int32) < p1 then p1 else (10 : Int32) : Int32).toNatClampNeg) ((if (10 : Int32) < p1 then p1 else (10 : Int32) : Int32).toNatClampNeg)) fun s12 => lt_ (sr_ s12 1 p0 ((some a11))) fun s13 => some ((some a11), s13)) else (f_Jx4a65c_grow_92f84_b20 ka σ p0 p1 x3))
set_option maxHeartbeats 4000000 in
set_option maxRecDepth 100000 in
theorem c_Jx4a65c_grow_92f84 {l : Launch} {D : va_G} {cy : Nat → ClassId} {ka : Nat → Nat} {σ z : TH} {p0 : Nat} {p1 : Int32} {r : Option Nat} (hf : f_Jx4a65c_grow_92f84 ka σ p0 p1 = some (r, z)) : ct_ l D cy ka yJx4a65c_grow_92f84 3 104 [va_rf (some p0), .int p1] σ (some (va_rf r)) z := by
  unfold f_Jx4a65c_grow_92f84 at hf
  refine v_start (cc := cJx4a65c_grow_92f84) (own := RJx4a65c) (maxL := 4) (ret := (some (FieldType.array (FieldType.object "java/lang/Object")))) (nm := "grow") (by decide +kernel) kw_345 rfl rfl (by simp [lg_sl, va_rf_cat, cat_i, cat_l]) ?_
  refine v_eqL (L2 := [(0, va_rf (some p0)), (1, .int p1)]) (by simp [lv_args, va_rf_cat, cat_i, cat_l]) ?_
  refine v_aload_n (x := (some p0)) dJx4a65c_grow_92f84_0 rfl 0 rfl ?_
  obtain ⟨hk_p0, hf⟩ := gt_of hf
  refine v_getr cb_0 hk_p0 1 1 rfl (by decide) rfl (lk_n kw_56 rfl) hf dJx4a65c_grow_92f84_1 (fun r1 hf => ?_)
  obtain ⟨a2, rfl, hf⟩ := nn_of hf
  refine v_alenE hf dJx4a65c_grow_92f84_4 (fun x3 hf => ?_)
  refine v_istore_n [(2, .int x3), (0, va_rf (some p0)), (1, .int p1)] dJx4a65c_grow_92f84_5 rfl (by decide) rfl ?_
  refine v_iload_n (x := x3) dJx4a65c_grow_92f84_6 rfl 0 rfl ?_
  refine v_if_gt (tgt := 20) hf dJx4a65c_grow_92f84_7 (by decide) (fun hq hf => ?_) (fun hq hf => ?_)
  · refine v_sub [1, 2, 0] (L2 := [(0, va_rf (some p0)), (1, .int p1), (2, .int x3)]) rfl ?_
    exact t_Jx4a65c_grow_92f84_b20  hf
  · refine v_aload_n (x := (some p0)) dJx4a65c_grow_92f84_10 rfl 1 rfl ?_
    refine v_getr cb_0 hk_p0 1 1 rfl (by decide) rfl (lk_n kw_56 rfl) hf dJx4a65c_grow_92f84_11 (fun r10 hf => ?_)
    refine v_getsE kw_54 dJx4a65c_grow_92f84_14 ?_
    refine v_acmp_eq (tgt := 45) hf dJx4a65c_grow_92f84_17 (by decide) (fun hq hf => ?_) (fun hq hf => ?_)
    · refine v_aload_n (x := (some p0)) dJx4a65c_grow_92f84_45 rfl 1 rfl ?_
      refine v_bipush (v := 10) dJx4a65c_grow_92f84_46 (by decide) ?_
      refine v_iload_n (x := p1) dJx4a65c_grow_92f84_48 rfl 2 rfl ?_
      refine v_mmax kw_393 kw_16 (by decide) (by decide) (cat_len (Nat.le_of_ble_eq_true rfl)) dJx4a65c_grow_92f84_49 ?_
      refine v_anew2 24 4 "java/lang/Object" rfl (by decide) kw_394 (by decide) hf dJx4a65c_grow_92f84_52 (fun a11 s12 hts12 hk_a11 hf => ?_)
      have hk_p0 := tk_ hts12 hk_p0
      refine v_dup_x1 dJx4a65c_grow_92f84_55 (va_rf_cat _) (va_rf_cat _) ?_
      refine v_putr2 cb_0 hk_p0 1 1 rfl (by decide) rfl (lk_n kw_56 rfl) (Or.inl rfl) (nr_ _ (Or.inr ⟨_, rfl⟩)) (fr9_ _ (Or.inr ⟨_, rfl⟩)) hf dJx4a65c_grow_92f84_56 (fun s13 hts13 hf => ?_)
      have hk_p0 := tk_ hts13 hk_p0
      have hk_a11 := tk_ hts13 hk_a11
      exact v_aret (x := (some a11)) hf (Or.inr ⟨_, rfl⟩) dJx4a65c_grow_92f84_59
    · refine v_sub [1, 2, 0] (L2 := [(0, va_rf (some p0)), (1, .int p1), (2, .int x3)]) rfl ?_
      exact t_Jx4a65c_grow_92f84_b20  hf
theorem dJx4a65c_grow_d5877_0 : decode cJx4a65c_grow_d5877 0 = .ok (.aload_n 0, 1) := by decide +kernel
theorem dJx4a65c_grow_d5877_1 : decode cJx4a65c_grow_d5877 1 = .ok (.aload_n 0, 1) := by decide +kernel
theorem dJx4a65c_grow_d5877_2 : decode cJx4a65c_grow_d5877 2 = .ok (.getfield 48, 3) := by decide +kernel
theorem dJx4a65c_grow_d5877_5 : decode cJx4a65c_grow_d5877 5 = .ok (.iconst 1, 1) := by decide +kernel
theorem dJx4a65c_grow_d5877_6 : decode cJx4a65c_grow_d5877 6 = .ok (.iadd, 1) := by decide +kernel
theorem dJx4a65c_grow_d5877_7 : decode cJx4a65c_grow_d5877 7 = .ok (.invokevirtual 69, 3) := by decide +kernel
theorem dJx4a65c_grow_d5877_10 : decode cJx4a65c_grow_d5877 10 = .ok (.areturn, 1) := by decide +kernel
/-- java/util/ArrayList.grow()[Ljava/lang/Object; -/
def f_Jx4a65c_grow_d5877 (ka : Nat → Nat) (σ : TH) (p0 : Nat) : Option (Option Nat × TH) :=
  gt_ (kd_ σ p0 = 1) <| lt_ (fi_ σ 2 p0) fun x1 => bd_ (f_Jx4a65c_grow_92f84 ka σ p0 (x1 + (1 : Int32))) fun r2 s3 => some (r2, s3)
set_option maxHeartbeats 4000000 in
set_option maxRecDepth 100000 in
theorem c_Jx4a65c_grow_d5877 {l : Launch} {D : va_G} {cy : Nat → ClassId} {ka : Nat → Nat} {σ z : TH} {p0 : Nat} {r : Option Nat} (hf : f_Jx4a65c_grow_d5877 ka σ p0 = some (r, z)) : ct_ l D cy ka yJx4a65c_grow_d5877 4 127 [va_rf (some p0)] σ (some (va_rf r)) z := by
  unfold f_Jx4a65c_grow_d5877 at hf
  refine v_start (cc := cJx4a65c_grow_d5877) (own := RJx4a65c) (maxL := 1) (ret := (some (FieldType.array (FieldType.object "java/lang/Object")))) (nm := "grow") (by decide +kernel) kw_341 rfl rfl (by simp [lg_sl, va_rf_cat, cat_i, cat_l]) ?_
  refine v_eqL (L2 := [(0, va_rf (some p0))]) (by simp [lv_args, va_rf_cat, cat_i, cat_l]) ?_
  refine v_aload_n (x := (some p0)) dJx4a65c_grow_d5877_0 rfl 0 rfl ?_
  refine v_aload_n (x := (some p0)) dJx4a65c_grow_d5877_1 rfl 0 rfl ?_
  obtain ⟨hk_p0, hf⟩ := gt_of hf
  refine v_geti cb_0 hk_p0 2 2 rfl (by decide) rfl (lk_n kw_57 rfl) hf dJx4a65c_grow_d5877_2 (fun x1 hf => ?_)
  refine v_iconst (v := 1) dJx4a65c_grow_d5877_5 (by decide) ?_
  refine v_iadd dJx4a65c_grow_d5877_6 ?_
  obtain ⟨r2, s3, hcs3, hf⟩ := bd_of hf
  have hts3 := c_Jx4a65c_grow_92f84 (l := l) (D := D) (cy := cy) (ka := ka) hcs3
  refine v_callV cb_0 hk_p0 (As := [.int (x1 + (1 : Int32))]) (rest := []) hts3 yb_Jx4a65c_grow_92f84 kw_342 kw_344 kp_3 rfl ⟨Nat.le_of_ble_eq_true rfl, Nat.le_of_ble_eq_true rfl⟩ rfl (cat_len (Nat.le_of_ble_eq_true rfl)) dJx4a65c_grow_d5877_7 ?_
  have hk_p0 := tk_ hts3.1 hk_p0
  show v_ l D cy ka cJx4a65c_grow_d5877 RJx4a65c 1 (some (FieldType.array (FieldType.object "java/lang/Object"))) "grow" 4 127 (qf_ D cy σ z (some (va_rf r))) σ z _ 10 [(0, va_rf (some p0))] [va_rf r2]
  exact v_aret (x := r2) hf (Or.inr ⟨_, rfl⟩) dJx4a65c_grow_d5877_10
theorem dJx4a65c_add_72be8_0 : decode cJx4a65c_add_72be8 0 = .ok (.iload_n 3, 1) := by decide +kernel
theorem dJx4a65c_add_72be8_1 : decode cJx4a65c_add_72be8 1 = .ok (.aload_n 2, 1) := by decide +kernel
theorem dJx4a65c_add_72be8_2 : decode cJx4a65c_add_72be8 2 = .ok (.arraylength, 1) := by decide +kernel
theorem dJx4a65c_add_72be8_3 : decode cJx4a65c_add_72be8 3 = .ok (.if_icmp .ne 8, 3) := by decide +kernel
theorem dJx4a65c_add_72be8_6 : decode cJx4a65c_add_72be8 6 = .ok (.aload_n 0, 1) := by decide +kernel
theorem dJx4a65c_add_72be8_7 : decode cJx4a65c_add_72be8 7 = .ok (.invokevirtual 129, 3) := by decide +kernel
theorem dJx4a65c_add_72be8_10 : decode cJx4a65c_add_72be8 10 = .ok (.astore_n 2, 1) := by decide +kernel
theorem dJx4a65c_add_72be8_11 : decode cJx4a65c_add_72be8 11 = .ok (.aload_n 2, 1) := by decide +kernel
theorem dJx4a65c_add_72be8_12 : decode cJx4a65c_add_72be8 12 = .ok (.iload_n 3, 1) := by decide +kernel
theorem dJx4a65c_add_72be8_13 : decode cJx4a65c_add_72be8 13 = .ok (.aload_n 1, 1) := by decide +kernel
theorem dJx4a65c_add_72be8_14 : decode cJx4a65c_add_72be8 14 = .ok (.aastore, 1) := by decide +kernel
theorem dJx4a65c_add_72be8_15 : decode cJx4a65c_add_72be8 15 = .ok (.aload_n 0, 1) := by decide +kernel
theorem dJx4a65c_add_72be8_16 : decode cJx4a65c_add_72be8 16 = .ok (.iload_n 3, 1) := by decide +kernel
theorem dJx4a65c_add_72be8_17 : decode cJx4a65c_add_72be8 17 = .ok (.iconst 1, 1) := by decide +kernel
theorem dJx4a65c_add_72be8_18 : decode cJx4a65c_add_72be8 18 = .ok (.iadd, 1) := by decide +kernel
theorem dJx4a65c_add_72be8_19 : decode cJx4a65c_add_72be8 19 = .ok (.putfield 48, 3) := by decide +kernel
theorem dJx4a65c_add_72be8_22 : decode cJx4a65c_add_72be8 22 = .ok (.return_, 1) := by decide +kernel
def f_Jx4a65c_add_72be8_b11 (ka : Nat → Nat) (σ : TH) (l0 : Nat) (l1 : Option Nat) (l2 : Option Nat) (l3 : Int32) : Option (Unit × TH) :=
  nn_ l2 fun a5 => gt_ (kd_ σ a5 = 24) <| nn_ l1 fun a6 => gt_ (0 < kd_ σ a6 ∧ kd_ σ a6 < 18) <| gt_ (¬ (l3 < 0 ∨ ln_ σ a5 ≤ l3.toNatClampNeg)) <| lt_ (sq_ σ a5 l3.toNatClampNeg (some a6)) fun s7 => gt_ (kd_ s7 l0 = 1) <| lt_ (si_ s7 2 l0 (l3 + (1 : Int32))) fun s8 => some ((), s8)
set_option maxHeartbeats 4000000 in
set_option maxRecDepth 100000 in
theorem t_Jx4a65c_add_72be8_b11 {l : Launch} {D : va_G} {cy : Nat → ClassId} {ka : Nat → Nat} {σ0 z : TH} {r : Unit}  {σ : TH} {l0 : Nat} {l1 : Option Nat} {l2 : Option Nat} {l3 : Int32} (hf : f_Jx4a65c_add_72be8_b11 ka σ l0 l1 l2 l3 = some (r, z)) : v_ l D cy ka cJx4a65c_add_72be8 RJx4a65c 4 none "add" 5 147 (qf_ D cy σ0 z none) σ0 z σ 11 [(0, va_rf (some l0)), (1, va_rf l1), (2, va_rf l2), (3, .int l3)] [] := by
  unfold f_Jx4a65c_add_72be8_b11 at hf
  refine v_aload_n (x := l2) dJx4a65c_add_72be8_11 rfl 2 rfl ?_
  refine v_iload_n (x := l3) dJx4a65c_add_72be8_12 rfl 3 rfl ?_
  refine v_aload_n (x := l1) dJx4a65c_add_72be8_13 rfl 1 rfl ?_
  obtain ⟨a5, rfl, hf⟩ := nn_of hf
  obtain ⟨hk_a5, hf⟩ := gt_of hf
  obtain ⟨a6, rfl, hf⟩ := nn_of hf
  refine v_aastO hk_a5 hf dJx4a65c_add_72be8_14 (fun s7 hts7 hf => ?_)
  have hk_a5 := tk_ hts7 hk_a5
  refine v_aload_n (x := (some l0)) dJx4a65c_add_72be8_15 rfl 0 rfl ?_
  refine v_iload_n (x := l3) dJx4a65c_add_72be8_16 rfl 3 rfl ?_
  refine v_iconst (v := 1) dJx4a65c_add_72be8_17 (by decide) ?_
  refine v_iadd dJx4a65c_add_72be8_18 ?_
  obtain ⟨hk_l0, hf⟩ := gt_of hf
  refine v_puti2 cb_0 hk_l0 2 2 rfl (by decide) rfl (lk_n kw_57 rfl) (Or.inl rfl) rfl rfl hf dJx4a65c_add_72be8_19 (fun s8 hts8 hf => ?_)
  have hk_a5 := tk_ hts8 hk_a5
  have hk_l0 := tk_ hts8 hk_l0
  exact v_vret hf dJx4a65c_add_72be8_22
/-- java/util/ArrayList.add(Ljava/lang/Object;[Ljava/lang/Object;I)V -/
def f_Jx4a65c_add_72be8 (ka : Nat → Nat) (σ : TH) (p0 : Nat) (p1 : Option Nat) (p2 : Option Nat) (p3 : Int32) : Option (Unit × TH) :=
  nn_ p2 fun a1 => gt_ (kd_ σ a1 = 24 ∨ a1 = ka 200) <| lt_ (if kd_ σ a1 = 24 then Int32.ofNat (ln_ σ a1) else 0) fun x2 => if p3 = x2 then (gt_ (kd_ σ p0 = 1) <| bd_ (f_Jx4a65c_grow_d5877 ka σ p0) fun r3 s4 => f_Jx4a65c_add_72be8_b11 ka s4 p0 p1 r3 p3) else (f_Jx4a65c_add_72be8_b11 ka σ p0 p1 (some a1) p3)
set_option maxHeartbeats 4000000 in
set_option maxRecDepth 100000 in
theorem c_Jx4a65c_add_72be8 {l : Launch} {D : va_G} {cy : Nat → ClassId} {ka : Nat → Nat} {σ z : TH} {p0 : Nat} {p1 : Option Nat} {p2 : Option Nat} {p3 : Int32} {r : Unit} (hf : f_Jx4a65c_add_72be8 ka σ p0 p1 p2 p3 = some (r, z)) : ct_ l D cy ka yJx4a65c_add_72be8 5 147 [va_rf (some p0), va_rf p1, va_rf p2, .int p3] σ none z := by
  unfold f_Jx4a65c_add_72be8 at hf
  refine v_start (cc := cJx4a65c_add_72be8) (own := RJx4a65c) (maxL := 4) (ret := none) (nm := "add") (by decide +kernel) kw_337 rfl rfl (by simp [lg_sl, va_rf_cat, cat_i, cat_l]) ?_
  refine v_eqL (L2 := [(0, va_rf (some p0)), (1, va_rf p1), (2, va_rf p2), (3, .int p3)]) (by simp [lv_args, va_rf_cat, cat_i, cat_l]) ?_
  refine v_iload_n (x := p3) dJx4a65c_add_72be8_0 rfl 3 rfl ?_
  refine v_aload_n (x := p2) dJx4a65c_add_72be8_1 rfl 2 rfl ?_
  obtain ⟨a1, rfl, hf⟩ := nn_of hf
  refine v_alenE hf dJx4a65c_add_72be8_2 (fun x2 hf => ?_)
  refine v_icmp_ne (tgt := 11) hf dJx4a65c_add_72be8_3 (by decide) (fun hq hf => ?_) (fun hq hf => ?_)
  · refine v_aload_n (x := (some p0)) dJx4a65c_add_72be8_6 rfl 0 rfl ?_
    obtain ⟨hk_p0, hf⟩ := gt_of hf
    obtain ⟨r3, s4, hcs4, hf⟩ := bd_of hf
    have hts4 := c_Jx4a65c_grow_d5877 (l := l) (D := D) (cy := cy) (ka := ka) hcs4
    refine v_callV cb_0 hk_p0 (As := []) (rest := []) hts4 yb_Jx4a65c_grow_d5877 kw_338 kw_340 kp_2 rfl ⟨Nat.le_of_ble_eq_true rfl, Nat.le_of_ble_eq_true rfl⟩ rfl (cat_len (Nat.le_of_ble_eq_true rfl)) dJx4a65c_add_72be8_7 ?_
    have hk_p0 := tk_ hts4.1 hk_p0
    show v_ l D cy ka cJx4a65c_add_72be8 RJx4a65c 4 none "add" 5 147 (qf_ D cy σ z none) σ z _ 10 [(0, va_rf (some p0)), (1, va_rf p1), (2, va_rf (some a1)), (3, .int p3)] [va_rf r3]
    refine v_astore_n [(2, va_rf r3), (0, va_rf (some p0)), (1, va_rf p1), (3, .int p3)] dJx4a65c_add_72be8_10 rfl (by decide) (by simp [va_rf_cat, cat_i, cat_l]) ?_
    refine v_sub [1, 2, 0, 3] (L2 := [(0, va_rf (some p0)), (1, va_rf p1), (2, va_rf r3), (3, .int p3)]) rfl ?_
    exact t_Jx4a65c_add_72be8_b11  hf
  · refine v_sub [0, 1, 2, 3] (L2 := [(0, va_rf (some p0)), (1, va_rf p1), (2, va_rf (some a1)), (3, .int p3)]) rfl ?_
    exact t_Jx4a65c_add_72be8_b11  hf
theorem dJx4a65c_add_9ea2d_0 : decode cJx4a65c_add_9ea2d 0 = .ok (.aload_n 0, 1) := by decide +kernel
theorem dJx4a65c_add_9ea2d_1 : decode cJx4a65c_add_9ea2d 1 = .ok (.dup, 1) := by decide +kernel
theorem dJx4a65c_add_9ea2d_2 : decode cJx4a65c_add_9ea2d 2 = .ok (.getfield 63, 3) := by decide +kernel
theorem dJx4a65c_add_9ea2d_5 : decode cJx4a65c_add_9ea2d 5 = .ok (.iconst 1, 1) := by decide +kernel
theorem dJx4a65c_add_9ea2d_6 : decode cJx4a65c_add_9ea2d 6 = .ok (.iadd, 1) := by decide +kernel
theorem dJx4a65c_add_9ea2d_7 : decode cJx4a65c_add_9ea2d 7 = .ok (.putfield 63, 3) := by decide +kernel
theorem dJx4a65c_add_9ea2d_10 : decode cJx4a65c_add_9ea2d 10 = .ok (.aload_n 0, 1) := by decide +kernel
theorem dJx4a65c_add_9ea2d_11 : decode cJx4a65c_add_9ea2d 11 = .ok (.aload_n 1, 1) := by decide +kernel
theorem dJx4a65c_add_9ea2d_12 : decode cJx4a65c_add_9ea2d 12 = .ok (.aload_n 0, 1) := by decide +kernel
theorem dJx4a65c_add_9ea2d_13 : decode cJx4a65c_add_9ea2d 13 = .ok (.getfield 9, 3) := by decide +kernel
theorem dJx4a65c_add_9ea2d_16 : decode cJx4a65c_add_9ea2d 16 = .ok (.aload_n 0, 1) := by decide +kernel
theorem dJx4a65c_add_9ea2d_17 : decode cJx4a65c_add_9ea2d 17 = .ok (.getfield 48, 3) := by decide +kernel
theorem dJx4a65c_add_9ea2d_20 : decode cJx4a65c_add_9ea2d 20 = .ok (.invokevirtual 131, 3) := by decide +kernel
theorem dJx4a65c_add_9ea2d_23 : decode cJx4a65c_add_9ea2d 23 = .ok (.iconst 1, 1) := by decide +kernel
theorem dJx4a65c_add_9ea2d_24 : decode cJx4a65c_add_9ea2d 24 = .ok (.ireturn, 1) := by decide +kernel
/-- java/util/ArrayList.add(Ljava/lang/Object;)Z -/
def f_Jx4a65c_add_9ea2d (ka : Nat → Nat) (σ : TH) (p0 : Nat) (p1 : Option Nat) : Option (Int32 × TH) :=
  gt_ (kd_ σ p0 = 1) <| lt_ (fi_ σ 0 p0) fun x1 => lt_ (si_ σ 0 p0 (x1 + (1 : Int32))) fun s2 => lt_ (fr_ s2 1 p0) fun r3 => lt_ (fi_ s2 2 p0) fun x4 => bd_ (f_Jx4a65c_add_72be8 ka s2 p0 p1 r3 x4) fun x5 s6 => some ((1 : Int32), s6)
set_option maxHeartbeats 4000000 in
set_option maxRecDepth 100000 in
theorem c_Jx4a65c_add_9ea2d {l : Launch} {D : va_G} {cy : Nat → ClassId} {ka : Nat → Nat} {σ z : TH} {p0 : Nat} {p1 : Option Nat} {r : Int32} (hf : f_Jx4a65c_add_9ea2d ka σ p0 p1 = some (r, z)) : ct_ l D cy ka yJx4a65c_add_9ea2d 6 170 [va_rf (some p0), va_rf p1] σ (some (.int r)) z := by
  unfold f_Jx4a65c_add_9ea2d at hf
  refine v_start (cc := cJx4a65c_add_9ea2d) (own := RJx4a65c) (maxL := 2) (ret := (some FieldType.boolean)) (nm := "add") (by decide +kernel) kw_333 rfl rfl (by simp [lg_sl, va_rf_cat, cat_i, cat_l]) ?_
  refine v_eqL (L2 := [(0, va_rf (some p0)), (1, va_rf p1)]) (by simp [lv_args, va_rf_cat, cat_i, cat_l]) ?_
  refine v_aload_n (x := (some p0)) dJx4a65c_add_9ea2d_0 rfl 0 rfl ?_
  refine v_dup dJx4a65c_add_9ea2d_1 (va_rf_cat _) ?_
  obtain ⟨hk_p0, hf⟩ := gt_of hf
  refine v_geti cb_0 hk_p0 0 0 rfl (by decide) rfl (lk_h kw_59 kw_same) hf dJx4a65c_add_9ea2d_2 (fun x1 hf => ?_)
  refine v_iconst (v := 1) dJx4a65c_add_9ea2d_5 (by decide) ?_
  refine v_iadd dJx4a65c_add_9ea2d_6 ?_
  refine v_puti2 cb_0 hk_p0 0 0 rfl (by decide) rfl (lk_h kw_59 kw_same) (Or.inl rfl) rfl rfl hf dJx4a65c_add_9ea2d_7 (fun s2 hts2 hf => ?_)
  have hk_p0 := tk_ hts2 hk_p0
  refine v_aload_n (x := (some p0)) dJx4a65c_add_9ea2d_10 rfl 0 rfl ?_
  refine v_aload_n (x := p1) dJx4a65c_add_9ea2d_11 rfl 1 rfl ?_
  refine v_aload_n (x := (some p0)) dJx4a65c_add_9ea2d_12 rfl 0 rfl ?_
  refine v_getr cb_0 hk_p0 1 1 rfl (by decide) rfl (lk_n kw_56 rfl) hf dJx4a65c_add_9ea2d_13 (fun r3 hf => ?_)
  refine v_aload_n (x := (some p0)) dJx4a65c_add_9ea2d_16 rfl 0 rfl ?_
  refine v_geti cb_0 hk_p0 2 2 rfl (by decide) rfl (lk_n kw_57 rfl) hf dJx4a65c_add_9ea2d_17 (fun x4 hf => ?_)
  obtain ⟨x5, s6, hcs6, hf⟩ := bd_of hf
  have hts6 := c_Jx4a65c_add_72be8 (l := l) (D := D) (cy := cy) (ka := ka) hcs6
  refine v_callV cb_0 hk_p0 (As := [va_rf p1, va_rf r3, .int x4]) (rest := []) hts6 yb_Jx4a65c_add_72be8 kw_334 kw_336 kp_1 rfl ⟨Nat.le_of_ble_eq_true rfl, Nat.le_of_ble_eq_true rfl⟩ rfl (cat_len (Nat.le_of_ble_eq_true rfl)) dJx4a65c_add_9ea2d_20 ?_
  have hk_p0 := tk_ hts6.1 hk_p0
  show v_ l D cy ka cJx4a65c_add_9ea2d RJx4a65c 2 (some FieldType.boolean) "add" 6 170 (qf_ D cy σ z (some (.int r))) σ z _ 23 [(0, va_rf (some p0)), (1, va_rf p1)] []
  refine v_iconst (v := 1) dJx4a65c_add_9ea2d_23 (by decide) ?_
  exact v_zret hf rfl dJx4a65c_add_9ea2d_24
theorem dJx4a65c_fastRemove_b59b0_0 : decode cJx4a65c_fastRemove_b59b0 0 = .ok (.aload_n 0, 1) := by decide +kernel
theorem dJx4a65c_fastRemove_b59b0_1 : decode cJx4a65c_fastRemove_b59b0 1 = .ok (.dup, 1) := by decide +kernel
theorem dJx4a65c_fastRemove_b59b0_2 : decode cJx4a65c_fastRemove_b59b0 2 = .ok (.getfield 63, 3) := by decide +kernel
theorem dJx4a65c_fastRemove_b59b0_5 : decode cJx4a65c_fastRemove_b59b0 5 = .ok (.iconst 1, 1) := by decide +kernel
theorem dJx4a65c_fastRemove_b59b0_6 : decode cJx4a65c_fastRemove_b59b0 6 = .ok (.iadd, 1) := by decide +kernel
theorem dJx4a65c_fastRemove_b59b0_7 : decode cJx4a65c_fastRemove_b59b0 7 = .ok (.putfield 63, 3) := by decide +kernel
theorem dJx4a65c_fastRemove_b59b0_10 : decode cJx4a65c_fastRemove_b59b0 10 = .ok (.aload_n 0, 1) := by decide +kernel
theorem dJx4a65c_fastRemove_b59b0_11 : decode cJx4a65c_fastRemove_b59b0 11 = .ok (.getfield 48, 3) := by decide +kernel
theorem dJx4a65c_fastRemove_b59b0_14 : decode cJx4a65c_fastRemove_b59b0 14 = .ok (.iconst 1, 1) := by decide +kernel
theorem dJx4a65c_fastRemove_b59b0_15 : decode cJx4a65c_fastRemove_b59b0 15 = .ok (.isub, 1) := by decide +kernel
theorem dJx4a65c_fastRemove_b59b0_16 : decode cJx4a65c_fastRemove_b59b0 16 = .ok (.dup, 1) := by decide +kernel
theorem dJx4a65c_fastRemove_b59b0_17 : decode cJx4a65c_fastRemove_b59b0 17 = .ok (.istore_n 3, 1) := by decide +kernel
theorem dJx4a65c_fastRemove_b59b0_18 : decode cJx4a65c_fastRemove_b59b0 18 = .ok (.iload_n 2, 1) := by decide +kernel
theorem dJx4a65c_fastRemove_b59b0_19 : decode cJx4a65c_fastRemove_b59b0 19 = .ok (.if_icmp .le 15, 3) := by decide +kernel
theorem dJx4a65c_fastRemove_b59b0_22 : decode cJx4a65c_fastRemove_b59b0 22 = .ok (.aload_n 1, 1) := by decide +kernel
theorem dJx4a65c_fastRemove_b59b0_23 : decode cJx4a65c_fastRemove_b59b0 23 = .ok (.iload_n 2, 1) := by decide +kernel
theorem dJx4a65c_fastRemove_b59b0_24 : decode cJx4a65c_fastRemove_b59b0 24 = .ok (.iconst 1, 1) := by decide +kernel
theorem dJx4a65c_fastRemove_b59b0_25 : decode cJx4a65c_fastRemove_b59b0 25 = .ok (.iadd, 1) := by decide +kernel
theorem dJx4a65c_fastRemove_b59b0_26 : decode cJx4a65c_fastRemove_b59b0 26 = .ok (.aload_n 1, 1) := by decide +kernel
theorem dJx4a65c_fastRemove_b59b0_27 : decode cJx4a65c_fastRemove_b59b0 27 = .ok (.iload_n 2, 1) := by decide +kernel
theorem dJx4a65c_fastRemove_b59b0_28 : decode cJx4a65c_fastRemove_b59b0 28 = .ok (.iload_n 3, 1) := by decide +kernel
theorem dJx4a65c_fastRemove_b59b0_29 : decode cJx4a65c_fastRemove_b59b0 29 = .ok (.iload_n 2, 1) := by decide +kernel
theorem dJx4a65c_fastRemove_b59b0_30 : decode cJx4a65c_fastRemove_b59b0 30 = .ok (.isub, 1) := by decide +kernel
theorem dJx4a65c_fastRemove_b59b0_31 : decode cJx4a65c_fastRemove_b59b0 31 = .ok (.invokestatic 112, 3) := by decide +kernel
theorem dJx4a65c_fastRemove_b59b0_34 : decode cJx4a65c_fastRemove_b59b0 34 = .ok (.aload_n 1, 1) := by decide +kernel
theorem dJx4a65c_fastRemove_b59b0_35 : decode cJx4a65c_fastRemove_b59b0 35 = .ok (.aload_n 0, 1) := by decide +kernel
theorem dJx4a65c_fastRemove_b59b0_36 : decode cJx4a65c_fastRemove_b59b0 36 = .ok (.iload_n 3, 1) := by decide +kernel
theorem dJx4a65c_fastRemove_b59b0_37 : decode cJx4a65c_fastRemove_b59b0 37 = .ok (.dup_x1, 1) := by decide +kernel
theorem dJx4a65c_fastRemove_b59b0_38 : decode cJx4a65c_fastRemove_b59b0 38 = .ok (.putfield 48, 3) := by decide +kernel
theorem dJx4a65c_fastRemove_b59b0_41 : decode cJx4a65c_fastRemove_b59b0 41 = .ok (.aconst_null, 1) := by decide +kernel
theorem dJx4a65c_fastRemove_b59b0_42 : decode cJx4a65c_fastRemove_b59b0 42 = .ok (.aastore, 1) := by decide +kernel
theorem dJx4a65c_fastRemove_b59b0_43 : decode cJx4a65c_fastRemove_b59b0 43 = .ok (.return_, 1) := by decide +kernel
def f_Jx4a65c_fastRemove_b59b0_b34 (σ : TH) (l0 : Nat) (l1 : Option Nat) (l3 : Int32) : Option (Unit × TH) :=
  gt_ (kd_ σ l0 = 1) <| lt_ (si_ σ 2 l0 l3) fun s5 => nn_ l1 fun a6 => gt_ (kd_ s5 a6 = 24) <| gt_ (¬ (l3 < 0 ∨ ln_ s5 a6 ≤ l3.toNatClampNeg)) <| lt_ (sq_ s5 a6 l3.toNatClampNeg none) fun s7 => some ((), s7)
set_option maxHeartbeats 4000000 in
set_option maxRecDepth 100000 in
theorem t_Jx4a65c_fastRemove_b59b0_b34 {l : Launch} {D : va_G} {cy : Nat → ClassId} {ka : Nat → Nat} {σ0 z : TH} {r : Unit}  {σ : TH} {l0 : Nat} {l1 : Option Nat} {l3 : Int32} (hf : f_Jx4a65c_fastRemove_b59b0_b34 σ l0 l1 l3 = some (r, z)) : v_ l D cy ka cJx4a65c_fastRemove_b59b0 RJx4a65c 4 none "fastRemove" 1 60 (qf_ D cy σ0 z none) σ0 z σ 34 [(0, va_rf (some l0)), (1, va_rf l1), (3, .int l3)] [] := by
  unfold f_Jx4a65c_fastRemove_b59b0_b34 at hf
  refine v_aload_n (x := l1) dJx4a65c_fastRemove_b59b0_34 rfl 1 rfl ?_
  refine v_aload_n (x := (some l0)) dJx4a65c_fastRemove_b59b0_35 rfl 0 rfl ?_
  refine v_iload_n (x := l3) dJx4a65c_fastRemove_b59b0_36 rfl 2 rfl ?_
  refine v_dup_x1 dJx4a65c_fastRemove_b59b0_37 rfl (va_rf_cat _) ?_
  obtain ⟨hk_l0, hf⟩ := gt_of hf
  refine v_puti2 cb_0 hk_l0 2 2 rfl (by decide) rfl (lk_n kw_57 rfl) (Or.inl rfl) rfl rfl hf dJx4a65c_fastRemove_b59b0_38 (fun s5 hts5 hf => ?_)
  have hk_l0 := tk_ hts5 hk_l0
  refine v_null dJx4a65c_fastRemove_b59b0_41 ?_
  obtain ⟨a6, rfl, hf⟩ := nn_of hf
  obtain ⟨hk_a6, hf⟩ := gt_of hf
  refine v_aastN2 23 4 "java/lang/Object" hk_a6 (by decide) rfl hf dJx4a65c_fastRemove_b59b0_42 (fun s7 hts7 hf => ?_)
  have hk_l0 := tk_ hts7 hk_l0
  have hk_a6 := tk_ hts7 hk_a6
  exact v_vret hf dJx4a65c_fastRemove_b59b0_43
/-- java/util/ArrayList.fastRemove([Ljava/lang/Object;I)V -/
def f_Jx4a65c_fastRemove_b59b0 (σ : TH) (p0 : Nat) (p1 : Option Nat) (p2 : Int32) : Option (Unit × TH) :=
  gt_ (kd_ σ p0 = 1) <| lt_ (fi_ σ 0 p0) fun x1 => lt_ (si_ σ 0 p0 (x1 + (1 : Int32))) fun s2 => lt_ (fi_ s2 2 p0) fun x3 => lt_ (x3 - (1 : Int32)) fun x4 => if x4 ≤ p2 then (f_Jx4a65c_fastRemove_b59b0_b34 s2 p0 p1 x4) else (nn_ p1 fun a8 => gt_ (kd_ s2 a8 = 24) <| gt_ (¬ (p2 + (1 : Int32)) < 0 ∧ ¬ p2 < 0 ∧ ¬ (x4 - p2) < 0 ∧ (p2 + (1 : Int32) : Int32).toNatClampNeg + (x4 - p2 : Int32).toNatClampNeg ≤ ln_ s2 a8 ∧ p2.toNatClampNeg + (x4 - p2 : Int32).toNatClampNeg ≤ ln_ s2 a8 ∧ 0 < ln_ s2 a8 ∧ ∀ i, i < (x4 - p2 : Int32).toNatClampNeg → Option.elim (ar_ s2 a8 ((p2 + (1 : Int32) : Int32).toNatClampNeg + i)) 1 (kd_ s2) ≠ 0 ∧ Option.elim (ar_ s2 a8 ((p2 + (1 : Int32) : Int32).toNatClampNeg + i)) 1 (kd_ s2) < 18) <| lt_ (sc_ s2 a8 a8 ((p2 + (1 : Int32) : Int32).toNatClampNeg) p2.toNatClampNeg ((x4 - p2 : Int32).toNatClampNeg)) fun s9 => f_Jx4a65c_fastRemove_b59b0_b34 s9 p0 (some a8) x4)
set_option maxHeartbeats 4000000 in
set_option maxRecDepth 100000 in
theorem c_Jx4a65c_fastRemove_b59b0 {l : Launch} {D : va_G} {cy : Nat → ClassId} {ka : Nat → Nat} {σ z : TH} {p0 : Nat} {p1 : Option Nat} {p2 : Int32} {r : Unit} (hf : f_Jx4a65c_fastRemove_b59b0 σ p0 p1 p2 = some (r, z)) : ct_ l D cy ka yJx4a65c_fastRemove_b59b0 1 60 [va_rf (some p0), va_rf p1, .int p2] σ none z := by
  unfold f_Jx4a65c_fastRemove_b59b0 at hf
  refine v_start (cc := cJx4a65c_fastRemove_b59b0) (own := RJx4a65c) (maxL := 4) (ret := none) (nm := "fastRemove") (by decide +kernel) kw_1296 rfl rfl (by simp [lg_sl, va_rf_cat, cat_i, cat_l]) ?_
  refine v_eqL (L2 := [(0, va_rf (some p0)), (1, va_rf p1), (2, .int p2)]) (by simp [lv_args, va_rf_cat, cat_i, cat_l]) ?_
  refine v_aload_n (x := (some p0)) dJx4a65c_fastRemove_b59b0_0 rfl 0 rfl ?_
  refine v_dup dJx4a65c_fastRemove_b59b0_1 (va_rf_cat _) ?_
  obtain ⟨hk_p0, hf⟩ := gt_of hf
  refine v_geti cb_0 hk_p0 0 0 rfl (by decide) rfl (lk_h kw_59 kw_same) hf dJx4a65c_fastRemove_b59b0_2 (fun x1 hf => ?_)
  refine v_iconst (v := 1) dJx4a65c_fastRemove_b59b0_5 (by decide) ?_
  refine v_iadd dJx4a65c_fastRemove_b59b0_6 ?_
  refine v_puti2 cb_0 hk_p0 0 0 rfl (by decide) rfl (lk_h kw_59 kw_same) (Or.inl rfl) rfl rfl hf dJx4a65c_fastRemove_b59b0_7 (fun s2 hts2 hf => ?_)
  have hk_p0 := tk_ hts2 hk_p0
  refine v_aload_n (x := (some p0)) dJx4a65c_fastRemove_b59b0_10 rfl 0 rfl ?_
  refine v_geti cb_0 hk_p0 2 2 rfl (by decide) rfl (lk_n kw_57 rfl) hf dJx4a65c_fastRemove_b59b0_11 (fun x3 hf => ?_)
  refine v_iconst (v := 1) dJx4a65c_fastRemove_b59b0_14 (by decide) ?_
  refine v_isub dJx4a65c_fastRemove_b59b0_15 ?_
  refine v_dup dJx4a65c_fastRemove_b59b0_16 rfl ?_
  obtain ⟨x4, ex4⟩ : ∃ y : Int32, y = x3 - (1 : Int32) := ⟨_, rfl⟩
  rw [lt_e, ← ex4] at hf
  rw [← ex4]
  refine v_istore_n [(3, .int x4), (0, va_rf (some p0)), (1, va_rf p1), (2, .int p2)] dJx4a65c_fastRemove_b59b0_17 rfl (by decide) rfl ?_
  refine v_iload_n (x := p2) dJx4a65c_fastRemove_b59b0_18 rfl 3 rfl ?_
  refine v_icmp_le (tgt := 34) hf dJx4a65c_fastRemove_b59b0_19 (by decide) (fun hq hf => ?_) (fun hq hf => ?_)
  · refine v_sub [1, 2, 0] (L2 := [(0, va_rf (some p0)), (1, va_rf p1), (3, .int x4)]) rfl ?_
    exact t_Jx4a65c_fastRemove_b59b0_b34  hf
  · refine v_aload_n (x := p1) dJx4a65c_fastRemove_b59b0_22 rfl 2 rfl ?_
    refine v_iload_n (x := p2) dJx4a65c_fastRemove_b59b0_23 rfl 3 rfl ?_
    refine v_iconst (v := 1) dJx4a65c_fastRemove_b59b0_24 (by decide) ?_
    refine v_iadd dJx4a65c_fastRemove_b59b0_25 ?_
    refine v_aload_n (x := p1) dJx4a65c_fastRemove_b59b0_26 rfl 2 rfl ?_
    refine v_iload_n (x := p2) dJx4a65c_fastRemove_b59b0_27 rfl 3 rfl ?_
    refine v_iload_n (x := x4) dJx4a65c_fastRemove_b59b0_28 rfl 0 rfl ?_
    refine v_iload_n (x := p2) dJx4a65c_fastRemove_b59b0_29 rfl 3 rfl ?_
    refine v_isub dJx4a65c_fastRemove_b59b0_30 ?_
    obtain ⟨a8, rfl, hf⟩ := nn_of hf
    obtain ⟨hk_a8, hf⟩ := gt_of hf
    refine v_acpq kw_1297 hk_a8 hk_a8 hf (by decide) (by decide) (cat_len (Nat.le_of_ble_eq_true rfl)) dJx4a65c_fastRemove_b59b0_31 (fun s9 hts9 hf => ?_)
    have hk_p0 := tk_ hts9 hk_p0
    have hk_a8 := tk_ hts9 hk_a8
    refine v_sub [1, 2, 0] (L2 := [(0, va_rf (some p0)), (1, va_rf (some a8)), (3, .int x4)]) rfl ?_
    exact t_Jx4a65c_fastRemove_b59b0_b34  hf
theorem dJx4a65c_get_915e3_0 : decode cJx4a65c_get_915e3 0 = .ok (.iload_n 1, 1) := by decide +kernel
theorem dJx4a65c_get_915e3_1 : decode cJx4a65c_get_915e3 1 = .ok (.aload_n 0, 1) := by decide +kernel
theorem dJx4a65c_get_915e3_2 : decode cJx4a65c_get_915e3 2 = .ok (.getfield 48, 3) := by decide +kernel
theorem dJx4a65c_get_915e3_5 : decode cJx4a65c_get_915e3 5 = .ok (.invokestatic 118, 3) := by decide +kernel
theorem dJx4a65c_get_915e3_8 : decode cJx4a65c_get_915e3 8 = .ok (.pop, 1) := by decide +kernel
theorem dJx4a65c_get_915e3_9 : decode cJx4a65c_get_915e3 9 = .ok (.aload_n 0, 1) := by decide +kernel
theorem dJx4a65c_get_915e3_10 : decode cJx4a65c_get_915e3 10 = .ok (.iload_n 1, 1) := by decide +kernel
theorem dJx4a65c_get_915e3_11 : decode cJx4a65c_get_915e3 11 = .ok (.invokevirtual 123, 3) := by decide +kernel
theorem dJx4a65c_get_915e3_14 : decode cJx4a65c_get_915e3 14 = .ok (.areturn, 1) := by decide +kernel
/-- java/util/ArrayList.get(I)Ljava/lang/Object; -/
def f_Jx4a65c_get_915e3 (σ : TH) (p0 : Nat) (p1 : Int32) : Option (Option Nat × TH) :=
  gt_ (kd_ σ p0 = 1) <| lt_ (fi_ σ 2 p0) fun x1 => bd_ (f_J15_checkIndex_7cf53 σ p1 x1) fun x2 s3 => bd_ (f_Jx4a65c_elementData_915e3 s3 p0 p1) fun r4 s5 => some (r4, s5)
set_option maxHeartbeats 4000000 in
set_option maxRecDepth 100000 in
theorem c_Jx4a65c_get_915e3 {l : Launch} {D : va_G} {cy : Nat → ClassId} {ka : Nat → Nat} {σ z : TH} {p0 : Nat} {p1 : Int32} {r : Option Nat} (hf : f_Jx4a65c_get_915e3 σ p0 p1 = some (r, z)) : ct_ l D cy ka yJx4a65c_get_915e3 2 43 [va_rf (some p0), .int p1] σ (some (va_rf r)) z := by
  unfold f_Jx4a65c_get_915e3 at hf
  refine v_start (cc := cJx4a65c_get_915e3) (own := RJx4a65c) (maxL := 2) (ret := (some (FieldType.object "java/lang/Object"))) (nm := "get") (by decide +kernel) kw_410 rfl rfl (by simp [lg_sl, va_rf_cat, cat_i, cat_l]) ?_
  refine v_eqL (L2 := [(0, va_rf (some p0)), (1, .int p1)]) (by simp [lv_args, va_rf_cat, cat_i, cat_l]) ?_
  refine v_iload_n (x := p1) dJx4a65c_get_915e3_0 rfl 1 rfl ?_
  refine v_aload_n (x := (some p0)) dJx4a65c_get_915e3_1 rfl 0 rfl ?_
  obtain ⟨hk_p0, hf⟩ := gt_of hf
  refine v_geti cb_0 hk_p0 2 2 rfl (by decide) rfl (lk_n kw_57 rfl) hf dJx4a65c_get_915e3_2 (fun x1 hf => ?_)
  obtain ⟨x2, s3, hcs3, hf⟩ := bd_of hf
  have hts3 := c_J15_checkIndex_7cf53 (l := l) (D := D) (cy := cy) (ka := ka) hcs3
  refine v_callS (As := [.int p1, .int x1]) (rest := []) hts3 yb_J15_checkIndex_7cf53 kw_411 kw_412 rfl ⟨Nat.le_of_ble_eq_true rfl, Nat.le_of_ble_eq_true rfl⟩ rfl (cat_len (Nat.le_of_ble_eq_true rfl)) dJx4a65c_get_915e3_5 ?_
  have hk_p0 := tk_ hts3.1 hk_p0
  show v_ l D cy ka cJx4a65c_get_915e3 RJx4a65c 2 (some (FieldType.object "java/lang/Object")) "get" 2 43 (qf_ D cy σ z (some (va_rf r))) σ z _ 8 [(0, va_rf (some p0)), (1, .int p1)] [.int x2]
  refine v_pop dJx4a65c_get_915e3_8 rfl ?_
  refine v_aload_n (x := (some p0)) dJx4a65c_get_915e3_9 rfl 0 rfl ?_
  refine v_iload_n (x := p1) dJx4a65c_get_915e3_10 rfl 1 rfl ?_
  obtain ⟨r4, s5, hcs5, hf⟩ := bd_of hf
  have hts5 := c_Jx4a65c_elementData_915e3 (l := l) (D := D) (cy := cy) (ka := ka) hcs5
  refine v_callV cb_0 hk_p0 (As := [.int p1]) (rest := []) hts5 yb_Jx4a65c_elementData_915e3 kw_417 kw_418 kw_419 rfl ⟨Nat.le_of_ble_eq_true rfl, Nat.le_of_ble_eq_true rfl⟩ rfl (cat_len (Nat.le_of_ble_eq_true rfl)) dJx4a65c_get_915e3_11 ?_
  have hk_p0 := tk_ hts5.1 hk_p0
  show v_ l D cy ka cJx4a65c_get_915e3 RJx4a65c 2 (some (FieldType.object "java/lang/Object")) "get" 2 43 (qf_ D cy σ z (some (va_rf r))) σ z _ 14 [(0, va_rf (some p0)), (1, .int p1)] [va_rf r4]
  exact v_aret (x := r4) hf (Or.inl ⟨_, rfl⟩) dJx4a65c_get_915e3_14
theorem dJxa1e45_init_da8c8_0 : decode cJxa1e45_init_da8c8 0 = .ok (.aload_n 0, 1) := by decide +kernel
theorem dJxa1e45_init_da8c8_1 : decode cJxa1e45_init_da8c8 1 = .ok (.invokespecial 1, 3) := by decide +kernel
theorem dJxa1e45_init_da8c8_4 : decode cJxa1e45_init_da8c8 4 = .ok (.return_, 1) := by decide +kernel
/-- java/util/AbstractCollection.<init>()V -/
def f_Jxa1e45_init_da8c8 (σ : TH) (p0 : Nat) : Option (Unit × TH) :=
  some ((), σ)
set_option maxHeartbeats 4000000 in
set_option maxRecDepth 100000 in
theorem c_Jxa1e45_init_da8c8 {l : Launch} {D : va_G} {cy : Nat → ClassId} {ka : Nat → Nat} {σ z : TH} {p0 : Nat} {r : Unit} (hf : f_Jxa1e45_init_da8c8 σ p0 = some (r, z)) : ct_ l D cy ka yJxa1e45_init_da8c8 1 20 [va_rf (some p0)] σ none z := by
  unfold f_Jxa1e45_init_da8c8 at hf
  refine v_start (cc := cJxa1e45_init_da8c8) (own := RJxa1e45) (maxL := 1) (ret := none) (nm := "<init>") (by decide +kernel) kw_52 rfl rfl (by simp [lg_sl, va_rf_cat, cat_i, cat_l]) ?_
  refine v_eqL (L2 := [(0, va_rf (some p0))]) (by simp [lv_args, va_rf_cat, cat_i, cat_l]) ?_
  refine v_aload_n (x := (some p0)) dJxa1e45_init_da8c8_0 rfl 0 rfl ?_
  refine v_objInit kw_53 kw_40 kw_41 (by decide) (by decide) (cat_len (Nat.le_of_ble_eq_true rfl)) dJxa1e45_init_da8c8_1 ?_
  exact v_vret hf dJxa1e45_init_da8c8_4
theorem dJxc12de_init_da8c8_0 : decode cJxc12de_init_da8c8 0 = .ok (.aload_n 0, 1) := by decide +kernel
theorem dJxc12de_init_da8c8_1 : decode cJxc12de_init_da8c8 1 = .ok (.invokespecial 1, 3) := by decide +kernel
theorem dJxc12de_init_da8c8_4 : decode cJxc12de_init_da8c8 4 = .ok (.aload_n 0, 1) := by decide +kernel
theorem dJxc12de_init_da8c8_5 : decode cJxc12de_init_da8c8 5 = .ok (.iconst 0, 1) := by decide +kernel
theorem dJxc12de_init_da8c8_6 : decode cJxc12de_init_da8c8 6 = .ok (.putfield 7, 3) := by decide +kernel
theorem dJxc12de_init_da8c8_9 : decode cJxc12de_init_da8c8 9 = .ok (.return_, 1) := by decide +kernel
/-- java/util/AbstractList.<init>()V -/
def f_Jxc12de_init_da8c8 (σ : TH) (p0 : Nat) : Option (Unit × TH) :=
  bd_ (f_Jxa1e45_init_da8c8 σ p0) fun x1 s2 => gt_ (kd_ s2 p0 = 1) <| lt_ (si_ s2 0 p0 (0 : Int32)) fun s3 => some ((), s3)
set_option maxHeartbeats 4000000 in
set_option maxRecDepth 100000 in
theorem c_Jxc12de_init_da8c8 {l : Launch} {D : va_G} {cy : Nat → ClassId} {ka : Nat → Nat} {σ z : TH} {p0 : Nat} {r : Unit} (hf : f_Jxc12de_init_da8c8 σ p0 = some (r, z)) : ct_ l D cy ka yJxc12de_init_da8c8 2 40 [va_rf (some p0)] σ none z := by
  unfold f_Jxc12de_init_da8c8 at hf
  refine v_start (cc := cJxc12de_init_da8c8) (own := RJxc12de) (maxL := 1) (ret := none) (nm := "<init>") (by decide +kernel) kw_49 rfl rfl (by simp [lg_sl, va_rf_cat, cat_i, cat_l]) ?_
  refine v_eqL (L2 := [(0, va_rf (some p0))]) (by simp [lv_args, va_rf_cat, cat_i, cat_l]) ?_
  refine v_aload_n (x := (some p0)) dJxc12de_init_da8c8_0 rfl 0 rfl ?_
  obtain ⟨x1, s2, hcs2, hf⟩ := bd_of hf
  have hts2 := c_Jxa1e45_init_da8c8 (l := l) (D := D) (cy := cy) (ka := ka) hcs2
  refine v_callI (As := []) (rest := []) hts2 yb_Jxa1e45_init_da8c8 kw_50 kw_51 rfl rfl ⟨Nat.le_of_ble_eq_true rfl, Nat.le_of_ble_eq_true rfl⟩ rfl (cat_len (Nat.le_of_ble_eq_true rfl)) dJxc12de_init_da8c8_1 ?_
  show v_ l D cy ka cJxc12de_init_da8c8 RJxc12de 1 none "<init>" 2 40 (qf_ D cy σ z none) σ z _ 4 [(0, va_rf (some p0))] []
  refine v_aload_n (x := (some p0)) dJxc12de_init_da8c8_4 rfl 0 rfl ?_
  refine v_iconst (v := 0) dJxc12de_init_da8c8_5 (by decide) ?_
  obtain ⟨hk_p0, hf⟩ := gt_of hf
  refine v_puti2 cb_0 hk_p0 0 0 rfl (by decide) rfl (lk_n kw_58 rfl) (Or.inl rfl) rfl rfl hf dJxc12de_init_da8c8_6 (fun s3 hts3 hf => ?_)
  have hk_p0 := tk_ hts3 hk_p0
  exact v_vret hf dJxc12de_init_da8c8_9
theorem dJx4a65c_init_da8c8_0 : decode cJx4a65c_init_da8c8 0 = .ok (.aload_n 0, 1) := by decide +kernel
theorem dJx4a65c_init_da8c8_1 : decode cJx4a65c_init_da8c8 1 = .ok (.invokespecial 1, 3) := by decide +kernel
theorem dJx4a65c_init_da8c8_4 : decode cJx4a65c_init_da8c8 4 = .ok (.aload_n 0, 1) := by decide +kernel
theorem dJx4a65c_init_da8c8_5 : decode cJx4a65c_init_da8c8 5 = .ok (.getstatic 39, 3) := by decide +kernel
theorem dJx4a65c_init_da8c8_8 : decode cJx4a65c_init_da8c8 8 = .ok (.putfield 9, 3) := by decide +kernel
theorem dJx4a65c_init_da8c8_11 : decode cJx4a65c_init_da8c8 11 = .ok (.return_, 1) := by decide +kernel
/-- java/util/ArrayList.<init>()V -/
def f_Jx4a65c_init_da8c8 (ka : Nat → Nat) (σ : TH) (p0 : Nat) : Option (Unit × TH) :=
  bd_ (f_Jxc12de_init_da8c8 σ p0) fun x1 s2 => gt_ (kd_ s2 p0 = 1) <| lt_ (sr_ s2 1 p0 ((some (ka 200)))) fun s3 => some ((), s3)
set_option maxHeartbeats 4000000 in
set_option maxRecDepth 100000 in
theorem c_Jx4a65c_init_da8c8 {l : Launch} {D : va_G} {cy : Nat → ClassId} {ka : Nat → Nat} {σ z : TH} {p0 : Nat} {r : Unit} (hf : f_Jx4a65c_init_da8c8 ka σ p0 = some (r, z)) : ct_ l D cy ka yJx4a65c_init_da8c8 3 60 [va_rf (some p0)] σ none z := by
  unfold f_Jx4a65c_init_da8c8 at hf
  refine v_start (cc := cJx4a65c_init_da8c8) (own := RJx4a65c) (maxL := 1) (ret := none) (nm := "<init>") (by decide +kernel) kw_46 rfl rfl (by simp [lg_sl, va_rf_cat, cat_i, cat_l]) ?_
  refine v_eqL (L2 := [(0, va_rf (some p0))]) (by simp [lv_args, va_rf_cat, cat_i, cat_l]) ?_
  refine v_aload_n (x := (some p0)) dJx4a65c_init_da8c8_0 rfl 0 rfl ?_
  obtain ⟨x1, s2, hcs2, hf⟩ := bd_of hf
  have hts2 := c_Jxc12de_init_da8c8 (l := l) (D := D) (cy := cy) (ka := ka) hcs2
  refine v_callI (As := []) (rest := []) hts2 yb_Jxc12de_init_da8c8 kw_47 kw_48 rfl rfl ⟨Nat.le_of_ble_eq_true rfl, Nat.le_of_ble_eq_true rfl⟩ rfl (cat_len (Nat.le_of_ble_eq_true rfl)) dJx4a65c_init_da8c8_1 ?_
  show v_ l D cy ka cJx4a65c_init_da8c8 RJx4a65c 1 none "<init>" 3 60 (qf_ D cy σ z none) σ z _ 4 [(0, va_rf (some p0))] []
  refine v_aload_n (x := (some p0)) dJx4a65c_init_da8c8_4 rfl 0 rfl ?_
  refine v_getsE kw_54 dJx4a65c_init_da8c8_5 ?_
  obtain ⟨hk_p0, hf⟩ := gt_of hf
  refine v_putr2 cb_0 hk_p0 1 1 rfl (by decide) rfl (lk_n kw_56 rfl) (Or.inl rfl) (nr_ _ (Or.inr ⟨_, rfl⟩)) (fr9_ _ (Or.inr ⟨_, rfl⟩)) hf dJx4a65c_init_da8c8_8 (fun s3 hts3 hf => ?_)
  have hk_p0 := tk_ hts3 hk_p0
  exact v_vret hf dJx4a65c_init_da8c8_11
theorem dJx4a65c_remove_915e3_0 : decode cJx4a65c_remove_915e3 0 = .ok (.iload_n 1, 1) := by decide +kernel
theorem dJx4a65c_remove_915e3_1 : decode cJx4a65c_remove_915e3 1 = .ok (.aload_n 0, 1) := by decide +kernel
theorem dJx4a65c_remove_915e3_2 : decode cJx4a65c_remove_915e3 2 = .ok (.getfield 48, 3) := by decide +kernel
theorem dJx4a65c_remove_915e3_5 : decode cJx4a65c_remove_915e3 5 = .ok (.invokestatic 118, 3) := by decide +kernel
theorem dJx4a65c_remove_915e3_8 : decode cJx4a65c_remove_915e3 8 = .ok (.pop, 1) := by decide +kernel
theorem dJx4a65c_remove_915e3_9 : decode cJx4a65c_remove_915e3 9 = .ok (.aload_n 0, 1) := by decide +kernel
theorem dJx4a65c_remove_915e3_10 : decode cJx4a65c_remove_915e3 10 = .ok (.getfield 9, 3) := by decide +kernel
theorem dJx4a65c_remove_915e3_13 : decode cJx4a65c_remove_915e3 13 = .ok (.astore_n 2, 1) := by decide +kernel
theorem dJx4a65c_remove_915e3_14 : decode cJx4a65c_remove_915e3 14 = .ok (.aload_n 2, 1) := by decide +kernel
theorem dJx4a65c_remove_915e3_15 : decode cJx4a65c_remove_915e3 15 = .ok (.iload_n 1, 1) := by decide +kernel
theorem dJx4a65c_remove_915e3_16 : decode cJx4a65c_remove_915e3 16 = .ok (.aaload, 1) := by decide +kernel
theorem dJx4a65c_remove_915e3_17 : decode cJx4a65c_remove_915e3 17 = .ok (.astore_n 3, 1) := by decide +kernel
theorem dJx4a65c_remove_915e3_18 : decode cJx4a65c_remove_915e3 18 = .ok (.aload_n 0, 1) := by decide +kernel
theorem dJx4a65c_remove_915e3_19 : decode cJx4a65c_remove_915e3 19 = .ok (.aload_n 2, 1) := by decide +kernel
theorem dJx4a65c_remove_915e3_20 : decode cJx4a65c_remove_915e3 20 = .ok (.iload_n 1, 1) := by decide +kernel
theorem dJx4a65c_remove_915e3_21 : decode cJx4a65c_remove_915e3 21 = .ok (.invokevirtual 144, 3) := by decide +kernel
theorem dJx4a65c_remove_915e3_24 : decode cJx4a65c_remove_915e3 24 = .ok (.aload_n 3, 1) := by decide +kernel
theorem dJx4a65c_remove_915e3_25 : decode cJx4a65c_remove_915e3 25 = .ok (.areturn, 1) := by decide +kernel
/-- java/util/ArrayList.remove(I)Ljava/lang/Object; -/
def f_Jx4a65c_remove_915e3 (σ : TH) (p0 : Nat) (p1 : Int32) : Option (Option Nat × TH) :=
  gt_ (kd_ σ p0 = 1) <| lt_ (fi_ σ 2 p0) fun x1 => bd_ (f_J15_checkIndex_7cf53 σ p1 x1) fun x2 s3 => lt_ (fr_ s3 1 p0) fun r4 => nn_ r4 fun a5 => gt_ (kd_ s3 a5 = 24) <| gt_ (¬ (p1 < 0 ∨ ln_ s3 a5 ≤ p1.toNatClampNeg)) <| lt_ (ar_ s3 a5 p1.toNatClampNeg) fun r6 => bd_ (f_Jx4a65c_fastRemove_b59b0 s3 p0 (some a5) p1) fun x7 s8 => some (r6, s8)
set_option maxHeartbeats 4000000 in
set_option maxRecDepth 100000 in
theorem c_Jx4a65c_remove_915e3 {l : Launch} {D : va_G} {cy : Nat → ClassId} {ka : Nat → Nat} {σ z : TH} {p0 : Nat} {p1 : Int32} {r : Option Nat} (hf : f_Jx4a65c_remove_915e3 σ p0 p1 = some (r, z)) : ct_ l D cy ka yJx4a65c_remove_915e3 2 83 [va_rf (some p0), .int p1] σ (some (va_rf r)) z := by
  unfold f_Jx4a65c_remove_915e3 at hf
  refine v_start (cc := cJx4a65c_remove_915e3) (own := RJx4a65c) (maxL := 4) (ret := (some (FieldType.object "java/lang/Object"))) (nm := "remove") (by decide +kernel) kw_1292 rfl rfl (by simp [lg_sl, va_rf_cat, cat_i, cat_l]) ?_
  refine v_eqL (L2 := [(0, va_rf (some p0)), (1, .int p1)]) (by simp [lv_args, va_rf_cat, cat_i, cat_l]) ?_
  refine v_iload_n (x := p1) dJx4a65c_remove_915e3_0 rfl 1 rfl ?_
  refine v_aload_n (x := (some p0)) dJx4a65c_remove_915e3_1 rfl 0 rfl ?_
  obtain ⟨hk_p0, hf⟩ := gt_of hf
  refine v_geti cb_0 hk_p0 2 2 rfl (by decide) rfl (lk_n kw_57 rfl) hf dJx4a65c_remove_915e3_2 (fun x1 hf => ?_)
  obtain ⟨x2, s3, hcs3, hf⟩ := bd_of hf
  have hts3 := c_J15_checkIndex_7cf53 (l := l) (D := D) (cy := cy) (ka := ka) hcs3
  refine v_callS (As := [.int p1, .int x1]) (rest := []) hts3 yb_J15_checkIndex_7cf53 kw_411 kw_412 rfl ⟨Nat.le_of_ble_eq_true rfl, Nat.le_of_ble_eq_true rfl⟩ rfl (cat_len (Nat.le_of_ble_eq_true rfl)) dJx4a65c_remove_915e3_5 ?_
  have hk_p0 := tk_ hts3.1 hk_p0
  show v_ l D cy ka cJx4a65c_remove_915e3 RJx4a65c 4 (some (FieldType.object "java/lang/Object")) "remove" 2 83 (qf_ D cy σ z (some (va_rf r))) σ z _ 8 [(0, va_rf (some p0)), (1, .int p1)] [.int x2]
  refine v_pop dJx4a65c_remove_915e3_8 rfl ?_
  refine v_aload_n (x := (some p0)) dJx4a65c_remove_915e3_9 rfl 0 rfl ?_
  refine v_getr cb_0 hk_p0 1 1 rfl (by decide) rfl (lk_n kw_56 rfl) hf dJx4a65c_remove_915e3_10 (fun r4 hf => ?_)
  refine v_astore_n [(2, va_rf r4), (0, va_rf (some p0)), (1, .int p1)] dJx4a65c_remove_915e3_13 rfl (by decide) rfl ?_
  refine v_aload_n (x := r4) dJx4a65c_remove_915e3_14 rfl 0 rfl ?_
  refine v_iload_n (x := p1) dJx4a65c_remove_915e3_15 rfl 2 rfl ?_
  obtain ⟨a5, rfl, hf⟩ := nn_of hf
  obtain ⟨hk_a5, hf⟩ := gt_of hf
  refine v_aald 23 4 "java/lang/Object" hk_a5 (by decide) rfl hf dJx4a65c_remove_915e3_16 (fun r6 hf => ?_)
  refine v_astore_n [(3, va_rf r6), (2, va_rf (some a5)), (0, va_rf (some p0)), (1, .int p1)] dJx4a65c_remove_915e3_17 rfl (by decide) rfl ?_
  refine v_aload_n (x := (some p0)) dJx4a65c_remove_915e3_18 rfl 2 rfl ?_
  refine v_aload_n (x := (some a5)) dJx4a65c_remove_915e3_19 rfl 1 rfl ?_
  refine v_iload_n (x := p1) dJx4a65c_remove_915e3_20 rfl 3 rfl ?_
  obtain ⟨x7, s8, hcs8, hf⟩ := bd_of hf
  have hts8 := c_Jx4a65c_fastRemove_b59b0 (l := l) (D := D) (cy := cy) (ka := ka) hcs8
  refine v_callV cb_0 hk_p0 (As := [va_rf (some a5), .int p1]) (rest := []) hts8 yb_Jx4a65c_fastRemove_b59b0 kw_1293 kw_1295 kp_70 rfl ⟨Nat.le_of_ble_eq_true rfl, Nat.le_of_ble_eq_true rfl⟩ rfl (cat_len (Nat.le_of_ble_eq_true rfl)) dJx4a65c_remove_915e3_21 ?_
  have hk_p0 := tk_ hts8.1 hk_p0
  have hk_a5 := tk_ hts8.1 hk_a5
  show v_ l D cy ka cJx4a65c_remove_915e3 RJx4a65c 4 (some (FieldType.object "java/lang/Object")) "remove" 2 83 (qf_ D cy σ z (some (va_rf r))) σ z _ 24 [(3, va_rf r6), (2, va_rf (some a5)), (0, va_rf (some p0)), (1, .int p1)] []
  refine v_aload_n (x := r6) dJx4a65c_remove_915e3_24 rfl 0 rfl ?_
  exact v_aret (x := r6) hf (Or.inl ⟨_, rfl⟩) dJx4a65c_remove_915e3_25
theorem dX11_personAt_0 : decode cX11_personAt 0 = .ok (.iload_n 1, 1) := by decide +kernel
theorem dX11_personAt_1 : decode cX11_personAt 1 = .ok (.iconst 0, 1) := by decide +kernel
theorem dX11_personAt_2 : decode cX11_personAt 2 = .ok (.aload_n 0, 1) := by decide +kernel
theorem dX11_personAt_3 : decode cX11_personAt 3 = .ok (.getfield 16, 3) := by decide +kernel
theorem dX11_personAt_6 : decode cX11_personAt 6 = .ok (.invokevirtual 101, 3) := by decide +kernel
theorem dX11_personAt_9 : decode cX11_personAt 9 = .ok (.iconst 1, 1) := by decide +kernel
theorem dX11_personAt_10 : decode cX11_personAt 10 = .ok (.isub, 1) := by decide +kernel
theorem dX11_personAt_11 : decode cX11_personAt 11 = .ok (.invokestatic 93, 3) := by decide +kernel
theorem dX11_personAt_14 : decode cX11_personAt 14 = .ok (.ifCond .eq 17, 3) := by decide +kernel
theorem dX11_personAt_17 : decode cX11_personAt 17 = .ok (.aload_n 0, 1) := by decide +kernel
theorem dX11_personAt_18 : decode cX11_personAt 18 = .ok (.getfield 16, 3) := by decide +kernel
theorem dX11_personAt_21 : decode cX11_personAt 21 = .ok (.iload_n 1, 1) := by decide +kernel
theorem dX11_personAt_22 : decode cX11_personAt 22 = .ok (.invokevirtual 238, 3) := by decide +kernel
theorem dX11_personAt_25 : decode cX11_personAt 25 = .ok (.checkcast 144, 3) := by decide +kernel
theorem dX11_personAt_28 : decode cX11_personAt 28 = .ok (.goto 4, 3) := by decide +kernel
theorem dX11_personAt_31 : decode cX11_personAt 31 = .ok (.aconst_null, 1) := by decide +kernel
theorem dX11_personAt_32 : decode cX11_personAt 32 = .ok (.areturn, 1) := by decide +kernel
def f_X11_personAt_b32 (σ : TH) (t0 : Option Nat) : Option (Option Nat × TH) :=
  some (t0, σ)
set_option maxHeartbeats 4000000 in
set_option maxRecDepth 100000 in
theorem t_X11_personAt_b32 {l : Launch} {D : va_G} {cy : Nat → ClassId} {ka : Nat → Nat} {σ0 z : TH} {r : Option Nat}  {σ : TH} {t0 : Option Nat} (hf : f_X11_personAt_b32 σ t0 = some (r, z)) : v_ l D cy ka cX11_personAt RX11 2 (some (FieldType.object "LivesAhead$Person")) "personAt" 3 64 (qf_ D cy σ0 z (some (va_rf r))) σ0 z σ 32 [] [va_rf t0] := by
  unfold f_X11_personAt_b32 at hf
  exact v_aret (x := t0) hf (Or.inl ⟨_, rfl⟩) dX11_personAt_32
/-- LivesAhead.personAt(I)LLivesAhead$Person; -/
def f_X11_personAt (σ : TH) (p0 : Nat) (p1 : Int32) : Option (Option Nat × TH) :=
  gt_ (kd_ σ p0 = 13) <| lt_ (fr_ σ 1201 p0) fun r1 => nn_ r1 fun a2 => gt_ (kd_ σ a2 = 1) <| bd_ (f_Jx4a65c_size_8abf5 σ a2) fun x3 s4 => bd_ (f_X11_within s4 p1 (0 : Int32) (x3 - (1 : Int32))) fun x5 s6 => if x5 = 0 then (f_X11_personAt_b32 s6 none) else (lt_ (fr_ s6 1201 p0) fun r7 => nn_ r7 fun a8 => gt_ (kd_ s6 a8 = 1) <| bd_ (f_Jx4a65c_get_915e3 s6 a8 p1) fun r9 s10 => gt_ (Option.elim r9 4 (kd_ s10) = 4) <| f_X11_personAt_b32 s10 r9)
set_option maxHeartbeats 4000000 in
set_option maxRecDepth 100000 in
theorem c_X11_personAt {l : Launch} {D : va_G} {cy : Nat → ClassId} {ka : Nat → Nat} {σ z : TH} {p0 : Nat} {p1 : Int32} {r : Option Nat} (hf : f_X11_personAt σ p0 p1 = some (r, z)) : ct_ l D cy ka yX11_personAt 3 64 [va_rf (some p0), .int p1] σ (some (va_rf r)) z := by
  unfold f_X11_personAt at hf
  refine v_start (cc := cX11_personAt) (own := RX11) (maxL := 2) (ret := (some (FieldType.object "LivesAhead$Person"))) (nm := "personAt") (by decide +kernel) kw_529 rfl rfl (by simp [lg_sl, va_rf_cat, cat_i, cat_l]) ?_
  refine v_eqL (L2 := [(0, va_rf (some p0)), (1, .int p1)]) (by simp [lv_args, va_rf_cat, cat_i, cat_l]) ?_
  refine v_iload_n (x := p1) dX11_personAt_0 rfl 1 rfl ?_
  refine v_iconst (v := 0) dX11_personAt_1 (by decide) ?_
  refine v_aload_n (x := (some p0)) dX11_personAt_2 rfl 0 rfl ?_
  obtain ⟨hk_p0, hf⟩ := gt_of hf
  refine v_getr cb_12 hk_p0 1 1201 rfl (by decide) rfl (lk_n kw_240 rfl) hf dX11_personAt_3 (fun r1 hf => ?_)
  obtain ⟨a2, rfl, hf⟩ := nn_of hf
  obtain ⟨hk_a2, hf⟩ := gt_of hf
  obtain ⟨x3, s4, hcs4, hf⟩ := bd_of hf
  have hts4 := c_Jx4a65c_size_8abf5 (l := l) (D := D) (cy := cy) (ka := ka) hcs4
  refine v_callV cb_0 hk_a2 (As := []) (rest := [.int (0 : Int32), .int p1]) hts4 yb_Jx4a65c_size_8abf5 kw_311 kw_312 kw_313 rfl ⟨Nat.le_of_ble_eq_true rfl, Nat.le_of_ble_eq_true rfl⟩ rfl (cat_len (Nat.le_of_ble_eq_true rfl)) dX11_personAt_6 ?_
  have hk_p0 := tk_ hts4.1 hk_p0
  show v_ l D cy ka cX11_personAt RX11 2 (some (FieldType.object "LivesAhead$Person")) "personAt" 3 64 (qf_ D cy σ z (some (va_rf r))) σ z _ 9 [(0, va_rf (some p0)), (1, .int p1)] [.int x3, .int (0 : Int32), .int p1]
  refine v_iconst (v := 1) dX11_personAt_9 (by decide) ?_
  refine v_isub dX11_personAt_10 ?_
  obtain ⟨x5, s6, hcs6, hf⟩ := bd_of hf
  have hts6 := c_X11_within (l := l) (D := D) (cy := cy) (ka := ka) hcs6
  refine v_callS (As := [.int p1, .int (0 : Int32), .int (x3 - (1 : Int32))]) (rest := []) hts6 yb_X11_within kw_304 kw_305 rfl ⟨Nat.le_of_ble_eq_true rfl, Nat.le_of_ble_eq_true rfl⟩ rfl (cat_len (Nat.le_of_ble_eq_true rfl)) dX11_personAt_11 ?_
  have hk_p0 := tk_ hts6.1 hk_p0
  show v_ l D cy ka cX11_personAt RX11 2 (some (FieldType.object "LivesAhead$Person")) "personAt" 3 64 (qf_ D cy σ z (some (va_rf r))) σ z _ 14 [(0, va_rf (some p0)), (1, .int p1)] [.int x5]
  refine v_if_eq (tgt := 31) hf dX11_personAt_14 (by decide) (fun hq hf => ?_) (fun hq hf => ?_)
  · refine v_null dX11_personAt_31 ?_
    refine v_sub [] (L2 := []) rfl ?_
    exact t_X11_personAt_b32  hf
  · refine v_aload_n (x := (some p0)) dX11_personAt_17 rfl 0 rfl ?_
    refine v_getr cb_12 hk_p0 1 1201 rfl (by decide) rfl (lk_n kw_240 rfl) hf dX11_personAt_18 (fun r7 hf => ?_)
    refine v_iload_n (x := p1) dX11_personAt_21 rfl 1 rfl ?_
    obtain ⟨a8, rfl, hf⟩ := nn_of hf
    obtain ⟨hk_a8, hf⟩ := gt_of hf
    obtain ⟨r9, s10, hcs10, hf⟩ := bd_of hf
    have hts10 := c_Jx4a65c_get_915e3 (l := l) (D := D) (cy := cy) (ka := ka) hcs10
    refine v_callV cb_0 hk_a8 (As := [.int p1]) (rest := []) hts10 yb_Jx4a65c_get_915e3 kw_407 kw_408 kw_409 rfl ⟨Nat.le_of_ble_eq_true rfl, Nat.le_of_ble_eq_true rfl⟩ rfl (cat_len (Nat.le_of_ble_eq_true rfl)) dX11_personAt_22 ?_
    have hk_p0 := tk_ hts10.1 hk_p0
    show v_ l D cy ka cX11_personAt RX11 2 (some (FieldType.object "LivesAhead$Person")) "personAt" 3 64 (qf_ D cy σ z (some (va_rf r))) σ z _ 25 [(0, va_rf (some p0)), (1, .int p1)] [va_rf r9]
    refine v_cast cb_3 4 rfl kw_441 hf dX11_personAt_25 (fun hf => ?_)
    refine v_goto (tgt := 32) dX11_personAt_28 (by decide) ?_
    refine v_sub [] (L2 := []) rfl ?_
    exact t_X11_personAt_b32  hf
theorem dX11_about_0 : decode cX11_about 0 = .ok (.aload_n 0, 1) := by decide +kernel
theorem dX11_about_1 : decode cX11_about 1 = .ok (.iload_n 1, 1) := by decide +kernel
theorem dX11_about_2 : decode cX11_about 2 = .ok (.invokevirtual 149, 3) := by decide +kernel
theorem dX11_about_5 : decode cX11_about 5 = .ok (.astore_n 3, 1) := by decide +kernel
theorem dX11_about_6 : decode cX11_about 6 = .ok (.aload_n 3, 1) := by decide +kernel
theorem dX11_about_7 : decode cX11_about 7 = .ok (.ifnonnull 5, 3) := by decide +kernel
theorem dX11_about_10 : decode cX11_about 10 = .ok (.iconst (-1), 1) := by decide +kernel
theorem dX11_about_11 : decode cX11_about 11 = .ok (.ireturn, 1) := by decide +kernel
theorem dX11_about_12 : decode cX11_about 12 = .ok (.iload_n 2, 1) := by decide +kernel
theorem dX11_about_13 : decode cX11_about 13 = .ok (.tableswitch 123 0 9 #[55, 60, 66, 71, 76, 84, 89, 97, 102, 110], 55) := by decide +kernel
theorem dX11_about_68 : decode cX11_about 68 = .ok (.aload_n 3, 1) := by decide +kernel
theorem dX11_about_69 : decode cX11_about 69 = .ok (.getfield 153, 3) := by decide +kernel
theorem dX11_about_72 : decode cX11_about 72 = .ok (.ireturn, 1) := by decide +kernel
theorem dX11_about_73 : decode cX11_about 73 = .ok (.aload_n 0, 1) := by decide +kernel
theorem dX11_about_74 : decode cX11_about 74 = .ok (.aload_n 3, 1) := by decide +kernel
theorem dX11_about_75 : decode cX11_about 75 = .ok (.invokevirtual 156, 3) := by decide +kernel
theorem dX11_about_78 : decode cX11_about 78 = .ok (.ireturn, 1) := by decide +kernel
theorem dX11_about_79 : decode cX11_about 79 = .ok (.aload_n 3, 1) := by decide +kernel
theorem dX11_about_80 : decode cX11_about 80 = .ok (.getfield 160, 3) := by decide +kernel
theorem dX11_about_83 : decode cX11_about 83 = .ok (.ireturn, 1) := by decide +kernel
theorem dX11_about_84 : decode cX11_about 84 = .ok (.aload_n 3, 1) := by decide +kernel
theorem dX11_about_85 : decode cX11_about 85 = .ok (.getfield 163, 3) := by decide +kernel
theorem dX11_about_88 : decode cX11_about 88 = .ok (.ireturn, 1) := by decide +kernel
theorem dX11_about_89 : decode cX11_about 89 = .ok (.aload_n 3, 1) := by decide +kernel
theorem dX11_about_90 : decode cX11_about 90 = .ok (.invokevirtual 166, 3) := by decide +kernel
theorem dX11_about_93 : decode cX11_about 93 = .ok (.invokestatic 169, 3) := by decide +kernel
theorem dX11_about_96 : decode cX11_about 96 = .ok (.ireturn, 1) := by decide +kernel
theorem dX11_about_97 : decode cX11_about 97 = .ok (.aload_n 3, 1) := by decide +kernel
theorem dX11_about_98 : decode cX11_about 98 = .ok (.getfield 173, 3) := by decide +kernel
theorem dX11_about_101 : decode cX11_about 101 = .ok (.ireturn, 1) := by decide +kernel
theorem dX11_about_102 : decode cX11_about 102 = .ok (.aload_n 3, 1) := by decide +kernel
theorem dX11_about_103 : decode cX11_about 103 = .ok (.getfield 176, 3) := by decide +kernel
theorem dX11_about_106 : decode cX11_about 106 = .ok (.invokestatic 169, 3) := by decide +kernel
theorem dX11_about_109 : decode cX11_about 109 = .ok (.ireturn, 1) := by decide +kernel
theorem dX11_about_110 : decode cX11_about 110 = .ok (.aload_n 3, 1) := by decide +kernel
theorem dX11_about_111 : decode cX11_about 111 = .ok (.getfield 179, 3) := by decide +kernel
theorem dX11_about_114 : decode cX11_about 114 = .ok (.ireturn, 1) := by decide +kernel
theorem dX11_about_115 : decode cX11_about 115 = .ok (.aload_n 3, 1) := by decide +kernel
theorem dX11_about_116 : decode cX11_about 116 = .ok (.invokevirtual 180, 3) := by decide +kernel
theorem dX11_about_119 : decode cX11_about 119 = .ok (.invokestatic 183, 3) := by decide +kernel
theorem dX11_about_122 : decode cX11_about 122 = .ok (.ireturn, 1) := by decide +kernel
theorem dX11_about_123 : decode cX11_about 123 = .ok (.aload_n 0, 1) := by decide +kernel
theorem dX11_about_124 : decode cX11_about 124 = .ok (.aload_n 3, 1) := by decide +kernel
theorem dX11_about_125 : decode cX11_about 125 = .ok (.aload_n 0, 1) := by decide +kernel
theorem dX11_about_126 : decode cX11_about 126 = .ok (.invokevirtual 188, 3) := by decide +kernel
theorem dX11_about_129 : decode cX11_about 129 = .ok (.invokevirtual 191, 3) := by decide +kernel
theorem dX11_about_132 : decode cX11_about 132 = .ok (.invokestatic 183, 3) := by decide +kernel
theorem dX11_about_135 : decode cX11_about 135 = .ok (.ireturn, 1) := by decide +kernel
theorem dX11_about_136 : decode cX11_about 136 = .ok (.iconst (-1), 1) := by decide +kernel
theorem dX11_about_137 : decode cX11_about 137 = .ok (.ireturn, 1) := by decide +kernel
/-- LivesAhead.about(II)I -/
def f_X11_about (σ : TH) (p0 : Nat) (p1 : Int32) (p2 : Int32) : Option (Int32 × TH) :=
  gt_ (kd_ σ p0 = 13) <| bd_ (f_X11_personAt σ p0 p1) fun r1 s2 => oc_ r1 (some ((-1 : Int32), s2)) (fun a3 => if p2 = 0 then (gt_ (kd_ s2 a3 = 4) <| lt_ (fi_ s2 301 a3) fun x4 => some (x4, s2)) else if p2 = 1 then (bd_ (f_X11_ageOf s2 p0 (some a3)) fun x5 s6 => some (x5, s6)) else if p2 = 2 then (gt_ (kd_ s2 a3 = 4) <| lt_ (fi_ s2 303 a3) fun x7 => some (x7, s2)) else if p2 = 3 then (gt_ (kd_ s2 a3 = 4) <| lt_ (fi_ s2 304 a3) fun x8 => some (x8, s2)) else if p2 = 4 then (gt_ (kd_ s2 a3 = 4) <| bd_ (f_X2_isDead s2 a3) fun x9 s10 => bd_ (f_X11_asNumber s10 x9) fun x11 s12 => some (x11, s12)) else if p2 = 5 then (gt_ (kd_ s2 a3 = 4) <| lt_ (fi_ s2 305 a3) fun x13 => some (x13, s2)) else if p2 = 6 then (gt_ (kd_ s2 a3 = 4) <| lt_ (fi_ s2 306 a3) fun x14 => bd_ (f_X11_asNumber s2 x14) fun x15 s16 => some (x15, s16)) else if p2 = 7 then (gt_ (kd_ s2 a3 = 4) <| lt_ (fi_ s2 313 a3) fun x17 => some (x17, s2)) else if p2 = 8 then (gt_ (kd_ s2 a3 = 4) <| bd_ (f_X2_kindsTold s2 a3) fun x18 s19 => bd_ (f_J6_bitCount_0f7a4 s19 x18) fun x20 s21 => some (x20, s21)) else if p2 = 9 then (bd_ (f_X11_today s2 p0) fun x22 s23 => bd_ (f_X11_staleKinds s23 p0 (some a3) x22) fun x24 s25 => bd_ (f_J6_bitCount_0f7a4 s25 x24) fun x26 s27 => some (x26, s27)) else (some ((-1 : Int32), s2)))
set_option maxHeartbeats 4000000 in
set_option maxRecDepth 100000 in
theorem c_X11_about {l : Launch} {D : va_G} {cy : Nat → ClassId} {ka : Nat → Nat} {σ z : TH} {p0 : Nat} {p1 : Int32} {p2 : Int32} {r : Int32} (hf : f_X11_about σ p0 p1 p2 = some (r, z)) : ct_ l D cy ka yX11_about 4 85 [va_rf (some p0), .int p1, .int p2] σ (some (.int r)) z := by
  unfold f_X11_about at hf
  refine v_start (cc := cX11_about) (own := RX11) (maxL := 4) (ret := (some FieldType.int)) (nm := "about") (by decide +kernel) kw_525 rfl rfl (by simp [lg_sl, va_rf_cat, cat_i, cat_l]) ?_
  refine v_eqL (L2 := [(0, va_rf (some p0)), (1, .int p1), (2, .int p2)]) (by simp [lv_args, va_rf_cat, cat_i, cat_l]) ?_
  refine v_aload_n (x := (some p0)) dX11_about_0 rfl 0 rfl ?_
  refine v_iload_n (x := p1) dX11_about_1 rfl 1 rfl ?_
  obtain ⟨hk_p0, hf⟩ := gt_of hf
  obtain ⟨r1, s2, hcs2, hf⟩ := bd_of hf
  have hts2 := c_X11_personAt (l := l) (D := D) (cy := cy) (ka := ka) hcs2
  refine v_callV cb_12 hk_p0 (As := [.int p1]) (rest := []) hts2 yb_X11_personAt kw_526 kw_528 kp_11 rfl ⟨Nat.le_of_ble_eq_true rfl, Nat.le_of_ble_eq_true rfl⟩ rfl (cat_len (Nat.le_of_ble_eq_true rfl)) dX11_about_2 ?_
  have hk_p0 := tk_ hts2.1 hk_p0
  show v_ l D cy ka cX11_about RX11 4 (some FieldType.int) "about" 4 85 (qf_ D cy σ z (some (.int r))) σ z _ 5 [(0, va_rf (some p0)), (1, .int p1), (2, .int p2)] [va_rf r1]
  refine v_astore_n [(3, va_rf r1), (0, va_rf (some p0)), (1, .int p1), (2, .int p2)] dX11_about_5 rfl (by decide) rfl ?_
  refine v_aload_n (x := r1) dX11_about_6 rfl 0 rfl ?_
  refine v_ifnonnull2 (tgt := 12) hf dX11_about_7 (by decide) (fun e9 hf9 => ?_) (fun a3 e9 hf9 => ?_)
  · subst e9
    replace hf := hf9
    clear hf9
    refine v_iconst (v := (-1)) dX11_about_10 (by decide) ?_
    exact v_iret hf dX11_about_11
  · subst e9
    replace hf := hf9
    clear hf9
    refine v_iload_n (x := p2) dX11_about_12 rfl 3 rfl ?_
    try dsimp only [oc_] at hf
    by_cases hq0 : p2 = 0
    · rw [if_pos hq0] at hf
      refine v_tswIn (tgt := 68) (c9 := 0) hq0 dX11_about_13 (by decide) (by decide) rfl (by decide) ?_
      refine v_aload_n (x := (some a3)) dX11_about_68 rfl 0 rfl ?_
      obtain ⟨hk_a3, hf⟩ := gt_of hf
      refine v_geti cb_3 hk_a3 1 301 rfl (by decide) rfl (lk_n kw_467 rfl) hf dX11_about_69 (fun x4 hf => ?_)
      exact v_iret hf dX11_about_72
    rw [if_neg hq0] at hf
    by_cases hq1 : p2 = 1
    · rw [if_pos hq1] at hf
      refine v_tswIn (tgt := 73) (c9 := 1) hq1 dX11_about_13 (by decide) (by decide) rfl (by decide) ?_
      refine v_aload_n (x := (some p0)) dX11_about_73 rfl 1 rfl ?_
      refine v_aload_n (x := (some a3)) dX11_about_74 rfl 0 rfl ?_
      obtain ⟨x5, s6, hcs6, hf⟩ := bd_of hf
      have hts6 := c_X11_ageOf (l := l) (D := D) (cy := cy) (ka := ka) hcs6
      refine v_callV cb_12 hk_p0 (As := [va_rf (some a3)]) (rest := []) hts6 yb_X11_ageOf kw_530 kw_532 kp_12 rfl ⟨Nat.le_of_ble_eq_true rfl, Nat.le_of_ble_eq_true rfl⟩ rfl (cat_len (Nat.le_of_ble_eq_true rfl)) dX11_about_75 ?_
      have hk_p0 := tk_ hts6.1 hk_p0
      show v_ l D cy ka cX11_about RX11 4 (some FieldType.int) "about" 4 85 (qf_ D cy σ z (some (.int r))) σ z _ 78 [(3, va_rf (some a3)), (0, va_rf (some p0)), (1, .int p1), (2, .int p2)] [.int x5]
      exact v_iret hf dX11_about_78
    rw [if_neg hq1] at hf
    by_cases hq2 : p2 = 2
    · rw [if_pos hq2] at hf
      refine v_tswIn (tgt := 79) (c9 := 2) hq2 dX11_about_13 (by decide) (by decide) rfl (by decide) ?_
      refine v_aload_n (x := (some a3)) dX11_about_79 rfl 0 rfl ?_
      obtain ⟨hk_a3, hf⟩ := gt_of hf
      refine v_geti cb_3 hk_a3 3 303 rfl (by decide) rfl (lk_n kw_471 rfl) hf dX11_about_80 (fun x7 hf => ?_)
      exact v_iret hf dX11_about_83
    rw [if_neg hq2] at hf
    by_cases hq3 : p2 = 3
    · rw [if_pos hq3] at hf
      refine v_tswIn (tgt := 84) (c9 := 3) hq3 dX11_about_13 (by decide) (by decide) rfl (by decide) ?_
      refine v_aload_n (x := (some a3)) dX11_about_84 rfl 0 rfl ?_
      obtain ⟨hk_a3, hf⟩ := gt_of hf
      refine v_geti cb_3 hk_a3 4 304 rfl (by decide) rfl (lk_n kw_473 rfl) hf dX11_about_85 (fun x8 hf => ?_)
      exact v_iret hf dX11_about_88
    rw [if_neg hq3] at hf
    by_cases hq4 : p2 = 4
    · rw [if_pos hq4] at hf
      refine v_tswIn (tgt := 89) (c9 := 4) hq4 dX11_about_13 (by decide) (by decide) rfl (by decide) ?_
      refine v_aload_n (x := (some a3)) dX11_about_89 rfl 0 rfl ?_
      obtain ⟨hk_a3, hf⟩ := gt_of hf
      obtain ⟨x9, s10, hcs10, hf⟩ := bd_of hf
      have hts10 := c_X2_isDead (l := l) (D := D) (cy := cy) (ka := ka) hcs10
      refine v_callV cb_3 hk_a3 (As := []) (rest := []) hts10 yb_X2_isDead kw_534 kw_535 kw_536 rfl ⟨Nat.le_of_ble_eq_true rfl, Nat.le_of_ble_eq_true rfl⟩ rfl (cat_len (Nat.le_of_ble_eq_true rfl)) dX11_about_90 ?_
      have hk_p0 := tk_ hts10.1 hk_p0
      have hk_a3 := tk_ hts10.1 hk_a3
      show v_ l D cy ka cX11_about RX11 4 (some FieldType.int) "about" 4 85 (qf_ D cy σ z (some (.int r))) σ z _ 93 [(3, va_rf (some a3)), (0, va_rf (some p0)), (1, .int p1), (2, .int p2)] [.int x9]
      obtain ⟨x11, s12, hcs12, hf⟩ := bd_of hf
      have hts12 := c_X11_asNumber (l := l) (D := D) (cy := cy) (ka := ka) hcs12
      refine v_callS (As := [.int x9]) (rest := []) hts12 yb_X11_asNumber kw_442 kw_443 rfl ⟨Nat.le_of_ble_eq_true rfl, Nat.le_of_ble_eq_true rfl⟩ rfl (cat_len (Nat.le_of_ble_eq_true rfl)) dX11_about_93 ?_
      have hk_p0 := tk_ hts12.1 hk_p0
      have hk_a3 := tk_ hts12.1 hk_a3
      show v_ l D cy ka cX11_about RX11 4 (some FieldType.int) "about" 4 85 (qf_ D cy σ z (some (.int r))) σ z _ 96 [(3, va_rf (some a3)), (0, va_rf (some p0)), (1, .int p1), (2, .int p2)] [.int x11]
      exact v_iret hf dX11_about_96
    rw [if_neg hq4] at hf
    by_cases hq5 : p2 = 5
    · rw [if_pos hq5] at hf
      refine v_tswIn (tgt := 97) (c9 := 5) hq5 dX11_about_13 (by decide) (by decide) rfl (by decide) ?_
      refine v_aload_n (x := (some a3)) dX11_about_97 rfl 0 rfl ?_
      obtain ⟨hk_a3, hf⟩ := gt_of hf
      refine v_geti cb_3 hk_a3 5 305 rfl (by decide) rfl (lk_n kw_475 rfl) hf dX11_about_98 (fun x13 hf => ?_)
      exact v_iret hf dX11_about_101
    rw [if_neg hq5] at hf
    by_cases hq6 : p2 = 6
    · rw [if_pos hq6] at hf
      refine v_tswIn (tgt := 102) (c9 := 6) hq6 dX11_about_13 (by decide) (by decide) rfl (by decide) ?_
      refine v_aload_n (x := (some a3)) dX11_about_102 rfl 0 rfl ?_
      obtain ⟨hk_a3, hf⟩ := gt_of hf
      refine v_geti cb_3 hk_a3 6 306 rfl (by decide) rfl (lk_n kw_477 rfl) hf dX11_about_103 (fun x14 hf => ?_)
      obtain ⟨x15, s16, hcs16, hf⟩ := bd_of hf
      have hts16 := c_X11_asNumber (l := l) (D := D) (cy := cy) (ka := ka) hcs16
      refine v_callS (As := [.int x14]) (rest := []) hts16 yb_X11_asNumber kw_442 kw_443 rfl ⟨Nat.le_of_ble_eq_true rfl, Nat.le_of_ble_eq_true rfl⟩ rfl (cat_len (Nat.le_of_ble_eq_true rfl)) dX11_about_106 ?_
      have hk_p0 := tk_ hts16.1 hk_p0
      have hk_a3 := tk_ hts16.1 hk_a3
      show v_ l D cy ka cX11_about RX11 4 (some FieldType.int) "about" 4 85 (qf_ D cy σ z (some (.int r))) σ z _ 109 [(3, va_rf (some a3)), (0, va_rf (some p0)), (1, .int p1), (2, .int p2)] [.int x15]
      exact v_iret hf dX11_about_109
    rw [if_neg hq6] at hf
    by_cases hq7 : p2 = 7
    · rw [if_pos hq7] at hf
      refine v_tswIn (tgt := 110) (c9 := 7) hq7 dX11_about_13 (by decide) (by decide) rfl (by decide) ?_
      refine v_aload_n (x := (some a3)) dX11_about_110 rfl 0 rfl ?_
      obtain ⟨hk_a3, hf⟩ := gt_of hf
      refine v_geti cb_3 hk_a3 13 313 rfl (by decide) rfl (lk_n kw_492 rfl) hf dX11_about_111 (fun x17 hf => ?_)
      exact v_iret hf dX11_about_114
    rw [if_neg hq7] at hf
    by_cases hq8 : p2 = 8
    · rw [if_pos hq8] at hf
      refine v_tswIn (tgt := 115) (c9 := 8) hq8 dX11_about_13 (by decide) (by decide) rfl (by decide) ?_
      refine v_aload_n (x := (some a3)) dX11_about_115 rfl 0 rfl ?_
      obtain ⟨hk_a3, hf⟩ := gt_of hf
      obtain ⟨x18, s19, hcs19, hf⟩ := bd_of hf
      have hts19 := c_X2_kindsTold (l := l) (D := D) (cy := cy) (ka := ka) hcs19
      refine v_callV cb_3 hk_a3 (As := []) (rest := []) hts19 yb_X2_kindsTold kw_542 kw_543 kw_544 rfl ⟨Nat.le_of_ble_eq_true rfl, Nat.le_of_ble_eq_true rfl⟩ rfl (cat_len (Nat.le_of_ble_eq_true rfl)) dX11_about_116 ?_
      have hk_p0 := tk_ hts19.1 hk_p0
      have hk_a3 := tk_ hts19.1 hk_a3
      show v_ l D cy ka cX11_about RX11 4 (some FieldType.int) "about" 4 85 (qf_ D cy σ z (some (.int r))) σ z _ 119 [(3, va_rf (some a3)), (0, va_rf (some p0)), (1, .int p1), (2, .int p2)] [.int x18]
      obtain ⟨x20, s21, hcs21, hf⟩ := bd_of hf
      have hts21 := c_J6_bitCount_0f7a4 (l := l) (D := D) (cy := cy) (ka := ka) hcs21
      refine v_callS (As := [.int x18]) (rest := []) hts21 yb_J6_bitCount_0f7a4 kw_546 kw_547 rfl ⟨Nat.le_of_ble_eq_true rfl, Nat.le_of_ble_eq_true rfl⟩ rfl (cat_len (Nat.le_of_ble_eq_true rfl)) dX11_about_119 ?_
      have hk_p0 := tk_ hts21.1 hk_p0
      have hk_a3 := tk_ hts21.1 hk_a3
      show v_ l D cy ka cX11_about RX11 4 (some FieldType.int) "about" 4 85 (qf_ D cy σ z (some (.int r))) σ z _ 122 [(3, va_rf (some a3)), (0, va_rf (some p0)), (1, .int p1), (2, .int p2)] [.int x20]
      exact v_iret hf dX11_about_122
    rw [if_neg hq8] at hf
    by_cases hq9 : p2 = 9
    · rw [if_pos hq9] at hf
      refine v_tswIn (tgt := 123) (c9 := 9) hq9 dX11_about_13 (by decide) (by decide) rfl (by decide) ?_
      refine v_aload_n (x := (some p0)) dX11_about_123 rfl 1 rfl ?_
      refine v_aload_n (x := (some a3)) dX11_about_124 rfl 0 rfl ?_
      refine v_aload_n (x := (some p0)) dX11_about_125 rfl 1 rfl ?_
      obtain ⟨x22, s23, hcs23, hf⟩ := bd_of hf
      have hts23 := c_X11_today (l := l) (D := D) (cy := cy) (ka := ka) hcs23
      refine v_callV cb_12 hk_p0 (As := []) (rest := [va_rf (some a3), va_rf (some p0)]) hts23 yb_X11_today kw_538 kw_540 kp_13 rfl ⟨Nat.le_of_ble_eq_true rfl, Nat.le_of_ble_eq_true rfl⟩ rfl (cat_len (Nat.le_of_ble_eq_true rfl)) dX11_about_126 ?_
      have hk_p0 := tk_ hts23.1 hk_p0
      show v_ l D cy ka cX11_about RX11 4 (some FieldType.int) "about" 4 85 (qf_ D cy σ z (some (.int r))) σ z _ 129 [(3, va_rf (some a3)), (0, va_rf (some p0)), (1, .int p1), (2, .int p2)] [.int x22, va_rf (some a3), va_rf (some p0)]
      obtain ⟨x24, s25, hcs25, hf⟩ := bd_of hf
      have hts25 := c_X11_staleKinds (l := l) (D := D) (cy := cy) (ka := ka) hcs25
      refine v_callV cb_12 hk_p0 (As := [va_rf (some a3), .int x22]) (rest := []) hts25 yb_X11_staleKinds kw_552 kw_554 kp_14 rfl ⟨Nat.le_of_ble_eq_true rfl, Nat.le_of_ble_eq_true rfl⟩ rfl (cat_len (Nat.le_of_ble_eq_true rfl)) dX11_about_129 ?_
      have hk_p0 := tk_ hts25.1 hk_p0
      show v_ l D cy ka cX11_about RX11 4 (some FieldType.int) "about" 4 85 (qf_ D cy σ z (some (.int r))) σ z _ 132 [(3, va_rf (some a3)), (0, va_rf (some p0)), (1, .int p1), (2, .int p2)] [.int x24]
      obtain ⟨x26, s27, hcs27, hf⟩ := bd_of hf
      have hts27 := c_J6_bitCount_0f7a4 (l := l) (D := D) (cy := cy) (ka := ka) hcs27
      refine v_callS (As := [.int x24]) (rest := []) hts27 yb_J6_bitCount_0f7a4 kw_546 kw_547 rfl ⟨Nat.le_of_ble_eq_true rfl, Nat.le_of_ble_eq_true rfl⟩ rfl (cat_len (Nat.le_of_ble_eq_true rfl)) dX11_about_132 ?_
      have hk_p0 := tk_ hts27.1 hk_p0
      show v_ l D cy ka cX11_about RX11 4 (some FieldType.int) "about" 4 85 (qf_ D cy σ z (some (.int r))) σ z _ 135 [(3, va_rf (some a3)), (0, va_rf (some p0)), (1, .int p1), (2, .int p2)] [.int x26]
      exact v_iret hf dX11_about_135
    rw [if_neg hq9] at hf
    refine v_tswOut (tgt := 136) 10 0 (by decide) (by decide) (fun j hj => ?_) (by decide) (by decide) dX11_about_13 (by decide) ?_
    · match j, hj with
      | 0, _ => exact hq0
      | 1, _ => exact hq1
      | 2, _ => exact hq2
      | 3, _ => exact hq3
      | 4, _ => exact hq4
      | 5, _ => exact hq5
      | 6, _ => exact hq6
      | 7, _ => exact hq7
      | 8, _ => exact hq8
      | 9, _ => exact hq9
      | j + 10, hj => exact absurd hj (by omega)
    · refine v_iconst (v := (-1)) dX11_about_136 (by decide) ?_
      exact v_iret hf dX11_about_137
theorem dX11_ages_0 : decode cX11_ages 0 = .ok (.aload_n 0, 1) := by decide +kernel
theorem dX11_ages_1 : decode cX11_ages 1 = .ok (.iload_n 1, 1) := by decide +kernel
theorem dX11_ages_2 : decode cX11_ages 2 = .ok (.invokevirtual 149, 3) := by decide +kernel
theorem dX11_ages_5 : decode cX11_ages 5 = .ok (.astore_n 3, 1) := by decide +kernel
theorem dX11_ages_6 : decode cX11_ages 6 = .ok (.aload_n 3, 1) := by decide +kernel
theorem dX11_ages_7 : decode cX11_ages 7 = .ok (.ifnonnull 9, 3) := by decide +kernel
theorem dX11_ages_10 : decode cX11_ages 10 = .ok (.aload_n 0, 1) := by decide +kernel
theorem dX11_ages_11 : decode cX11_ages 11 = .ok (.iconst 1, 1) := by decide +kernel
theorem dX11_ages_12 : decode cX11_ages 12 = .ok (.invokevirtual 97, 3) := by decide +kernel
theorem dX11_ages_15 : decode cX11_ages 15 = .ok (.ireturn, 1) := by decide +kernel
theorem dX11_ages_16 : decode cX11_ages 16 = .ok (.iload_n 2, 1) := by decide +kernel
theorem dX11_ages_17 : decode cX11_ages 17 = .ok (.aload_n 0, 1) := by decide +kernel
theorem dX11_ages_18 : decode cX11_ages 18 = .ok (.invokevirtual 188, 3) := by decide +kernel
theorem dX11_ages_21 : decode cX11_ages 21 = .ok (.sipush 3650, 3) := by decide +kernel
theorem dX11_ages_24 : decode cX11_ages 24 = .ok (.invokestatic 93, 3) := by decide +kernel
theorem dX11_ages_27 : decode cX11_ages 27 = .ok (.ifCond .ne 9, 3) := by decide +kernel
theorem dX11_ages_30 : decode cX11_ages 30 = .ok (.aload_n 0, 1) := by decide +kernel
theorem dX11_ages_31 : decode cX11_ages 31 = .ok (.iconst 2, 1) := by decide +kernel
theorem dX11_ages_32 : decode cX11_ages 32 = .ok (.invokevirtual 97, 3) := by decide +kernel
theorem dX11_ages_35 : decode cX11_ages 35 = .ok (.ireturn, 1) := by decide +kernel
theorem dX11_ages_36 : decode cX11_ages 36 = .ok (.aload_n 0, 1) := by decide +kernel
theorem dX11_ages_37 : decode cX11_ages 37 = .ok (.aload_n 0, 1) := by decide +kernel
theorem dX11_ages_38 : decode cX11_ages 38 = .ok (.aload_n 3, 1) := by decide +kernel
theorem dX11_ages_39 : decode cX11_ages 39 = .ok (.iload_n 2, 1) := by decide +kernel
theorem dX11_ages_40 : decode cX11_ages 40 = .ok (.invokevirtual 191, 3) := by decide +kernel
theorem dX11_ages_43 : decode cX11_ages 43 = .ok (.invokevirtual 114, 3) := by decide +kernel
theorem dX11_ages_46 : decode cX11_ages 46 = .ok (.ireturn, 1) := by decide +kernel
/-- LivesAhead.ages(II)I -/
def f_X11_ages (σ : TH) (p0 : Nat) (p1 : Int32) (p2 : Int32) : Option (Int32 × TH) :=
  gt_ (kd_ σ p0 = 13) <| bd_ (f_X11_personAt σ p0 p1) fun r1 s2 => oc_ r1 (bd_ (f_X11_refused s2 p0 (1 : Int32)) fun x4 s5 => some (x4, s5)) (fun a3 => bd_ (f_X11_today s2 p0) fun x6 s7 => bd_ (f_X11_within s7 p2 x6 (3650 : Int32)) fun x8 s9 => if x8 = 0 then (bd_ (f_X11_refused s9 p0 (2 : Int32)) fun x10 s11 => some (x10, s11)) else (bd_ (f_X11_staleKinds s9 p0 (some a3) p2) fun x12 s13 => bd_ (f_X11_granted s13 p0 x12) fun x14 s15 => some (x14, s15)))
set_option maxHeartbeats 4000000 in
set_option maxRecDepth 100000 in
theorem c_X11_ages {l : Launch} {D : va_G} {cy : Nat → ClassId} {ka : Nat → Nat} {σ z : TH} {p0 : Nat} {p1 : Int32} {p2 : Int32} {r : Int32} (hf : f_X11_ages σ p0 p1 p2 = some (r, z)) : ct_ l D cy ka yX11_ages 4 85 [va_rf (some p0), .int p1, .int p2] σ (some (.int r)) z := by
  unfold f_X11_ages at hf
  refine v_start (cc := cX11_ages) (own := RX11) (maxL := 4) (ret := (some FieldType.int)) (nm := "ages") (by decide +kernel) kw_630 rfl rfl (by simp [lg_sl, va_rf_cat, cat_i, cat_l]) ?_
  refine v_eqL (L2 := [(0, va_rf (some p0)), (1, .int p1), (2, .int p2)]) (by simp [lv_args, va_rf_cat, cat_i, cat_l]) ?_
  refine v_aload_n (x := (some p0)) dX11_ages_0 rfl 0 rfl ?_
  refine v_iload_n (x := p1) dX11_ages_1 rfl 1 rfl ?_
  obtain ⟨hk_p0, hf⟩ := gt_of hf
  obtain ⟨r1, s2, hcs2, hf⟩ := bd_of hf
  have hts2 := c_X11_personAt (l := l) (D := D) (cy := cy) (ka := ka) hcs2
  refine v_callV cb_12 hk_p0 (As := [.int p1]) (rest := []) hts2 yb_X11_personAt kw_526 kw_528 kp_11 rfl ⟨Nat.le_of_ble_eq_true rfl, Nat.le_of_ble_eq_true rfl⟩ rfl (cat_len (Nat.le_of_ble_eq_true rfl)) dX11_ages_2 ?_
  have hk_p0 := tk_ hts2.1 hk_p0
  show v_ l D cy ka cX11_ages RX11 4 (some FieldType.int) "ages" 4 85 (qf_ D cy σ z (some (.int r))) σ z _ 5 [(0, va_rf (some p0)), (1, .int p1), (2, .int p2)] [va_rf r1]
  refine v_astore_n [(3, va_rf r1), (0, va_rf (some p0)), (1, .int p1), (2, .int p2)] dX11_ages_5 rfl (by decide) rfl ?_
  refine v_aload_n (x := r1) dX11_ages_6 rfl 0 rfl ?_
  refine v_ifnonnull2 (tgt := 16) hf dX11_ages_7 (by decide) (fun e9 hf9 => ?_) (fun a3 e9 hf9 => ?_)
  · subst e9
    replace hf := hf9
    clear hf9
    refine v_aload_n (x := (some p0)) dX11_ages_10 rfl 1 rfl ?_
    refine v_iconst (v := 1) dX11_ages_11 (by decide) ?_
    obtain ⟨x4, s5, hcs5, hf⟩ := bd_of hf
    have hts5 := c_X11_refused (l := l) (D := D) (cy := cy) (ka := ka) hcs5
    refine v_callV cb_12 hk_p0 (As := [.int (1 : Int32)]) (rest := []) hts5 yb_X11_refused kw_307 kw_309 kp_0 rfl ⟨Nat.le_of_ble_eq_true rfl, Nat.le_of_ble_eq_true rfl⟩ rfl (cat_len (Nat.le_of_ble_eq_true rfl)) dX11_ages_12 ?_
    have hk_p0 := tk_ hts5.1 hk_p0
    show v_ l D cy ka cX11_ages RX11 4 (some FieldType.int) "ages" 4 85 (qf_ D cy σ z (some (.int r))) σ z _ 15 [(3, va_rf none), (0, va_rf (some p0)), (1, .int p1), (2, .int p2)] [.int x4]
    exact v_iret hf dX11_ages_15
  · subst e9
    replace hf := hf9
    clear hf9
    refine v_iload_n (x := p2) dX11_ages_16 rfl 3 rfl ?_
    refine v_aload_n (x := (some p0)) dX11_ages_17 rfl 1 rfl ?_
    obtain ⟨x6, s7, hcs7, hf⟩ := bd_of hf
    have hts7 := c_X11_today (l := l) (D := D) (cy := cy) (ka := ka) hcs7
    refine v_callV cb_12 hk_p0 (As := []) (rest := [.int p2]) hts7 yb_X11_today kw_538 kw_540 kp_13 rfl ⟨Nat.le_of_ble_eq_true rfl, Nat.le_of_ble_eq_true rfl⟩ rfl (cat_len (Nat.le_of_ble_eq_true rfl)) dX11_ages_18 ?_
    have hk_p0 := tk_ hts7.1 hk_p0
    show v_ l D cy ka cX11_ages RX11 4 (some FieldType.int) "ages" 4 85 (qf_ D cy σ z (some (.int r))) σ z _ 21 [(3, va_rf (some a3)), (0, va_rf (some p0)), (1, .int p1), (2, .int p2)] [.int x6, .int p2]
    refine v_sipush (v := 3650) dX11_ages_21 (by decide) ?_
    obtain ⟨x8, s9, hcs9, hf⟩ := bd_of hf
    have hts9 := c_X11_within (l := l) (D := D) (cy := cy) (ka := ka) hcs9
    refine v_callS (As := [.int p2, .int x6, .int (3650 : Int32)]) (rest := []) hts9 yb_X11_within kw_304 kw_305 rfl ⟨Nat.le_of_ble_eq_true rfl, Nat.le_of_ble_eq_true rfl⟩ rfl (cat_len (Nat.le_of_ble_eq_true rfl)) dX11_ages_24 ?_
    have hk_p0 := tk_ hts9.1 hk_p0
    show v_ l D cy ka cX11_ages RX11 4 (some FieldType.int) "ages" 4 85 (qf_ D cy σ z (some (.int r))) σ z _ 27 [(3, va_rf (some a3)), (0, va_rf (some p0)), (1, .int p1), (2, .int p2)] [.int x8]
    refine v_if_ne (tgt := 36) hf dX11_ages_27 (by decide) (fun hq hf => ?_) (fun hq hf => ?_)
    · refine v_aload_n (x := (some p0)) dX11_ages_30 rfl 1 rfl ?_
      refine v_iconst (v := 2) dX11_ages_31 (by decide) ?_
      obtain ⟨x10, s11, hcs11, hf⟩ := bd_of hf
      have hts11 := c_X11_refused (l := l) (D := D) (cy := cy) (ka := ka) hcs11
      refine v_callV cb_12 hk_p0 (As := [.int (2 : Int32)]) (rest := []) hts11 yb_X11_refused kw_307 kw_309 kp_0 rfl ⟨Nat.le_of_ble_eq_true rfl, Nat.le_of_ble_eq_true rfl⟩ rfl (cat_len (Nat.le_of_ble_eq_true rfl)) dX11_ages_32 ?_
      have hk_p0 := tk_ hts11.1 hk_p0
      show v_ l D cy ka cX11_ages RX11 4 (some FieldType.int) "ages" 4 85 (qf_ D cy σ z (some (.int r))) σ z _ 35 [(3, va_rf (some a3)), (0, va_rf (some p0)), (1, .int p1), (2, .int p2)] [.int x10]
      exact v_iret hf dX11_ages_35
    · refine v_aload_n (x := (some p0)) dX11_ages_36 rfl 1 rfl ?_
      refine v_aload_n (x := (some p0)) dX11_ages_37 rfl 1 rfl ?_
      refine v_aload_n (x := (some a3)) dX11_ages_38 rfl 0 rfl ?_
      refine v_iload_n (x := p2) dX11_ages_39 rfl 3 rfl ?_
      obtain ⟨x12, s13, hcs13, hf⟩ := bd_of hf
      have hts13 := c_X11_staleKinds (l := l) (D := D) (cy := cy) (ka := ka) hcs13
      refine v_callV cb_12 hk_p0 (As := [va_rf (some a3), .int p2]) (rest := [va_rf (some p0)]) hts13 yb_X11_staleKinds kw_552 kw_554 kp_14 rfl ⟨Nat.le_of_ble_eq_true rfl, Nat.le_of_ble_eq_true rfl⟩ rfl (cat_len (Nat.le_of_ble_eq_true rfl)) dX11_ages_40 ?_
      have hk_p0 := tk_ hts13.1 hk_p0
      show v_ l D cy ka cX11_ages RX11 4 (some FieldType.int) "ages" 4 85 (qf_ D cy σ z (some (.int r))) σ z _ 43 [(3, va_rf (some a3)), (0, va_rf (some p0)), (1, .int p1), (2, .int p2)] [.int x12, va_rf (some p0)]
      obtain ⟨x14, s15, hcs15, hf⟩ := bd_of hf
      have hts15 := c_X11_granted (l := l) (D := D) (cy := cy) (ka := ka) hcs15
      refine v_callV cb_12 hk_p0 (As := [.int x12]) (rest := []) hts15 yb_X11_granted kw_395 kw_397 kp_4 rfl ⟨Nat.le_of_ble_eq_true rfl, Nat.le_of_ble_eq_true rfl⟩ rfl (cat_len (Nat.le_of_ble_eq_true rfl)) dX11_ages_43 ?_
      have hk_p0 := tk_ hts15.1 hk_p0
      show v_ l D cy ka cX11_ages RX11 4 (some FieldType.int) "ages" 4 85 (qf_ D cy σ z (some (.int r))) σ z _ 46 [(3, va_rf (some a3)), (0, va_rf (some p0)), (1, .int p1), (2, .int p2)] [.int x14]
      exact v_iret hf dX11_ages_46
theorem dX11_alike_0 : decode cX11_alike 0 = .ok (.aload_n 0, 1) := by decide +kernel
theorem dX11_alike_1 : decode cX11_alike 1 = .ok (.iload_n 1, 1) := by decide +kernel
theorem dX11_alike_2 : decode cX11_alike 2 = .ok (.invokevirtual 149, 3) := by decide +kernel
theorem dX11_alike_5 : decode cX11_alike 5 = .ok (.astore_n 2, 1) := by decide +kernel
theorem dX11_alike_6 : decode cX11_alike 6 = .ok (.aload_n 2, 1) := by decide +kernel
theorem dX11_alike_7 : decode cX11_alike 7 = .ok (.ifnonnull 5, 3) := by decide +kernel
theorem dX11_alike_10 : decode cX11_alike 10 = .ok (.iconst (-1), 1) := by decide +kernel
theorem dX11_alike_11 : decode cX11_alike 11 = .ok (.ireturn, 1) := by decide +kernel
theorem dX11_alike_12 : decode cX11_alike 12 = .ok (.iconst 0, 1) := by decide +kernel
theorem dX11_alike_13 : decode cX11_alike 13 = .ok (.istore_n 3, 1) := by decide +kernel
theorem dX11_alike_14 : decode cX11_alike 14 = .ok (.iconst 0, 1) := by decide +kernel
theorem dX11_alike_15 : decode cX11_alike 15 = .ok (.istore 4, 2) := by decide +kernel
theorem dX11_alike_17 : decode cX11_alike 17 = .ok (.iload 4, 2) := by decide +kernel
theorem dX11_alike_19 : decode cX11_alike 19 = .ok (.aload_n 0, 1) := by decide +kernel
theorem dX11_alike_20 : decode cX11_alike 20 = .ok (.getfield 16, 3) := by decide +kernel
theorem dX11_alike_23 : decode cX11_alike 23 = .ok (.invokevirtual 101, 3) := by decide +kernel
theorem dX11_alike_26 : decode cX11_alike 26 = .ok (.if_icmp .ge 40, 3) := by decide +kernel
theorem dX11_alike_29 : decode cX11_alike 29 = .ok (.iload 4, 2) := by decide +kernel
theorem dX11_alike_31 : decode cX11_alike 31 = .ok (.iload_n 1, 1) := by decide +kernel
theorem dX11_alike_32 : decode cX11_alike 32 = .ok (.if_icmp .eq 28, 3) := by decide +kernel
theorem dX11_alike_35 : decode cX11_alike 35 = .ok (.aload_n 0, 1) := by decide +kernel
theorem dX11_alike_36 : decode cX11_alike 36 = .ok (.getfield 16, 3) := by decide +kernel
theorem dX11_alike_39 : decode cX11_alike 39 = .ok (.iload 4, 2) := by decide +kernel
theorem dX11_alike_41 : decode cX11_alike 41 = .ok (.invokevirtual 238, 3) := by decide +kernel
theorem dX11_alike_44 : decode cX11_alike 44 = .ok (.checkcast 144, 3) := by decide +kernel
theorem dX11_alike_47 : decode cX11_alike 47 = .ok (.getfield 153, 3) := by decide +kernel
theorem dX11_alike_50 : decode cX11_alike 50 = .ok (.aload_n 2, 1) := by decide +kernel
theorem dX11_alike_51 : decode cX11_alike 51 = .ok (.getfield 153, 3) := by decide +kernel
theorem dX11_alike_54 : decode cX11_alike 54 = .ok (.if_icmp .ne 6, 3) := by decide +kernel
theorem dX11_alike_57 : decode cX11_alike 57 = .ok (.iinc 3 1, 3) := by decide +kernel
theorem dX11_alike_60 : decode cX11_alike 60 = .ok (.iinc 4 1, 3) := by decide +kernel
theorem dX11_alike_63 : decode cX11_alike 63 = .ok (.goto (-46), 3) := by decide +kernel
theorem dX11_alike_66 : decode cX11_alike 66 = .ok (.iload_n 3, 1) := by decide +kernel
theorem dX11_alike_67 : decode cX11_alike 67 = .ok (.ireturn, 1) := by decide +kernel
def f_X11_alike_b60 (rec_17 : TH → Nat → Int32 → Option Nat → Int32 → Int32 → Option (Int32 × TH)) (σ : TH) (l0 : Nat) (l1 : Int32) (l2 : Option Nat) (l3 : Int32) (l4 : Int32) : Option (Int32 × TH) :=
  lt_ (l4 + 1) fun x8 => rec_17 σ l0 l1 l2 l3 x8
set_option maxHeartbeats 4000000 in
set_option maxRecDepth 100000 in
theorem t_X11_alike_b60 {l : Launch} {D : va_G} {cy : Nat → ClassId} {ka : Nat → Nat} {σ0 z : TH} {r : Int32} {rec_17 : TH → Nat → Int32 → Option Nat → Int32 → Int32 → Option (Int32 × TH)} (hrec_17 : ∀ (σ : TH) (l0 : Nat) (l1 : Int32) (l2 : Option Nat) (l3 : Int32) (l4 : Int32), rec_17 σ l0 l1 l2 l3 l4 = some (r, z) → v_ l D cy ka cX11_alike RX11 5 (some FieldType.int) "alike" 4 85 (qf_ D cy σ0 z (some (.int r))) σ0 z σ 17 [(0, va_rf (some l0)), (1, .int l1), (2, va_rf l2), (3, .int l3), (4, .int l4)] []) {σ : TH} {l0 : Nat} {l1 : Int32} {l2 : Option Nat} {l3 : Int32} {l4 : Int32} (hf : f_X11_alike_b60 rec_17 σ l0 l1 l2 l3 l4 = some (r, z)) : v_ l D cy ka cX11_alike RX11 5 (some FieldType.int) "alike" 4 85 (qf_ D cy σ0 z (some (.int r))) σ0 z σ 60 [(0, va_rf (some l0)), (1, .int l1), (2, va_rf l2), (3, .int l3), (4, .int l4)] [] := by
  unfold f_X11_alike_b60 at hf
  obtain ⟨x8, ex8⟩ : ∃ y : Int32, y = l4 + 1 := ⟨_, rfl⟩
  rw [lt_e, ← ex8] at hf
  refine v_iinc (v := x8) [(4, .int x8), (0, va_rf (some l0)), (1, .int l1), (2, va_rf l2), (3, .int l3)] dX11_alike_60 4 rfl (by rw [ex8]; rfl) (by decide) rfl ?_
  refine v_goto (tgt := 17) dX11_alike_63 (by decide) ?_
  refine v_sub [1, 2, 3, 4, 0] (L2 := [(0, va_rf (some l0)), (1, .int l1), (2, va_rf l2), (3, .int l3), (4, .int x8)]) rfl ?_
  exact hrec_17 _ _ _ _ _ _ hf
def f_X11_alike_b17 : Nat → TH → Nat → Int32 → Option Nat → Int32 → Int32 → Option (Int32 × TH)
  | 0, _, _, _, _, _, _ => none
  | n + 1, σ, l0, l1, l2, l3, l4 => gt_ (kd_ σ l0 = 13) <| lt_ (fr_ σ 1201 l0) fun r4 => nn_ r4 fun a5 => gt_ (kd_ σ a5 = 1) <| bd_ (f_Jx4a65c_size_8abf5 σ a5) fun x6 s7 => if x6 ≤ l4 then (some (l3, s7)) else (if l4 = l1 then (f_X11_alike_b60 (f_X11_alike_b17 n) s7 l0 l1 l2 l3 l4) else (lt_ (fr_ s7 1201 l0) fun r9 => nn_ r9 fun a10 => gt_ (kd_ s7 a10 = 1) <| bd_ (f_Jx4a65c_get_915e3 s7 a10 l4) fun r11 s12 => gt_ (Option.elim r11 4 (kd_ s12) = 4) <| nn_ r11 fun a13 => gt_ (kd_ s12 a13 = 4) <| lt_ (fi_ s12 301 a13) fun x14 => nn_ l2 fun a15 => gt_ (kd_ s12 a15 = 4) <| lt_ (fi_ s12 301 a15) fun x16 => if x14 = x16 then (lt_ (l3 + 1) fun x17 => f_X11_alike_b60 (f_X11_alike_b17 n) s12 l0 l1 (some a15) x17 l4) else (f_X11_alike_b60 (f_X11_alike_b17 n) s12 l0 l1 (some a15) l3 l4)))
set_option maxHeartbeats 4000000 in
set_option maxRecDepth 100000 in
theorem t_X11_alike_b17 {l : Launch} {D : va_G} {cy : Nat → ClassId} {ka : Nat → Nat} {σ0 z : TH} {r : Int32}  : ∀ (n : Nat) (σ : TH) (l0 : Nat) (l1 : Int32) (l2 : Option Nat) (l3 : Int32) (l4 : Int32), f_X11_alike_b17 n σ l0 l1 l2 l3 l4 = some (r, z) → v_ l D cy ka cX11_alike RX11 5 (some FieldType.int) "alike" 4 85 (qf_ D cy σ0 z (some (.int r))) σ0 z σ 17 [(0, va_rf (some l0)), (1, .int l1), (2, va_rf l2), (3, .int l3), (4, .int l4)] [] := by
  intro n
  induction n with
  | zero => intro σ l0 l1 l2 l3 l4 hf; unfold f_X11_alike_b17 at hf; cases hf
  | succ n ih =>
    intro σ l0 l1 l2 l3 l4 hf
    unfold f_X11_alike_b17 at hf
    have hrec_17 := ih
    refine v_iload (x := l4) dX11_alike_17 4 rfl ?_
    refine v_aload_n (x := (some l0)) dX11_alike_19 rfl 0 rfl ?_
    obtain ⟨hk_l0, hf⟩ := gt_of hf
    refine v_getr cb_12 hk_l0 1 1201 rfl (by decide) rfl (lk_n kw_240 rfl) hf dX11_alike_20 (fun r4 hf => ?_)
    obtain ⟨a5, rfl, hf⟩ := nn_of hf
    obtain ⟨hk_a5, hf⟩ := gt_of hf
    obtain ⟨x6, s7, hcs7, hf⟩ := bd_of hf
    have hts7 := c_Jx4a65c_size_8abf5 (l := l) (D := D) (cy := cy) (ka := ka) hcs7
    refine v_callV cb_0 hk_a5 (As := []) (rest := [.int l4]) hts7 yb_Jx4a65c_size_8abf5 kw_311 kw_312 kw_313 rfl ⟨Nat.le_of_ble_eq_true rfl, Nat.le_of_ble_eq_true rfl⟩ rfl (cat_len (Nat.le_of_ble_eq_true rfl)) dX11_alike_23 ?_
    have hk_l0 := tk_ hts7.1 hk_l0
    show v_ l D cy ka cX11_alike RX11 5 (some FieldType.int) "alike" 4 85 (qf_ D cy σ0 z (some (.int r))) σ0 z _ 26 [(0, va_rf (some l0)), (1, .int l1), (2, va_rf l2), (3, .int l3), (4, .int l4)] [.int x6, .int l4]
    refine v_icmp_ge (tgt := 66) hf dX11_alike_26 (by decide) (fun hq hf => ?_) (fun hq hf => ?_)
    · refine v_iload_n (x := l3) dX11_alike_66 rfl 3 rfl ?_
      exact v_iret hf dX11_alike_67
    · refine v_iload (x := l4) dX11_alike_29 4 rfl ?_
      refine v_iload_n (x := l1) dX11_alike_31 rfl 1 rfl ?_
      refine v_icmp_eq (tgt := 60) hf dX11_alike_32 (by decide) (fun hq hf => ?_) (fun hq hf => ?_)
      · refine v_sub [0, 1, 2, 3, 4] (L2 := [(0, va_rf (some l0)), (1, .int l1), (2, va_rf l2), (3, .int l3), (4, .int l4)]) rfl ?_
        exact t_X11_alike_b60 hrec_17 hf
      · refine v_aload_n (x := (some l0)) dX11_alike_35 rfl 0 rfl ?_
        refine v_getr cb_12 hk_l0 1 1201 rfl (by decide) rfl (lk_n kw_240 rfl) hf dX11_alike_36 (fun r9 hf => ?_)
        refine v_iload (x := l4) dX11_alike_39 4 rfl ?_
        obtain ⟨a10, rfl, hf⟩ := nn_of hf
        obtain ⟨hk_a10, hf⟩ := gt_of hf
        obtain ⟨r11, s12, hcs12, hf⟩ := bd_of hf
        have hts12 := c_Jx4a65c_get_915e3 (l := l) (D := D) (cy := cy) (ka := ka) hcs12
        refine v_callV cb_0 hk_a10 (As := [.int l4]) (rest := []) hts12 yb_Jx4a65c_get_915e3 kw_407 kw_408 kw_409 rfl ⟨Nat.le_of_ble_eq_true rfl, Nat.le_of_ble_eq_true rfl⟩ rfl (cat_len (Nat.le_of_ble_eq_true rfl)) dX11_alike_41 ?_
        have hk_l0 := tk_ hts12.1 hk_l0
        show v_ l D cy ka cX11_alike RX11 5 (some FieldType.int) "alike" 4 85 (qf_ D cy σ0 z (some (.int r))) σ0 z _ 44 [(0, va_rf (some l0)), (1, .int l1), (2, va_rf l2), (3, .int l3), (4, .int l4)] [va_rf r11]
        refine v_cast cb_3 4 rfl kw_441 hf dX11_alike_44 (fun hf => ?_)
        obtain ⟨a13, rfl, hf⟩ := nn_of hf
        obtain ⟨hk_a13, hf⟩ := gt_of hf
        refine v_geti cb_3 hk_a13 1 301 rfl (by decide) rfl (lk_n kw_467 rfl) hf dX11_alike_47 (fun x14 hf => ?_)
        refine v_aload_n (x := l2) dX11_alike_50 rfl 2 rfl ?_
        obtain ⟨a15, rfl, hf⟩ := nn_of hf
        obtain ⟨hk_a15, hf⟩ := gt_of hf
        refine v_geti cb_3 hk_a15 1 301 rfl (by decide) rfl (lk_n kw_467 rfl) hf dX11_alike_51 (fun x16 hf => ?_)
        refine v_icmp_ne (tgt := 60) hf dX11_alike_54 (by decide) (fun hq hf => ?_) (fun hq hf => ?_)
        · obtain ⟨x17, ex17⟩ : ∃ y : Int32, y = l3 + 1 := ⟨_, rfl⟩
          rw [lt_e, ← ex17] at hf
          refine v_iinc (v := x17) [(3, .int x17), (0, va_rf (some l0)), (1, .int l1), (2, va_rf (some a15)), (4, .int l4)] dX11_alike_57 3 rfl (by rw [ex17]; rfl) (by decide) rfl ?_
          refine v_sub [1, 2, 3, 0, 4] (L2 := [(0, va_rf (some l0)), (1, .int l1), (2, va_rf (some a15)), (3, .int x17), (4, .int l4)]) rfl ?_
          exact t_X11_alike_b60 hrec_17 hf
        · refine v_sub [0, 1, 2, 3, 4] (L2 := [(0, va_rf (some l0)), (1, .int l1), (2, va_rf (some a15)), (3, .int l3), (4, .int l4)]) rfl ?_
          exact t_X11_alike_b60 hrec_17 hf
/-- LivesAhead.alike(I)I -/
def f_X11_alike (σ : TH) (p0 : Nat) (p1 : Int32) : Option (Int32 × TH) :=
  gt_ (kd_ σ p0 = 13) <| bd_ (f_X11_personAt σ p0 p1) fun r1 s2 => oc_ r1 (some ((-1 : Int32), s2)) (fun a3 => f_X11_alike_b17 fu_ s2 p0 p1 (some a3) (0 : Int32) (0 : Int32))
set_option maxHeartbeats 4000000 in
set_option maxRecDepth 100000 in
theorem c_X11_alike {l : Launch} {D : va_G} {cy : Nat → ClassId} {ka : Nat → Nat} {σ z : TH} {p0 : Nat} {p1 : Int32} {r : Int32} (hf : f_X11_alike σ p0 p1 = some (r, z)) : ct_ l D cy ka yX11_alike 4 85 [va_rf (some p0), .int p1] σ (some (.int r)) z := by
  unfold f_X11_alike at hf
  refine v_start (cc := cX11_alike) (own := RX11) (maxL := 5) (ret := (some FieldType.int)) (nm := "alike") (by decide +kernel) kw_634 rfl rfl (by simp [lg_sl, va_rf_cat, cat_i, cat_l]) ?_
  refine v_eqL (L2 := [(0, va_rf (some p0)), (1, .int p1)]) (by simp [lv_args, va_rf_cat, cat_i, cat_l]) ?_
  refine v_aload_n (x := (some p0)) dX11_alike_0 rfl 0 rfl ?_
  refine v_iload_n (x := p1) dX11_alike_1 rfl 1 rfl ?_
  obtain ⟨hk_p0, hf⟩ := gt_of hf
  obtain ⟨r1, s2, hcs2, hf⟩ := bd_of hf
  have hts2 := c_X11_personAt (l := l) (D := D) (cy := cy) (ka := ka) hcs2
  refine v_callV cb_12 hk_p0 (As := [.int p1]) (rest := []) hts2 yb_X11_personAt kw_526 kw_528 kp_11 rfl ⟨Nat.le_of_ble_eq_true rfl, Nat.le_of_ble_eq_true rfl⟩ rfl (cat_len (Nat.le_of_ble_eq_true rfl)) dX11_alike_2 ?_
  have hk_p0 := tk_ hts2.1 hk_p0
  show v_ l D cy ka cX11_alike RX11 5 (some FieldType.int) "alike" 4 85 (qf_ D cy σ z (some (.int r))) σ z _ 5 [(0, va_rf (some p0)), (1, .int p1)] [va_rf r1]
  refine v_astore_n [(2, va_rf r1), (0, va_rf (some p0)), (1, .int p1)] dX11_alike_5 rfl (by decide) rfl ?_
  refine v_aload_n (x := r1) dX11_alike_6 rfl 0 rfl ?_
  refine v_ifnonnull2 (tgt := 12) hf dX11_alike_7 (by decide) (fun e9 hf9 => ?_) (fun a3 e9 hf9 => ?_)
  · subst e9
    replace hf := hf9
    clear hf9
    refine v_iconst (v := (-1)) dX11_alike_10 (by decide) ?_
    exact v_iret hf dX11_alike_11
  · subst e9
    replace hf := hf9
    clear hf9
    refine v_iconst (v := 0) dX11_alike_12 (by decide) ?_
    refine v_istore_n [(3, .int (0 : Int32)), (2, va_rf (some a3)), (0, va_rf (some p0)), (1, .int p1)] dX11_alike_13 rfl (by decide) rfl ?_
    refine v_iconst (v := 0) dX11_alike_14 (by decide) ?_
    refine v_istore [(4, .int (0 : Int32)), (3, .int (0 : Int32)), (2, va_rf (some a3)), (0, va_rf (some p0)), (1, .int p1)] dX11_alike_15 (by decide) rfl ?_
    refine v_sub [3, 4, 2, 1, 0] (L2 := [(0, va_rf (some p0)), (1, .int p1), (2, va_rf (some a3)), (3, .int (0 : Int32)), (4, .int (0 : Int32))]) rfl ?_
    exact t_X11_alike_b17  _ _ _ _ _ _ _ hf
theorem dX11_answer_0 : decode cX11_answer 0 = .ok (.iload_n 1, 1) := by decide +kernel
theorem dX11_answer_1 : decode cX11_answer 1 = .ok (.iconst 0, 1) := by decide +kernel
theorem dX11_answer_2 : decode cX11_answer 2 = .ok (.aload_n 0, 1) := by decide +kernel
theorem dX11_answer_3 : decode cX11_answer 3 = .ok (.getfield 28, 3) := by decide +kernel
theorem dX11_answer_6 : decode cX11_answer 6 = .ok (.invokevirtual 101, 3) := by decide +kernel
theorem dX11_answer_9 : decode cX11_answer 9 = .ok (.iconst 1, 1) := by decide +kernel
theorem dX11_answer_10 : decode cX11_answer 10 = .ok (.isub, 1) := by decide +kernel
theorem dX11_answer_11 : decode cX11_answer 11 = .ok (.invokestatic 93, 3) := by decide +kernel
theorem dX11_answer_14 : decode cX11_answer 14 = .ok (.ifCond .ne 9, 3) := by decide +kernel
theorem dX11_answer_17 : decode cX11_answer 17 = .ok (.aload_n 0, 1) := by decide +kernel
theorem dX11_answer_18 : decode cX11_answer 18 = .ok (.iconst 1, 1) := by decide +kernel
theorem dX11_answer_19 : decode cX11_answer 19 = .ok (.invokevirtual 97, 3) := by decide +kernel
theorem dX11_answer_22 : decode cX11_answer 22 = .ok (.ireturn, 1) := by decide +kernel
theorem dX11_answer_23 : decode cX11_answer 23 = .ok (.iload_n 2, 1) := by decide +kernel
theorem dX11_answer_24 : decode cX11_answer 24 = .ok (.iconst 1, 1) := by decide +kernel
theorem dX11_answer_25 : decode cX11_answer 25 = .ok (.sipush 400, 3) := by decide +kernel
theorem dX11_answer_28 : decode cX11_answer 28 = .ok (.invokestatic 93, 3) := by decide +kernel
theorem dX11_answer_31 : decode cX11_answer 31 = .ok (.ifCond .ne 9, 3) := by decide +kernel
theorem dX11_answer_34 : decode cX11_answer 34 = .ok (.aload_n 0, 1) := by decide +kernel
theorem dX11_answer_35 : decode cX11_answer 35 = .ok (.iconst 2, 1) := by decide +kernel
theorem dX11_answer_36 : decode cX11_answer 36 = .ok (.invokevirtual 97, 3) := by decide +kernel
theorem dX11_answer_39 : decode cX11_answer 39 = .ok (.ireturn, 1) := by decide +kernel
theorem dX11_answer_40 : decode cX11_answer 40 = .ok (.aload_n 0, 1) := by decide +kernel
theorem dX11_answer_41 : decode cX11_answer 41 = .ok (.getfield 28, 3) := by decide +kernel
theorem dX11_answer_44 : decode cX11_answer 44 = .ok (.iload_n 1, 1) := by decide +kernel
theorem dX11_answer_45 : decode cX11_answer 45 = .ok (.invokevirtual 238, 3) := by decide +kernel
theorem dX11_answer_48 : decode cX11_answer 48 = .ok (.checkcast 365, 3) := by decide +kernel
theorem dX11_answer_51 : decode cX11_answer 51 = .ok (.astore_n 3, 1) := by decide +kernel
theorem dX11_answer_52 : decode cX11_answer 52 = .ok (.aload_n 3, 1) := by decide +kernel
theorem dX11_answer_53 : decode cX11_answer 53 = .ok (.getfield 370, 3) := by decide +kernel
theorem dX11_answer_56 : decode cX11_answer 56 = .ok (.ifCond .le 9, 3) := by decide +kernel
theorem dX11_answer_59 : decode cX11_answer 59 = .ok (.aload_n 0, 1) := by decide +kernel
theorem dX11_answer_60 : decode cX11_answer 60 = .ok (.iconst 5, 1) := by decide +kernel
theorem dX11_answer_61 : decode cX11_answer 61 = .ok (.invokevirtual 97, 3) := by decide +kernel
theorem dX11_answer_64 : decode cX11_answer 64 = .ok (.ireturn, 1) := by decide +kernel
theorem dX11_answer_65 : decode cX11_answer 65 = .ok (.aload_n 3, 1) := by decide +kernel
theorem dX11_answer_66 : decode cX11_answer 66 = .ok (.iload_n 2, 1) := by decide +kernel
theorem dX11_answer_67 : decode cX11_answer 67 = .ok (.putfield 370, 3) := by decide +kernel
theorem dX11_answer_70 : decode cX11_answer 70 = .ok (.aload_n 3, 1) := by decide +kernel
theorem dX11_answer_71 : decode cX11_answer 71 = .ok (.aload_n 0, 1) := by decide +kernel
theorem dX11_answer_72 : decode cX11_answer 72 = .ok (.getfield 66, 3) := by decide +kernel
theorem dX11_answer_75 : decode cX11_answer 75 = .ok (.aload_n 3, 1) := by decide +kernel
theorem dX11_answer_76 : decode cX11_answer 76 = .ok (.getfield 372, 3) := by decide +kernel
theorem dX11_answer_79 : decode cX11_answer 79 = .ok (.if_icmp .gt 7, 3) := by decide +kernel
theorem dX11_answer_82 : decode cX11_answer 82 = .ok (.iconst 1, 1) := by decide +kernel
theorem dX11_answer_83 : decode cX11_answer 83 = .ok (.goto 4, 3) := by decide +kernel
theorem dX11_answer_86 : decode cX11_answer 86 = .ok (.iconst 0, 1) := by decide +kernel
theorem dX11_answer_87 : decode cX11_answer 87 = .ok (.putfield 375, 3) := by decide +kernel
theorem dX11_answer_90 : decode cX11_answer 90 = .ok (.aload_n 0, 1) := by decide +kernel
theorem dX11_answer_91 : decode cX11_answer 91 = .ok (.aload_n 3, 1) := by decide +kernel
theorem dX11_answer_92 : decode cX11_answer 92 = .ok (.getfield 375, 3) := by decide +kernel
theorem dX11_answer_95 : decode cX11_answer 95 = .ok (.invokestatic 169, 3) := by decide +kernel
theorem dX11_answer_98 : decode cX11_answer 98 = .ok (.invokevirtual 114, 3) := by decide +kernel
theorem dX11_answer_101 : decode cX11_answer 101 = .ok (.ireturn, 1) := by decide +kernel
def f_X11_answer_b87 (σ : TH) (l0 : Nat) (l3 : Option Nat) (t0 : Int32) (t1 : Option Nat) : Option (Int32 × TH) :=
  nn_ t1 fun a22 => gt_ (kd_ σ a22 = 7) <| gt_ (t0 = 0 ∨ t0 = 1) <| lt_ (si_ σ 603 a22 t0) fun s23 => nn_ l3 fun a24 => gt_ (kd_ s23 a24 = 7) <| lt_ (fi_ s23 603 a24) fun x25 => bd_ (f_X11_asNumber s23 x25) fun x26 s27 => gt_ (kd_ s27 l0 = 13) <| bd_ (f_X11_granted s27 l0 x26) fun x28 s29 => some (x28, s29)
set_option maxHeartbeats 4000000 in
set_option maxRecDepth 100000 in
theorem t_X11_answer_b87 {l : Launch} {D : va_G} {cy : Nat → ClassId} {ka : Nat → Nat} {σ0 z : TH} {r : Int32}  {σ : TH} {l0 : Nat} {l3 : Option Nat} {t0 : Int32} {t1 : Option Nat} (hf : f_X11_answer_b87 σ l0 l3 t0 t1 = some (r, z)) : v_ l D cy ka cX11_answer RX11 4 (some FieldType.int) "answer" 3 64 (qf_ D cy σ0 z (some (.int r))) σ0 z σ 87 [(0, va_rf (some l0)), (3, va_rf l3)] [.int t0, va_rf t1] := by
  unfold f_X11_answer_b87 at hf
  obtain ⟨a22, rfl, hf⟩ := nn_of hf
  obtain ⟨hk_a22, hf⟩ := gt_of hf
  obtain ⟨hbs23, hf⟩ := gt_of hf
  refine v_puti2 cb_6 hk_a22 3 603 rfl (by decide) rfl (lk_n kw_1150 rfl) (Or.inl rfl) (nz_ hbs23) (fz_ hbs23) hf dX11_answer_87 (fun s23 hts23 hf => ?_)
  refine v_aload_n (x := (some l0)) dX11_answer_90 rfl 0 rfl ?_
  refine v_aload_n (x := l3) dX11_answer_91 rfl 1 rfl ?_
  obtain ⟨a24, rfl, hf⟩ := nn_of hf
  obtain ⟨hk_a24, hf⟩ := gt_of hf
  refine v_geti cb_6 hk_a24 3 603 rfl (by decide) rfl (lk_n kw_1150 rfl) hf dX11_answer_92 (fun x25 hf => ?_)
  obtain ⟨x26, s27, hcs27, hf⟩ := bd_of hf
  have hts27 := c_X11_asNumber (l := l) (D := D) (cy := cy) (ka := ka) hcs27
  refine v_callS (As := [.int x25]) (rest := [va_rf (some l0)]) hts27 yb_X11_asNumber kw_442 kw_443 rfl ⟨Nat.le_of_ble_eq_true rfl, Nat.le_of_ble_eq_true rfl⟩ rfl (cat_len (Nat.le_of_ble_eq_true rfl)) dX11_answer_95 ?_
  have hk_a24 := tk_ hts27.1 hk_a24
  show v_ l D cy ka cX11_answer RX11 4 (some FieldType.int) "answer" 3 64 (qf_ D cy σ0 z (some (.int r))) σ0 z _ 98 [(0, va_rf (some l0)), (3, va_rf (some a24))] [.int x26, va_rf (some l0)]
  obtain ⟨hk_l0, hf⟩ := gt_of hf
  obtain ⟨x28, s29, hcs29, hf⟩ := bd_of hf
  have hts29 := c_X11_granted (l := l) (D := D) (cy := cy) (ka := ka) hcs29
  refine v_callV cb_12 hk_l0 (As := [.int x26]) (rest := []) hts29 yb_X11_granted kw_395 kw_397 kp_4 rfl ⟨Nat.le_of_ble_eq_true rfl, Nat.le_of_ble_eq_true rfl⟩ rfl (cat_len (Nat.le_of_ble_eq_true rfl)) dX11_answer_98 ?_
  have hk_a24 := tk_ hts29.1 hk_a24
  have hk_l0 := tk_ hts29.1 hk_l0
  show v_ l D cy ka cX11_answer RX11 4 (some FieldType.int) "answer" 3 64 (qf_ D cy σ0 z (some (.int r))) σ0 z _ 101 [(0, va_rf (some l0)), (3, va_rf (some a24))] [.int x28]
  exact v_iret hf dX11_answer_101
/-- LivesAhead.answer(II)I -/
def f_X11_answer (σ : TH) (p0 : Nat) (p1 : Int32) (p2 : Int32) : Option (Int32 × TH) :=
  gt_ (kd_ σ p0 = 13) <| lt_ (fr_ σ 1205 p0) fun r1 => nn_ r1 fun a2 => gt_ (kd_ σ a2 = 1) <| bd_ (f_Jx4a65c_size_8abf5 σ a2) fun x3 s4 => bd_ (f_X11_within s4 p1 (0 : Int32) (x3 - (1 : Int32))) fun x5 s6 => if x5 = 0 then (bd_ (f_X11_refused s6 p0 (1 : Int32)) fun x7 s8 => some (x7, s8)) else (bd_ (f_X11_within s6 p2 (1 : Int32) (400 : Int32)) fun x9 s10 => if x9 = 0 then (bd_ (f_X11_refused s10 p0 (2 : Int32)) fun x11 s12 => some (x11, s12)) else (lt_ (fr_ s10 1205 p0) fun r13 => nn_ r13 fun a14 => gt_ (kd_ s10 a14 = 1) <| bd_ (f_Jx4a65c_get_915e3 s10 a14 p1) fun r15 s16 => gt_ (Option.elim r15 7 (kd_ s16) = 7) <| nn_ r15 fun a17 => gt_ (kd_ s16 a17 = 7) <| lt_ (fi_ s16 602 a17) fun x18 => if x18 ≤ 0 then (lt_ (si_ s16 602 a17 p2) fun s19 => lt_ (fi_ s19 1213 p0) fun x20 => lt_ (fi_ s19 601 a17) fun x21 => if x21 < x20 then (f_X11_answer_b87 s19 p0 (some a17) (0 : Int32) (some a17)) else (f_X11_answer_b87 s19 p0 (some a17) (1 : Int32) (some a17))) else (bd_ (f_X11_refused s16 p0 (5 : Int32)) fun x30 s31 => some (x30, s31))))
set_option maxHeartbeats 4000000 in
set_option maxRecDepth 100000 in
theorem c_X11_answer {l : Launch} {D : va_G} {cy : Nat → ClassId} {ka : Nat → Nat} {σ z : TH} {p0 : Nat} {p1 : Int32} {p2 : Int32} {r : Int32} (hf : f_X11_answer σ p0 p1 p2 = some (r, z)) : ct_ l D cy ka yX11_answer 3 64 [va_rf (some p0), .int p1, .int p2] σ (some (.int r)) z := by
  unfold f_X11_answer at hf
  refine v_start (cc := cX11_answer) (own := RX11) (maxL := 4) (ret := (some FieldType.int)) (nm := "answer") (by decide +kernel) kw_1163 rfl rfl (by simp [lg_sl, va_rf_cat, cat_i, cat_l]) ?_
  refine v_eqL (L2 := [(0, va_rf (some p0)), (1, .int p1), (2, .int p2)]) (by simp [lv_args, va_rf_cat, cat_i, cat_l]) ?_
  refine v_iload_n (x := p1) dX11_answer_0 rfl 1 rfl ?_
  refine v_iconst (v := 0) dX11_answer_1 (by decide) ?_
  refine v_aload_n (x := (some p0)) dX11_answer_2 rfl 0 rfl ?_
  obtain ⟨hk_p0, hf⟩ := gt_of hf
  refine v_getr cb_12 hk_p0 5 1205 rfl (by decide) rfl (lk_n kw_244 rfl) hf dX11_answer_3 (fun r1 hf => ?_)
  obtain ⟨a2, rfl, hf⟩ := nn_of hf
  obtain ⟨hk_a2, hf⟩ := gt_of hf
  obtain ⟨x3, s4, hcs4, hf⟩ := bd_of hf
  have hts4 := c_Jx4a65c_size_8abf5 (l := l) (D := D) (cy := cy) (ka := ka) hcs4
  refine v_callV cb_0 hk_a2 (As := []) (rest := [.int (0 : Int32), .int p1]) hts4 yb_Jx4a65c_size_8abf5 kw_311 kw_312 kw_313 rfl ⟨Nat.le_of_ble_eq_true rfl, Nat.le_of_ble_eq_true rfl⟩ rfl (cat_len (Nat.le_of_ble_eq_true rfl)) dX11_answer_6 ?_
  have hk_p0 := tk_ hts4.1 hk_p0
  show v_ l D cy ka cX11_answer RX11 4 (some FieldType.int) "answer" 3 64 (qf_ D cy σ z (some (.int r))) σ z _ 9 [(0, va_rf (some p0)), (1, .int p1), (2, .int p2)] [.int x3, .int (0 : Int32), .int p1]
  refine v_iconst (v := 1) dX11_answer_9 (by decide) ?_
  refine v_isub dX11_answer_10 ?_
  obtain ⟨x5, s6, hcs6, hf⟩ := bd_of hf
  have hts6 := c_X11_within (l := l) (D := D) (cy := cy) (ka := ka) hcs6
  refine v_callS (As := [.int p1, .int (0 : Int32), .int (x3 - (1 : Int32))]) (rest := []) hts6 yb_X11_within kw_304 kw_305 rfl ⟨Nat.le_of_ble_eq_true rfl, Nat.le_of_ble_eq_true rfl⟩ rfl (cat_len (Nat.le_of_ble_eq_true rfl)) dX11_answer_11 ?_
  have hk_p0 := tk_ hts6.1 hk_p0
  show v_ l D cy ka cX11_answer RX11 4 (some FieldType.int) "answer" 3 64 (qf_ D cy σ z (some (.int r))) σ z _ 14 [(0, va_rf (some p0)), (1, .int p1), (2, .int p2)] [.int x5]
  refine v_if_ne (tgt := 23) hf dX11_answer_14 (by decide) (fun hq hf => ?_) (fun hq hf => ?_)
  · refine v_aload_n (x := (some p0)) dX11_answer_17 rfl 0 rfl ?_
    refine v_iconst (v := 1) dX11_answer_18 (by decide) ?_
    obtain ⟨x7, s8, hcs8, hf⟩ := bd_of hf
    have hts8 := c_X11_refused (l := l) (D := D) (cy := cy) (ka := ka) hcs8
    refine v_callV cb_12 hk_p0 (As := [.int (1 : Int32)]) (rest := []) hts8 yb_X11_refused kw_307 kw_309 kp_0 rfl ⟨Nat.le_of_ble_eq_true rfl, Nat.le_of_ble_eq_true rfl⟩ rfl (cat_len (Nat.le_of_ble_eq_true rfl)) dX11_answer_19 ?_
    have hk_p0 := tk_ hts8.1 hk_p0
    show v_ l D cy ka cX11_answer RX11 4 (some FieldType.int) "answer" 3 64 (qf_ D cy σ z (some (.int r))) σ z _ 22 [(0, va_rf (some p0)), (1, .int p1), (2, .int p2)] [.int x7]
    exact v_iret hf dX11_answer_22
  · refine v_iload_n (x := p2) dX11_answer_23 rfl 2 rfl ?_
    refine v_iconst (v := 1) dX11_answer_24 (by decide) ?_
    refine v_sipush (v := 400) dX11_answer_25 (by decide) ?_
    obtain ⟨x9, s10, hcs10, hf⟩ := bd_of hf
    have hts10 := c_X11_within (l := l) (D := D) (cy := cy) (ka := ka) hcs10
    refine v_callS (As := [.int p2, .int (1 : Int32), .int (400 : Int32)]) (rest := []) hts10 yb_X11_within kw_304 kw_305 rfl ⟨Nat.le_of_ble_eq_true rfl, Nat.le_of_ble_eq_true rfl⟩ rfl (cat_len (Nat.le_of_ble_eq_true rfl)) dX11_answer_28 ?_
    have hk_p0 := tk_ hts10.1 hk_p0
    show v_ l D cy ka cX11_answer RX11 4 (some FieldType.int) "answer" 3 64 (qf_ D cy σ z (some (.int r))) σ z _ 31 [(0, va_rf (some p0)), (1, .int p1), (2, .int p2)] [.int x9]
    refine v_if_ne (tgt := 40) hf dX11_answer_31 (by decide) (fun hq hf => ?_) (fun hq hf => ?_)
    · refine v_aload_n (x := (some p0)) dX11_answer_34 rfl 0 rfl ?_
      refine v_iconst (v := 2) dX11_answer_35 (by decide) ?_
      obtain ⟨x11, s12, hcs12, hf⟩ := bd_of hf
      have hts12 := c_X11_refused (l := l) (D := D) (cy := cy) (ka := ka) hcs12
      refine v_callV cb_12 hk_p0 (As := [.int (2 : Int32)]) (rest := []) hts12 yb_X11_refused kw_307 kw_309 kp_0 rfl ⟨Nat.le_of_ble_eq_true rfl, Nat.le_of_ble_eq_true rfl⟩ rfl (cat_len (Nat.le_of_ble_eq_true rfl)) dX11_answer_36 ?_
      have hk_p0 := tk_ hts12.1 hk_p0
      show v_ l D cy ka cX11_answer RX11 4 (some FieldType.int) "answer" 3 64 (qf_ D cy σ z (some (.int r))) σ z _ 39 [(0, va_rf (some p0)), (1, .int p1), (2, .int p2)] [.int x11]
      exact v_iret hf dX11_answer_39
    · refine v_aload_n (x := (some p0)) dX11_answer_40 rfl 0 rfl ?_
      refine v_getr cb_12 hk_p0 5 1205 rfl (by decide) rfl (lk_n kw_244 rfl) hf dX11_answer_41 (fun r13 hf => ?_)
      refine v_iload_n (x := p1) dX11_answer_44 rfl 1 rfl ?_
      obtain ⟨a14, rfl, hf⟩ := nn_of hf
      obtain ⟨hk_a14, hf⟩ := gt_of hf
      obtain ⟨r15, s16, hcs16, hf⟩ := bd_of hf
      have hts16 := c_Jx4a65c_get_915e3 (l := l) (D := D) (cy := cy) (ka := ka) hcs16
      refine v_callV cb_0 hk_a14 (As := [.int p1]) (rest := []) hts16 yb_Jx4a65c_get_915e3 kw_407 kw_408 kw_409 rfl ⟨Nat.le_of_ble_eq_true rfl, Nat.le_of_ble_eq_true rfl⟩ rfl (cat_len (Nat.le_of_ble_eq_true rfl)) dX11_answer_45 ?_
      have hk_p0 := tk_ hts16.1 hk_p0
      show v_ l D cy ka cX11_answer RX11 4 (some FieldType.int) "answer" 3 64 (qf_ D cy σ z (some (.int r))) σ z _ 48 [(0, va_rf (some p0)), (1, .int p1), (2, .int p2)] [va_rf r15]
      refine v_cast cb_6 7 rfl kw_1137 hf dX11_answer_48 (fun hf => ?_)
      refine v_astore_n [(3, va_rf r15), (0, va_rf (some p0)), (1, .int p1), (2, .int p2)] dX11_answer_51 rfl (by decide) rfl ?_
      refine v_aload_n (x := r15) dX11_answer_52 rfl 0 rfl ?_
      obtain ⟨a17, rfl, hf⟩ := nn_of hf
      obtain ⟨hk_a17, hf⟩ := gt_of hf
      refine v_geti cb_6 hk_a17 2 602 rfl (by decide) rfl (lk_n kw_1148 rfl) hf dX11_answer_53 (fun x18 hf => ?_)
      refine v_if_le (tgt := 65) hf dX11_answer_56 (by decide) (fun hq hf => ?_) (fun hq hf => ?_)
      · refine v_aload_n (x := (some a17)) dX11_answer_65 rfl 0 rfl ?_
        refine v_iload_n (x := p2) dX11_answer_66 rfl 3 rfl ?_
        refine v_puti2 cb_6 hk_a17 2 602 rfl (by decide) rfl (lk_n kw_1148 rfl) (Or.inl rfl) rfl rfl hf dX11_answer_67 (fun s19 hts19 hf => ?_)
        have hk_p0 := tk_ hts19 hk_p0
        have hk_a17 := tk_ hts19 hk_a17
        refine v_aload_n (x := (some a17)) dX11_answer_70 rfl 0 rfl ?_
        refine v_aload_n (x := (some p0)) dX11_answer_71 rfl 1 rfl ?_
        refine v_geti cb_12 hk_p0 13 1213 rfl (by decide) rfl (lk_n kw_252 rfl) hf dX11_answer_72 (fun x20 hf => ?_)
        refine v_aload_n (x := (some a17)) dX11_answer_75 rfl 0 rfl ?_
        refine v_geti cb_6 hk_a17 1 601 rfl (by decide) rfl (lk_n kw_1146 rfl) hf dX11_answer_76 (fun x21 hf => ?_)
        refine v_icmp_gt (tgt := 86) hf dX11_answer_79 (by decide) (fun hq hf => ?_) (fun hq hf => ?_)
        · refine v_iconst (v := 0) dX11_answer_86 (by decide) ?_
          refine v_sub [1, 0] (L2 := [(0, va_rf (some p0)), (3, va_rf (some a17))]) rfl ?_
          exact t_X11_answer_b87  hf
        · refine v_iconst (v := 1) dX11_answer_82 (by decide) ?_
          refine v_goto (tgt := 87) dX11_answer_83 (by decide) ?_
          refine v_sub [1, 0] (L2 := [(0, va_rf (some p0)), (3, va_rf (some a17))]) rfl ?_
          exact t_X11_answer_b87  hf
      · refine v_aload_n (x := (some p0)) dX11_answer_59 rfl 1 rfl ?_
        refine v_iconst (v := 5) dX11_answer_60 (by decide) ?_
        obtain ⟨x30, s31, hcs31, hf⟩ := bd_of hf
        have hts31 := c_X11_refused (l := l) (D := D) (cy := cy) (ka := ka) hcs31
        refine v_callV cb_12 hk_p0 (As := [.int (5 : Int32)]) (rest := []) hts31 yb_X11_refused kw_307 kw_309 kp_0 rfl ⟨Nat.le_of_ble_eq_true rfl, Nat.le_of_ble_eq_true rfl⟩ rfl (cat_len (Nat.le_of_ble_eq_true rfl)) dX11_answer_61 ?_
        have hk_p0 := tk_ hts31.1 hk_p0
        have hk_a17 := tk_ hts31.1 hk_a17
        show v_ l D cy ka cX11_answer RX11 4 (some FieldType.int) "answer" 3 64 (qf_ D cy σ z (some (.int r))) σ z _ 64 [(3, va_rf (some a17)), (0, va_rf (some p0)), (1, .int p1), (2, .int p2)] [.int x30]
        exact v_iret hf dX11_answer_64
theorem dX11_apart_0 : decode cX11_apart 0 = .ok (.aload_n 0, 1) := by decide +kernel
theorem dX11_apart_1 : decode cX11_apart 1 = .ok (.iload_n 1, 1) := by decide +kernel
theorem dX11_apart_2 : decode cX11_apart 2 = .ok (.invokevirtual 149, 3) := by decide +kernel
theorem dX11_apart_5 : decode cX11_apart 5 = .ok (.astore_n 3, 1) := by decide +kernel
theorem dX11_apart_6 : decode cX11_apart 6 = .ok (.aload_n 0, 1) := by decide +kernel
theorem dX11_apart_7 : decode cX11_apart 7 = .ok (.iload_n 2, 1) := by decide +kernel
theorem dX11_apart_8 : decode cX11_apart 8 = .ok (.invokevirtual 149, 3) := by decide +kernel
theorem dX11_apart_11 : decode cX11_apart 11 = .ok (.astore 4, 2) := by decide +kernel
theorem dX11_apart_13 : decode cX11_apart 13 = .ok (.aload_n 3, 1) := by decide +kernel
theorem dX11_apart_14 : decode cX11_apart 14 = .ok (.ifnull 8, 3) := by decide +kernel
theorem dX11_apart_17 : decode cX11_apart 17 = .ok (.aload 4, 2) := by decide +kernel
theorem dX11_apart_19 : decode cX11_apart 19 = .ok (.ifnonnull 5, 3) := by decide +kernel
theorem dX11_apart_22 : decode cX11_apart 22 = .ok (.iconst (-1), 1) := by decide +kernel
theorem dX11_apart_23 : decode cX11_apart 23 = .ok (.ireturn, 1) := by decide +kernel
theorem dX11_apart_24 : decode cX11_apart 24 = .ok (.iconst 0, 1) := by decide +kernel
theorem dX11_apart_25 : decode cX11_apart 25 = .ok (.istore 5, 2) := by decide +kernel
theorem dX11_apart_27 : decode cX11_apart 27 = .ok (.iload 5, 2) := by decide +kernel
theorem dX11_apart_29 : decode cX11_apart 29 = .ok (.bipush 10, 2) := by decide +kernel
theorem dX11_apart_31 : decode cX11_apart 31 = .ok (.if_icmp .ge 54, 3) := by decide +kernel
theorem dX11_apart_34 : decode cX11_apart 34 = .ok (.aload_n 3, 1) := by decide +kernel
theorem dX11_apart_35 : decode cX11_apart 35 = .ok (.getfield 203, 3) := by decide +kernel
theorem dX11_apart_38 : decode cX11_apart 38 = .ok (.iload 5, 2) := by decide +kernel
theorem dX11_apart_40 : decode cX11_apart 40 = .ok (.aaload, 1) := by decide +kernel
theorem dX11_apart_41 : decode cX11_apart 41 = .ok (.astore 6, 2) := by decide +kernel
theorem dX11_apart_43 : decode cX11_apart 43 = .ok (.aload 4, 2) := by decide +kernel
theorem dX11_apart_45 : decode cX11_apart 45 = .ok (.getfield 203, 3) := by decide +kernel
theorem dX11_apart_48 : decode cX11_apart 48 = .ok (.iload 5, 2) := by decide +kernel
theorem dX11_apart_50 : decode cX11_apart 50 = .ok (.aaload, 1) := by decide +kernel
theorem dX11_apart_51 : decode cX11_apart 51 = .ok (.astore 7, 2) := by decide +kernel
theorem dX11_apart_53 : decode cX11_apart 53 = .ok (.aload 6, 2) := by decide +kernel
theorem dX11_apart_55 : decode cX11_apart 55 = .ok (.ifnull 24, 3) := by decide +kernel
theorem dX11_apart_58 : decode cX11_apart 58 = .ok (.aload 7, 2) := by decide +kernel
theorem dX11_apart_60 : decode cX11_apart 60 = .ok (.ifnull 19, 3) := by decide +kernel
theorem dX11_apart_63 : decode cX11_apart 63 = .ok (.aload 6, 2) := by decide +kernel
theorem dX11_apart_65 : decode cX11_apart 65 = .ok (.getfield 221, 3) := by decide +kernel
theorem dX11_apart_68 : decode cX11_apart 68 = .ok (.aload 7, 2) := by decide +kernel
theorem dX11_apart_70 : decode cX11_apart 70 = .ok (.getfield 221, 3) := by decide +kernel
theorem dX11_apart_73 : decode cX11_apart 73 = .ok (.if_icmp .eq 6, 3) := by decide +kernel
theorem dX11_apart_76 : decode cX11_apart 76 = .ok (.iload 5, 2) := by decide +kernel
theorem dX11_apart_78 : decode cX11_apart 78 = .ok (.ireturn, 1) := by decide +kernel
theorem dX11_apart_79 : decode cX11_apart 79 = .ok (.iinc 5 1, 3) := by decide +kernel
theorem dX11_apart_82 : decode cX11_apart 82 = .ok (.goto (-55), 3) := by decide +kernel
theorem dX11_apart_85 : decode cX11_apart 85 = .ok (.bipush (-2), 2) := by decide +kernel
theorem dX11_apart_87 : decode cX11_apart 87 = .ok (.ireturn, 1) := by decide +kernel
def f_X11_apart_b22 (σ : TH) : Option (Int32 × TH) :=
  some ((-1 : Int32), σ)
set_option maxHeartbeats 4000000 in
set_option maxRecDepth 100000 in
theorem t_X11_apart_b22 {l : Launch} {D : va_G} {cy : Nat → ClassId} {ka : Nat → Nat} {σ0 z : TH} {r : Int32}  {σ : TH}  (hf : f_X11_apart_b22 σ  = some (r, z)) : v_ l D cy ka cX11_apart RX11 8 (some FieldType.int) "apart" 4 85 (qf_ D cy σ0 z (some (.int r))) σ0 z σ 22 [] [] := by
  unfold f_X11_apart_b22 at hf
  refine v_iconst (v := (-1)) dX11_apart_22 (by decide) ?_
  exact v_iret hf dX11_apart_23
def f_X11_apart_b79 (rec_27 : TH → Option Nat → Option Nat → Int32 → Option (Int32 × TH)) (σ : TH) (l3 : Option Nat) (l4 : Option Nat) (l5 : Int32) : Option (Int32 × TH) :=
  lt_ (l5 + 1) fun x16 => rec_27 σ l3 l4 x16
set_option maxHeartbeats 4000000 in
set_option maxRecDepth 100000 in
theorem t_X11_apart_b79 {l : Launch} {D : va_G} {cy : Nat → ClassId} {ka : Nat → Nat} {σ0 z : TH} {r : Int32} {rec_27 : TH → Option Nat → Option Nat → Int32 → Option (Int32 × TH)} (hrec_27 : ∀ (σ : TH) (l3 : Option Nat) (l4 : Option Nat) (l5 : Int32), rec_27 σ l3 l4 l5 = some (r, z) → v_ l D cy ka cX11_apart RX11 8 (some FieldType.int) "apart" 4 85 (qf_ D cy σ0 z (some (.int r))) σ0 z σ 27 [(3, va_rf l3), (4, va_rf l4), (5, .int l5)] []) {σ : TH} {l3 : Option Nat} {l4 : Option Nat} {l5 : Int32} (hf : f_X11_apart_b79 rec_27 σ l3 l4 l5 = some (r, z)) : v_ l D cy ka cX11_apart RX11 8 (some FieldType.int) "apart" 4 85 (qf_ D cy σ0 z (some (.int r))) σ0 z σ 79 [(3, va_rf l3), (4, va_rf l4), (5, .int l5)] [] := by
  unfold f_X11_apart_b79 at hf
  obtain ⟨x16, ex16⟩ : ∃ y : Int32, y = l5 + 1 := ⟨_, rfl⟩
  rw [lt_e, ← ex16] at hf
  refine v_iinc (v := x16) [(5, .int x16), (3, va_rf l3), (4, va_rf l4)] dX11_apart_79 2 rfl (by rw [ex16]; rfl) (by decide) (by simp [va_rf_cat, cat_i, cat_l]) ?_
  refine v_goto (tgt := 27) dX11_apart_82 (by decide) ?_
  refine v_sub [1, 2, 0] (L2 := [(3, va_rf l3), (4, va_rf l4), (5, .int x16)]) rfl ?_
  exact hrec_27 _ _ _ _ hf
def f_X11_apart_b27 : Nat → TH → Option Nat → Option Nat → Int32 → Option (Int32 × TH)
  | 0, _, _, _, _ => none
  | n + 1, σ, l3, l4, l5 => if (10 : Int32) ≤ l5 then (some ((-2 : Int32), σ)) else (nn_ l3 fun a7 => gt_ (kd_ σ a7 = 4) <| lt_ (fr_ σ 309 a7) fun r8 => nn_ r8 fun a9 => gt_ (kd_ σ a9 = 25) <| gt_ (¬ (l5 < 0 ∨ ln_ σ a9 ≤ l5.toNatClampNeg)) <| lt_ (ar_ σ a9 l5.toNatClampNeg) fun r10 => nn_ l4 fun a11 => gt_ (kd_ σ a11 = 4) <| lt_ (fr_ σ 309 a11) fun r12 => nn_ r12 fun a13 => gt_ (kd_ σ a13 = 25) <| gt_ (¬ (l5 < 0 ∨ ln_ σ a13 ≤ l5.toNatClampNeg)) <| lt_ (ar_ σ a13 l5.toNatClampNeg) fun r14 => oc_ r10 (f_X11_apart_b79 (f_X11_apart_b27 n) σ (some a7) (some a11) l5) (fun a15 => oc_ r14 (f_X11_apart_b79 (f_X11_apart_b27 n) σ (some a7) (some a11) l5) (fun a17 => gt_ (kd_ σ a15 = 10) <| lt_ (fi_ σ 900 a15) fun x18 => gt_ (kd_ σ a17 = 10) <| lt_ (fi_ σ 900 a17) fun x19 => if x18 = x19 then (f_X11_apart_b79 (f_X11_apart_b27 n) σ (some a7) (some a11) l5) else (some (l5, σ)))))
set_option maxHeartbeats 4000000 in
set_option maxRecDepth 100000 in
theorem t_X11_apart_b27 {l : Launch} {D : va_G} {cy : Nat → ClassId} {ka : Nat → Nat} {σ0 z : TH} {r : Int32}  : ∀ (n : Nat) (σ : TH) (l3 : Option Nat) (l4 : Option Nat) (l5 : Int32), f_X11_apart_b27 n σ l3 l4 l5 = some (r, z) → v_ l D cy ka cX11_apart RX11 8 (some FieldType.int) "apart" 4 85 (qf_ D cy σ0 z (some (.int r))) σ0 z σ 27 [(3, va_rf l3), (4, va_rf l4), (5, .int l5)] [] := by
  intro n
  induction n with
  | zero => intro σ l3 l4 l5 hf; unfold f_X11_apart_b27 at hf; cases hf
  | succ n ih =>
    intro σ l3 l4 l5 hf
    unfold f_X11_apart_b27 at hf
    have hrec_27 := ih
    refine v_iload (x := l5) dX11_apart_27 2 rfl ?_
    refine v_bipush (v := 10) dX11_apart_29 (by decide) ?_
    refine v_icmp_ge (tgt := 85) hf dX11_apart_31 (by decide) (fun hq hf => ?_) (fun hq hf => ?_)
    · refine v_bipush (v := (-2)) dX11_apart_85 (by decide) ?_
      exact v_iret hf dX11_apart_87
    · refine v_aload_n (x := l3) dX11_apart_34 rfl 0 rfl ?_
      obtain ⟨a7, rfl, hf⟩ := nn_of hf
      obtain ⟨hk_a7, hf⟩ := gt_of hf
      refine v_getr cb_3 hk_a7 9 309 rfl (by decide) rfl (lk_n kw_484 rfl) hf dX11_apart_35 (fun r8 hf => ?_)
      refine v_iload (x := l5) dX11_apart_38 2 rfl ?_
      obtain ⟨a9, rfl, hf⟩ := nn_of hf
      obtain ⟨hk_a9, hf⟩ := gt_of hf
      refine v_aald 24 5 RX8 hk_a9 (by decide) rfl hf dX11_apart_40 (fun r10 hf => ?_)
      refine v_astore [(6, va_rf r10), (3, va_rf (some a7)), (4, va_rf l4), (5, .int l5)] dX11_apart_41 (by decide) rfl ?_
      refine v_aload (x := l4) dX11_apart_43 2 rfl ?_
      obtain ⟨a11, rfl, hf⟩ := nn_of hf
      obtain ⟨hk_a11, hf⟩ := gt_of hf
      refine v_getr cb_3 hk_a11 9 309 rfl (by decide) rfl (lk_n kw_484 rfl) hf dX11_apart_45 (fun r12 hf => ?_)
      refine v_iload (x := l5) dX11_apart_48 3 rfl ?_
      obtain ⟨a13, rfl, hf⟩ := nn_of hf
      obtain ⟨hk_a13, hf⟩ := gt_of hf
      refine v_aald 24 5 RX8 hk_a13 (by decide) rfl hf dX11_apart_50 (fun r14 hf => ?_)
      refine v_astore [(7, va_rf r14), (6, va_rf r10), (3, va_rf (some a7)), (4, va_rf (some a11)), (5, .int l5)] dX11_apart_51 (by decide) (by simp [va_rf_cat, cat_i, cat_l]) ?_
      refine v_aload (x := r10) dX11_apart_53 1 rfl ?_
      refine v_ifnull2 (tgt := 79) hf dX11_apart_55 (by decide) (fun e9 hf9 => ?_) (fun a15 e9 hf9 => ?_)
      · subst e9
        replace hf := hf9
        clear hf9
        refine v_sub [2, 3, 4] (L2 := [(3, va_rf (some a7)), (4, va_rf (some a11)), (5, .int l5)]) rfl ?_
        exact t_X11_apart_b79 hrec_27 hf
      · subst e9
        replace hf := hf9
        clear hf9
        refine v_aload (x := r14) dX11_apart_58 0 rfl ?_
        refine v_ifnull2 (tgt := 79) hf dX11_apart_60 (by decide) (fun e9 hf9 => ?_) (fun a17 e9 hf9 => ?_)
        · subst e9
          replace hf := hf9
          clear hf9
          refine v_sub [2, 3, 4] (L2 := [(3, va_rf (some a7)), (4, va_rf (some a11)), (5, .int l5)]) rfl ?_
          exact t_X11_apart_b79 hrec_27 hf
        · subst e9
          replace hf := hf9
          clear hf9
          refine v_aload (x := (some a15)) dX11_apart_63 1 rfl ?_
          obtain ⟨hk_a15, hf⟩ := gt_of hf
          refine v_geti cb_9 hk_a15 0 900 rfl (by decide) rfl (lk_n kw_586 rfl) hf dX11_apart_65 (fun x18 hf => ?_)
          refine v_aload (x := (some a17)) dX11_apart_68 0 rfl ?_
          obtain ⟨hk_a17, hf⟩ := gt_of hf
          refine v_geti cb_9 hk_a17 0 900 rfl (by decide) rfl (lk_n kw_586 rfl) hf dX11_apart_70 (fun x19 hf => ?_)
          refine v_icmp_eq (tgt := 79) hf dX11_apart_73 (by decide) (fun hq hf => ?_) (fun hq hf => ?_)
          · refine v_sub [2, 3, 4] (L2 := [(3, va_rf (some a7)), (4, va_rf (some a11)), (5, .int l5)]) rfl ?_
            exact t_X11_apart_b79 hrec_27 hf
          · refine v_iload (x := l5) dX11_apart_76 4 rfl ?_
            exact v_iret hf dX11_apart_78
/-- LivesAhead.apart(II)I -/
def f_X11_apart (σ : TH) (p0 : Nat) (p1 : Int32) (p2 : Int32) : Option (Int32 × TH) :=
  gt_ (kd_ σ p0 = 13) <| bd_ (f_X11_personAt σ p0 p1) fun r1 s2 => bd_ (f_X11_personAt s2 p0 p2) fun r3 s4 => oc_ r1 (f_X11_apart_b22 s4 ) (fun a5 => oc_ r3 (f_X11_apart_b22 s4 ) (fun a6 => f_X11_apart_b27 fu_ s4 (some a5) (some a6) (0 : Int32)))
set_option maxHeartbeats 4000000 in
set_option maxRecDepth 100000 in
theorem c_X11_apart {l : Launch} {D : va_G} {cy : Nat → ClassId} {ka : Nat → Nat} {σ z : TH} {p0 : Nat} {p1 : Int32} {p2 : Int32} {r : Int32} (hf : f_X11_apart σ p0 p1 p2 = some (r, z)) : ct_ l D cy ka yX11_apart 4 85 [va_rf (some p0), .int p1, .int p2] σ (some (.int r)) z := by
  unfold f_X11_apart at hf
  refine v_start (cc := cX11_apart) (own := RX11) (maxL := 8) (ret := (some FieldType.int)) (nm := "apart") (by decide +kernel) kw_638 rfl rfl (by simp [lg_sl, va_rf_cat, cat_i, cat_l]) ?_
  refine v_eqL (L2 := [(0, va_rf (some p0)), (1, .int p1), (2, .int p2)]) (by simp [lv_args, va_rf_cat, cat_i, cat_l]) ?_
  refine v_aload_n (x := (some p0)) dX11_apart_0 rfl 0 rfl ?_
  refine v_iload_n (x := p1) dX11_apart_1 rfl 1 rfl ?_
  obtain ⟨hk_p0, hf⟩ := gt_of hf
  obtain ⟨r1, s2, hcs2, hf⟩ := bd_of hf
  have hts2 := c_X11_personAt (l := l) (D := D) (cy := cy) (ka := ka) hcs2
  refine v_callV cb_12 hk_p0 (As := [.int p1]) (rest := []) hts2 yb_X11_personAt kw_526 kw_528 kp_11 rfl ⟨Nat.le_of_ble_eq_true rfl, Nat.le_of_ble_eq_true rfl⟩ rfl (cat_len (Nat.le_of_ble_eq_true rfl)) dX11_apart_2 ?_
  have hk_p0 := tk_ hts2.1 hk_p0
  show v_ l D cy ka cX11_apart RX11 8 (some FieldType.int) "apart" 4 85 (qf_ D cy σ z (some (.int r))) σ z _ 5 [(0, va_rf (some p0)), (1, .int p1), (2, .int p2)] [va_rf r1]
  refine v_astore_n [(3, va_rf r1), (0, va_rf (some p0)), (1, .int p1), (2, .int p2)] dX11_apart_5 rfl (by decide) rfl ?_
  refine v_aload_n (x := (some p0)) dX11_apart_6 rfl 1 rfl ?_
  refine v_iload_n (x := p2) dX11_apart_7 rfl 3 rfl ?_
  obtain ⟨r3, s4, hcs4, hf⟩ := bd_of hf
  have hts4 := c_X11_personAt (l := l) (D := D) (cy := cy) (ka := ka) hcs4
  refine v_callV cb_12 hk_p0 (As := [.int p2]) (rest := []) hts4 yb_X11_personAt kw_526 kw_528 kp_11 rfl ⟨Nat.le_of_ble_eq_true rfl, Nat.le_of_ble_eq_true rfl⟩ rfl (cat_len (Nat.le_of_ble_eq_true rfl)) dX11_apart_8 ?_
  have hk_p0 := tk_ hts4.1 hk_p0
  show v_ l D cy ka cX11_apart RX11 8 (some FieldType.int) "apart" 4 85 (qf_ D cy σ z (some (.int r))) σ z _ 11 [(3, va_rf r1), (0, va_rf (some p0)), (1, .int p1), (2, .int p2)] [va_rf r3]
  refine v_astore [(4, va_rf r3), (3, va_rf r1), (0, va_rf (some p0)), (1, .int p1), (2, .int p2)] dX11_apart_11 (by decide) (by simp [va_rf_cat, cat_i, cat_l]) ?_
  refine v_aload_n (x := r1) dX11_apart_13 rfl 1 rfl ?_
  refine v_ifnull2 (tgt := 22) hf dX11_apart_14 (by decide) (fun e9 hf9 => ?_) (fun a5 e9 hf9 => ?_)
  · subst e9
    replace hf := hf9
    clear hf9
    refine v_sub [] (L2 := []) rfl ?_
    exact t_X11_apart_b22  hf
  · subst e9
    replace hf := hf9
    clear hf9
    refine v_aload (x := r3) dX11_apart_17 0 rfl ?_
    refine v_ifnonnull2 (tgt := 24) hf dX11_apart_19 (by decide) (fun e9 hf9 => ?_) (fun a6 e9 hf9 => ?_)
    · subst e9
      replace hf := hf9
      clear hf9
      refine v_sub [] (L2 := []) rfl ?_
      exact t_X11_apart_b22  hf
    · subst e9
      replace hf := hf9
      clear hf9
      refine v_iconst (v := 0) dX11_apart_24 (by decide) ?_
      refine v_istore [(5, .int (0 : Int32)), (4, va_rf (some a6)), (3, va_rf (some a5)), (0, va_rf (some p0)), (1, .int p1), (2, .int p2)] dX11_apart_25 (by decide) rfl ?_
      refine v_sub [2, 1, 0] (L2 := [(3, va_rf (some a5)), (4, va_rf (some a6)), (5, .int (0 : Int32))]) rfl ?_
      exact t_X11_apart_b27  _ _ _ _ _ hf
theorem dX11_ask_0 : decode cX11_ask 0 = .ok (.aload_n 0, 1) := by decide +kernel
theorem dX11_ask_1 : decode cX11_ask 1 = .ok (.iload_n 1, 1) := by decide +kernel
theorem dX11_ask_2 : decode cX11_ask 2 = .ok (.invokevirtual 149, 3) := by decide +kernel
theorem dX11_ask_5 : decode cX11_ask 5 = .ok (.ifnonnull 9, 3) := by decide +kernel
theorem dX11_ask_8 : decode cX11_ask 8 = .ok (.aload_n 0, 1) := by decide +kernel
theorem dX11_ask_9 : decode cX11_ask 9 = .ok (.iconst 1, 1) := by decide +kernel
theorem dX11_ask_10 : decode cX11_ask 10 = .ok (.invokevirtual 97, 3) := by decide +kernel
theorem dX11_ask_13 : decode cX11_ask 13 = .ok (.ireturn, 1) := by decide +kernel
theorem dX11_ask_14 : decode cX11_ask 14 = .ok (.iload_n 2, 1) := by decide +kernel
theorem dX11_ask_15 : decode cX11_ask 15 = .ok (.iconst 1, 1) := by decide +kernel
theorem dX11_ask_16 : decode cX11_ask 16 = .ok (.sipush 1440, 3) := by decide +kernel
theorem dX11_ask_19 : decode cX11_ask 19 = .ok (.invokestatic 93, 3) := by decide +kernel
theorem dX11_ask_22 : decode cX11_ask 22 = .ok (.ifCond .ne 9, 3) := by decide +kernel
theorem dX11_ask_25 : decode cX11_ask 25 = .ok (.aload_n 0, 1) := by decide +kernel
theorem dX11_ask_26 : decode cX11_ask 26 = .ok (.iconst 2, 1) := by decide +kernel
theorem dX11_ask_27 : decode cX11_ask 27 = .ok (.invokevirtual 97, 3) := by decide +kernel
theorem dX11_ask_30 : decode cX11_ask 30 = .ok (.ireturn, 1) := by decide +kernel
theorem dX11_ask_31 : decode cX11_ask 31 = .ok (.aload_n 0, 1) := by decide +kernel
theorem dX11_ask_32 : decode cX11_ask 32 = .ok (.getfield 28, 3) := by decide +kernel
theorem dX11_ask_35 : decode cX11_ask 35 = .ok (.invokevirtual 101, 3) := by decide +kernel
theorem dX11_ask_38 : decode cX11_ask 38 = .ok (.bipush 60, 2) := by decide +kernel
theorem dX11_ask_40 : decode cX11_ask 40 = .ok (.if_icmp .lt 9, 3) := by decide +kernel
theorem dX11_ask_43 : decode cX11_ask 43 = .ok (.aload_n 0, 1) := by decide +kernel
theorem dX11_ask_44 : decode cX11_ask 44 = .ok (.iconst 3, 1) := by decide +kernel
theorem dX11_ask_45 : decode cX11_ask 45 = .ok (.invokevirtual 97, 3) := by decide +kernel
theorem dX11_ask_48 : decode cX11_ask 48 = .ok (.ireturn, 1) := by decide +kernel
theorem dX11_ask_49 : decode cX11_ask 49 = .ok (.aload_n 0, 1) := by decide +kernel
theorem dX11_ask_50 : decode cX11_ask 50 = .ok (.getfield 28, 3) := by decide +kernel
theorem dX11_ask_53 : decode cX11_ask 53 = .ok (.new 365, 3) := by decide +kernel
theorem dX11_ask_56 : decode cX11_ask 56 = .ok (.dup, 1) := by decide +kernel
theorem dX11_ask_57 : decode cX11_ask 57 = .ok (.iload_n 1, 1) := by decide +kernel
theorem dX11_ask_58 : decode cX11_ask 58 = .ok (.aload_n 0, 1) := by decide +kernel
theorem dX11_ask_59 : decode cX11_ask 59 = .ok (.getfield 66, 3) := by decide +kernel
theorem dX11_ask_62 : decode cX11_ask 62 = .ok (.iload_n 2, 1) := by decide +kernel
theorem dX11_ask_63 : decode cX11_ask 63 = .ok (.iadd, 1) := by decide +kernel
theorem dX11_ask_64 : decode cX11_ask 64 = .ok (.invokespecial 367, 3) := by decide +kernel
theorem dX11_ask_67 : decode cX11_ask 67 = .ok (.invokevirtual 110, 3) := by decide +kernel
theorem dX11_ask_70 : decode cX11_ask 70 = .ok (.pop, 1) := by decide +kernel
theorem dX11_ask_71 : decode cX11_ask 71 = .ok (.aload_n 0, 1) := by decide +kernel
theorem dX11_ask_72 : decode cX11_ask 72 = .ok (.aload_n 0, 1) := by decide +kernel
theorem dX11_ask_73 : decode cX11_ask 73 = .ok (.getfield 28, 3) := by decide +kernel
theorem dX11_ask_76 : decode cX11_ask 76 = .ok (.invokevirtual 101, 3) := by decide +kernel
theorem dX11_ask_79 : decode cX11_ask 79 = .ok (.iconst 1, 1) := by decide +kernel
theorem dX11_ask_80 : decode cX11_ask 80 = .ok (.isub, 1) := by decide +kernel
theorem dX11_ask_81 : decode cX11_ask 81 = .ok (.invokevirtual 114, 3) := by decide +kernel
theorem dX11_ask_84 : decode cX11_ask 84 = .ok (.ireturn, 1) := by decide +kernel
/-- LivesAhead.ask(II)I -/
def f_X11_ask (ka : Nat → Nat) (σ : TH) (p0 : Nat) (p1 : Int32) (p2 : Int32) : Option (Int32 × TH) :=
  gt_ (kd_ σ p0 = 13) <| bd_ (f_X11_personAt σ p0 p1) fun r1 s2 => oc_ r1 (bd_ (f_X11_refused s2 p0 (1 : Int32)) fun x4 s5 => some (x4, s5)) (fun a3 => bd_ (f_X11_within s2 p2 (1 : Int32) (1440 : Int32)) fun x6 s7 => if x6 = 0 then (bd_ (f_X11_refused s7 p0 (2 : Int32)) fun x8 s9 => some (x8, s9)) else (lt_ (fr_ s7 1205 p0) fun r10 => nn_ r10 fun a11 => gt_ (kd_ s7 a11 = 1) <| bd_ (f_Jx4a65c_size_8abf5 s7 a11) fun x12 s13 => if x12 < (60 : Int32) then (lt_ (fr_ s13 1205 p0) fun r14 => gt_ (kd_ s13 (nx_ s13) = 0) <| lt_ (nx_ s13) fun a15 => lt_ (nw_ s13 7 0 4) fun s16 => lt_ (fi_ s16 1213 p0) fun x17 => bd_ (f_X5_init s16 a15 p1 (x17 + p2)) fun x18 s19 => nn_ r14 fun a20 => gt_ (kd_ s19 a20 = 1) <| bd_ (f_Jx4a65c_add_9ea2d ka s19 a20 (some a15)) fun x21 s22 => lt_ (fr_ s22 1205 p0) fun r23 => nn_ r23 fun a24 => gt_ (kd_ s22 a24 = 1) <| bd_ (f_Jx4a65c_size_8abf5 s22 a24) fun x25 s26 => bd_ (f_X11_granted s26 p0 (x25 - (1 : Int32))) fun x27 s28 => some (x27, s28)) else (bd_ (f_X11_refused s13 p0 (3 : Int32)) fun x29 s30 => some (x29, s30))))
set_option maxHeartbeats 4000000 in
set_option maxRecDepth 100000 in
theorem c_X11_ask {l : Launch} {D : va_G} {cy : Nat → ClassId} {ka : Nat → Nat} {σ z : TH} {p0 : Nat} {p1 : Int32} {p2 : Int32} {r : Int32} (hf : f_X11_ask ka σ p0 p1 p2 = some (r, z)) : ct_ l D cy ka yX11_ask 7 191 [va_rf (some p0), .int p1, .int p2] σ (some (.int r)) z := by
  unfold f_X11_ask at hf
  refine v_start (cc := cX11_ask) (own := RX11) (maxL := 3) (ret := (some FieldType.int)) (nm := "ask") (by decide +kernel) kw_1136 rfl rfl (by simp [lg_sl, va_rf_cat, cat_i, cat_l]) ?_
  refine v_eqL (L2 := [(0, va_rf (some p0)), (1, .int p1), (2, .int p2)]) (by simp [lv_args, va_rf_cat, cat_i, cat_l]) ?_
  refine v_aload_n (x := (some p0)) dX11_ask_0 rfl 0 rfl ?_
  refine v_iload_n (x := p1) dX11_ask_1 rfl 1 rfl ?_
  obtain ⟨hk_p0, hf⟩ := gt_of hf
  obtain ⟨r1, s2, hcs2, hf⟩ := bd_of hf
  have hts2 := c_X11_personAt (l := l) (D := D) (cy := cy) (ka := ka) hcs2
  refine v_callV cb_12 hk_p0 (As := [.int p1]) (rest := []) hts2 yb_X11_personAt kw_526 kw_528 kp_11 rfl ⟨Nat.le_of_ble_eq_true rfl, Nat.le_of_ble_eq_true rfl⟩ rfl (cat_len (Nat.le_of_ble_eq_true rfl)) dX11_ask_2 ?_
  have hk_p0 := tk_ hts2.1 hk_p0
  show v_ l D cy ka cX11_ask RX11 3 (some FieldType.int) "ask" 7 191 (qf_ D cy σ z (some (.int r))) σ z _ 5 [(0, va_rf (some p0)), (1, .int p1), (2, .int p2)] [va_rf r1]
  refine v_ifnonnull2 (tgt := 14) hf dX11_ask_5 (by decide) (fun e9 hf9 => ?_) (fun a3 e9 hf9 => ?_)
  · subst e9
    replace hf := hf9
    clear hf9
    refine v_aload_n (x := (some p0)) dX11_ask_8 rfl 0 rfl ?_
    refine v_iconst (v := 1) dX11_ask_9 (by decide) ?_
    obtain ⟨x4, s5, hcs5, hf⟩ := bd_of hf
    have hts5 := c_X11_refused (l := l) (D := D) (cy := cy) (ka := ka) hcs5
    refine v_callV cb_12 hk_p0 (As := [.int (1 : Int32)]) (rest := []) hts5 yb_X11_refused kw_307 kw_309 kp_0 rfl ⟨Nat.le_of_ble_eq_true rfl, Nat.le_of_ble_eq_true rfl⟩ rfl (cat_len (Nat.le_of_ble_eq_true rfl)) dX11_ask_10 ?_
    have hk_p0 := tk_ hts5.1 hk_p0
    show v_ l D cy ka cX11_ask RX11 3 (some FieldType.int) "ask" 7 191 (qf_ D cy σ z (some (.int r))) σ z _ 13 [(0, va_rf (some p0)), (1, .int p1), (2, .int p2)] [.int x4]
    exact v_iret hf dX11_ask_13
  · subst e9
    replace hf := hf9
    clear hf9
    refine v_iload_n (x := p2) dX11_ask_14 rfl 2 rfl ?_
    refine v_iconst (v := 1) dX11_ask_15 (by decide) ?_
    refine v_sipush (v := 1440) dX11_ask_16 (by decide) ?_
    obtain ⟨x6, s7, hcs7, hf⟩ := bd_of hf
    have hts7 := c_X11_within (l := l) (D := D) (cy := cy) (ka := ka) hcs7
    refine v_callS (As := [.int p2, .int (1 : Int32), .int (1440 : Int32)]) (rest := []) hts7 yb_X11_within kw_304 kw_305 rfl ⟨Nat.le_of_ble_eq_true rfl, Nat.le_of_ble_eq_true rfl⟩ rfl (cat_len (Nat.le_of_ble_eq_true rfl)) dX11_ask_19 ?_
    have hk_p0 := tk_ hts7.1 hk_p0
    show v_ l D cy ka cX11_ask RX11 3 (some FieldType.int) "ask" 7 191 (qf_ D cy σ z (some (.int r))) σ z _ 22 [(0, va_rf (some p0)), (1, .int p1), (2, .int p2)] [.int x6]
    refine v_if_ne (tgt := 31) hf dX11_ask_22 (by decide) (fun hq hf => ?_) (fun hq hf => ?_)
    · refine v_aload_n (x := (some p0)) dX11_ask_25 rfl 0 rfl ?_
      refine v_iconst (v := 2) dX11_ask_26 (by decide) ?_
      obtain ⟨x8, s9, hcs9, hf⟩ := bd_of hf
      have hts9 := c_X11_refused (l := l) (D := D) (cy := cy) (ka := ka) hcs9
      refine v_callV cb_12 hk_p0 (As := [.int (2 : Int32)]) (rest := []) hts9 yb_X11_refused kw_307 kw_309 kp_0 rfl ⟨Nat.le_of_ble_eq_true rfl, Nat.le_of_ble_eq_true rfl⟩ rfl (cat_len (Nat.le_of_ble_eq_true rfl)) dX11_ask_27 ?_
      have hk_p0 := tk_ hts9.1 hk_p0
      show v_ l D cy ka cX11_ask RX11 3 (some FieldType.int) "ask" 7 191 (qf_ D cy σ z (some (.int r))) σ z _ 30 [(0, va_rf (some p0)), (1, .int p1), (2, .int p2)] [.int x8]
      exact v_iret hf dX11_ask_30
    · refine v_aload_n (x := (some p0)) dX11_ask_31 rfl 0 rfl ?_
      refine v_getr cb_12 hk_p0 5 1205 rfl (by decide) rfl (lk_n kw_244 rfl) hf dX11_ask_32 (fun r10 hf => ?_)
      obtain ⟨a11, rfl, hf⟩ := nn_of hf
      obtain ⟨hk_a11, hf⟩ := gt_of hf
      obtain ⟨x12, s13, hcs13, hf⟩ := bd_of hf
      have hts13 := c_Jx4a65c_size_8abf5 (l := l) (D := D) (cy := cy) (ka := ka) hcs13
      refine v_callV cb_0 hk_a11 (As := []) (rest := []) hts13 yb_Jx4a65c_size_8abf5 kw_311 kw_312 kw_313 rfl ⟨Nat.le_of_ble_eq_true rfl, Nat.le_of_ble_eq_true rfl⟩ rfl (cat_len (Nat.le_of_ble_eq_true rfl)) dX11_ask_35 ?_
      have hk_p0 := tk_ hts13.1 hk_p0
      show v_ l D cy ka cX11_ask RX11 3 (some FieldType.int) "ask" 7 191 (qf_ D cy σ z (some (.int r))) σ z _ 38 [(0, va_rf (some p0)), (1, .int p1), (2, .int p2)] [.int x12]
      refine v_bipush (v := 60) dX11_ask_38 (by decide) ?_
      refine v_icmp_lt (tgt := 49) hf dX11_ask_40 (by decide) (fun hq hf => ?_) (fun hq hf => ?_)
      · refine v_aload_n (x := (some p0)) dX11_ask_49 rfl 0 rfl ?_
        refine v_getr cb_12 hk_p0 5 1205 rfl (by decide) rfl (lk_n kw_244 rfl) hf dX11_ask_50 (fun r14 hf => ?_)
        refine v_new2 cb_6 df_6 kw_1137 kw_1138 kw_31 7 rfl hf dX11_ask_53 (fun a15 s16 hts16 hk_a15 hf => ?_)
        have hk_p0 := tk_ hts16 hk_p0
        refine v_dup dX11_ask_56 (va_rf_cat _) ?_
        refine v_iload_n (x := p1) dX11_ask_57 rfl 1 rfl ?_
        refine v_aload_n (x := (some p0)) dX11_ask_58 rfl 0 rfl ?_
        refine v_geti cb_12 hk_p0 13 1213 rfl (by decide) rfl (lk_n kw_252 rfl) hf dX11_ask_59 (fun x17 hf => ?_)
        refine v_iload_n (x := p2) dX11_ask_62 rfl 2 rfl ?_
        refine v_iadd dX11_ask_63 ?_
        obtain ⟨x18, s19, hcs19, hf⟩ := bd_of hf
        have hts19 := c_X5_init (l := l) (D := D) (cy := cy) (ka := ka) hcs19
        refine v_callI (As := [.int p1, .int (x17 + p2)]) (rest := [va_rf (some a15), va_rf r14]) hts19 yb_X5_init kw_1139 kw_1140 rfl rfl ⟨Nat.le_of_ble_eq_true rfl, Nat.le_of_ble_eq_true rfl⟩ rfl (cat_len (Nat.le_of_ble_eq_true rfl)) dX11_ask_64 ?_
        have hk_p0 := tk_ hts19.1 hk_p0
        have hk_a15 := tk_ hts19.1 hk_a15
        show v_ l D cy ka cX11_ask RX11 3 (some FieldType.int) "ask" 7 191 (qf_ D cy σ z (some (.int r))) σ z _ 67 [(0, va_rf (some p0)), (1, .int p1), (2, .int p2)] [va_rf (some a15), va_rf r14]
        obtain ⟨a20, rfl, hf⟩ := nn_of hf
        obtain ⟨hk_a20, hf⟩ := gt_of hf
        obtain ⟨x21, s22, hcs22, hf⟩ := bd_of hf
        have hts22 := c_Jx4a65c_add_9ea2d (l := l) (D := D) (cy := cy) (ka := ka) hcs22
        refine v_callV cb_0 hk_a20 (As := [va_rf (some a15)]) (rest := []) hts22 yb_Jx4a65c_add_9ea2d kw_330 kw_331 kw_332 rfl ⟨Nat.le_of_ble_eq_true rfl, Nat.le_of_ble_eq_true rfl⟩ rfl (cat_len (Nat.le_of_ble_eq_true rfl)) dX11_ask_67 ?_
        have hk_p0 := tk_ hts22.1 hk_p0
        show v_ l D cy ka cX11_ask RX11 3 (some FieldType.int) "ask" 7 191 (qf_ D cy σ z (some (.int r))) σ z _ 70 [(0, va_rf (some p0)), (1, .int p1), (2, .int p2)] [.int x21]
        refine v_pop dX11_ask_70 rfl ?_
        refine v_aload_n (x := (some p0)) dX11_ask_71 rfl 0 rfl ?_
        refine v_aload_n (x := (some p0)) dX11_ask_72 rfl 0 rfl ?_
        refine v_getr cb_12 hk_p0 5 1205 rfl (by decide) rfl (lk_n kw_244 rfl) hf dX11_ask_73 (fun r23 hf => ?_)
        obtain ⟨a24, rfl, hf⟩ := nn_of hf
        obtain ⟨hk_a24, hf⟩ := gt_of hf
        obtain ⟨x25, s26, hcs26, hf⟩ := bd_of hf
        have hts26 := c_Jx4a65c_size_8abf5 (l := l) (D := D) (cy := cy) (ka := ka) hcs26
        refine v_callV cb_0 hk_a24 (As := []) (rest := [va_rf (some p0)]) hts26 yb_Jx4a65c_size_8abf5 kw_311 kw_312 kw_313 rfl ⟨Nat.le_of_ble_eq_true rfl, Nat.le_of_ble_eq_true rfl⟩ rfl (cat_len (Nat.le_of_ble_eq_true rfl)) dX11_ask_76 ?_
        have hk_p0 := tk_ hts26.1 hk_p0
        show v_ l D cy ka cX11_ask RX11 3 (some FieldType.int) "ask" 7 191 (qf_ D cy σ z (some (.int r))) σ z _ 79 [(0, va_rf (some p0)), (1, .int p1), (2, .int p2)] [.int x25, va_rf (some p0)]
        refine v_iconst (v := 1) dX11_ask_79 (by decide) ?_
        refine v_isub dX11_ask_80 ?_
        obtain ⟨x27, s28, hcs28, hf⟩ := bd_of hf
        have hts28 := c_X11_granted (l := l) (D := D) (cy := cy) (ka := ka) hcs28
        refine v_callV cb_12 hk_p0 (As := [.int (x25 - (1 : Int32))]) (rest := []) hts28 yb_X11_granted kw_395 kw_397 kp_4 rfl ⟨Nat.le_of_ble_eq_true rfl, Nat.le_of_ble_eq_true rfl⟩ rfl (cat_len (Nat.le_of_ble_eq_true rfl)) dX11_ask_81 ?_
        have hk_p0 := tk_ hts28.1 hk_p0
        show v_ l D cy ka cX11_ask RX11 3 (some FieldType.int) "ask" 7 191 (qf_ D cy σ z (some (.int r))) σ z _ 84 [(0, va_rf (some p0)), (1, .int p1), (2, .int p2)] [.int x27]
        exact v_iret hf dX11_ask_84
      · refine v_aload_n (x := (some p0)) dX11_ask_43 rfl 0 rfl ?_
        refine v_iconst (v := 3) dX11_ask_44 (by decide) ?_
        obtain ⟨x29, s30, hcs30, hf⟩ := bd_of hf
        have hts30 := c_X11_refused (l := l) (D := D) (cy := cy) (ka := ka) hcs30
        refine v_callV cb_12 hk_p0 (As := [.int (3 : Int32)]) (rest := []) hts30 yb_X11_refused kw_307 kw_309 kp_0 rfl ⟨Nat.le_of_ble_eq_true rfl, Nat.le_of_ble_eq_true rfl⟩ rfl (cat_len (Nat.le_of_ble_eq_true rfl)) dX11_ask_45 ?_
        have hk_p0 := tk_ hts30.1 hk_p0
        show v_ l D cy ka cX11_ask RX11 3 (some FieldType.int) "ask" 7 191 (qf_ D cy σ z (some (.int r))) σ z _ 48 [(0, va_rf (some p0)), (1, .int p1), (2, .int p2)] [.int x29]
        exact v_iret hf dX11_ask_48
theorem dX11_handOver_0 : decode cX11_handOver 0 = .ok (.iconst 0, 1) := by decide +kernel
theorem dX11_handOver_1 : decode cX11_handOver 1 = .ok (.istore_n 3, 1) := by decide +kernel
theorem dX11_handOver_2 : decode cX11_handOver 2 = .ok (.iconst 0, 1) := by decide +kernel
theorem dX11_handOver_3 : decode cX11_handOver 3 = .ok (.istore 4, 2) := by decide +kernel
theorem dX11_handOver_5 : decode cX11_handOver 5 = .ok (.iload 4, 2) := by decide +kernel
theorem dX11_handOver_7 : decode cX11_handOver 7 = .ok (.aload_n 0, 1) := by decide +kernel
theorem dX11_handOver_8 : decode cX11_handOver 8 = .ok (.getfield 16, 3) := by decide +kernel
theorem dX11_handOver_11 : decode cX11_handOver 11 = .ok (.invokevirtual 101, 3) := by decide +kernel
theorem dX11_handOver_14 : decode cX11_handOver 14 = .ok (.if_icmp .ge 41, 3) := by decide +kernel
theorem dX11_handOver_17 : decode cX11_handOver 17 = .ok (.aload_n 0, 1) := by decide +kernel
theorem dX11_handOver_18 : decode cX11_handOver 18 = .ok (.getfield 16, 3) := by decide +kernel
theorem dX11_handOver_21 : decode cX11_handOver 21 = .ok (.iload 4, 2) := by decide +kernel
theorem dX11_handOver_23 : decode cX11_handOver 23 = .ok (.invokevirtual 238, 3) := by decide +kernel
theorem dX11_handOver_26 : decode cX11_handOver 26 = .ok (.checkcast 144, 3) := by decide +kernel
theorem dX11_handOver_29 : decode cX11_handOver 29 = .ok (.astore 5, 2) := by decide +kernel
theorem dX11_handOver_31 : decode cX11_handOver 31 = .ok (.aload 5, 2) := by decide +kernel
theorem dX11_handOver_33 : decode cX11_handOver 33 = .ok (.getfield 163, 3) := by decide +kernel
theorem dX11_handOver_36 : decode cX11_handOver 36 = .ok (.iload_n 1, 1) := by decide +kernel
theorem dX11_handOver_37 : decode cX11_handOver 37 = .ok (.if_icmp .ne 12, 3) := by decide +kernel
theorem dX11_handOver_40 : decode cX11_handOver 40 = .ok (.aload 5, 2) := by decide +kernel
theorem dX11_handOver_42 : decode cX11_handOver 42 = .ok (.iload_n 2, 1) := by decide +kernel
theorem dX11_handOver_43 : decode cX11_handOver 43 = .ok (.putfield 163, 3) := by decide +kernel
theorem dX11_handOver_46 : decode cX11_handOver 46 = .ok (.iinc 3 1, 3) := by decide +kernel
theorem dX11_handOver_49 : decode cX11_handOver 49 = .ok (.iinc 4 1, 3) := by decide +kernel
theorem dX11_handOver_52 : decode cX11_handOver 52 = .ok (.goto (-47), 3) := by decide +kernel
theorem dX11_handOver_55 : decode cX11_handOver 55 = .ok (.iload_n 3, 1) := by decide +kernel
theorem dX11_handOver_56 : decode cX11_handOver 56 = .ok (.ireturn, 1) := by decide +kernel
def f_X11_handOver_b49 (rec_5 : TH → Nat → Int32 → Int32 → Int32 → Int32 → Option (Int32 × TH)) (σ : TH) (l0 : Nat) (l1 : Int32) (l2 : Int32) (l3 : Int32) (l4 : Int32) : Option (Int32 × TH) :=
  lt_ (l4 + 1) fun x13 => rec_5 σ l0 l1 l2 l3 x13
set_option maxHeartbeats 4000000 in
set_option maxRecDepth 100000 in
theorem t_X11_handOver_b49 {l : Launch} {D : va_G} {cy : Nat → ClassId} {ka : Nat → Nat} {σ0 z : TH} {r : Int32} {rec_5 : TH → Nat → Int32 → Int32 → Int32 → Int32 → Option (Int32 × TH)} (hrec_5 : ∀ (σ : TH) (l0 : Nat) (l1 : Int32) (l2 : Int32) (l3 : Int32) (l4 : Int32), rec_5 σ l0 l1 l2 l3 l4 = some (r, z) → v_ l D cy ka cX11_handOver RX11 6 (some FieldType.int) "handOver" 3 64 (qf_ D cy σ0 z (some (.int r))) σ0 z σ 5 [(0, va_rf (some l0)), (1, .int l1), (2, .int l2), (3, .int l3), (4, .int l4)] []) {σ : TH} {l0 : Nat} {l1 : Int32} {l2 : Int32} {l3 : Int32} {l4 : Int32} (hf : f_X11_handOver_b49 rec_5 σ l0 l1 l2 l3 l4 = some (r, z)) : v_ l D cy ka cX11_handOver RX11 6 (some FieldType.int) "handOver" 3 64 (qf_ D cy σ0 z (some (.int r))) σ0 z σ 49 [(0, va_rf (some l0)), (1, .int l1), (2, .int l2), (3, .int l3), (4, .int l4)] [] := by
  unfold f_X11_handOver_b49 at hf
  obtain ⟨x13, ex13⟩ : ∃ y : Int32, y = l4 + 1 := ⟨_, rfl⟩
  rw [lt_e, ← ex13] at hf
  refine v_iinc (v := x13) [(4, .int x13), (0, va_rf (some l0)), (1, .int l1), (2, .int l2), (3, .int l3)] dX11_handOver_49 4 rfl (by rw [ex13]; rfl) (by decide) rfl ?_
  refine v_goto (tgt := 5) dX11_handOver_52 (by decide) ?_
  refine v_sub [1, 2, 3, 4, 0] (L2 := [(0, va_rf (some l0)), (1, .int l1), (2, .int l2), (3, .int l3), (4, .int x13)]) rfl ?_
  exact hrec_5 _ _ _ _ _ _ hf
def f_X11_handOver_b5 : Nat → TH → Nat → Int32 → Int32 → Int32 → Int32 → Option (Int32 × TH)
  | 0, _, _, _, _, _, _ => none
  | n + 1, σ, l0, l1, l2, l3, l4 => gt_ (kd_ σ l0 = 13) <| lt_ (fr_ σ 1201 l0) fun r1 => nn_ r1 fun a2 => gt_ (kd_ σ a2 = 1) <| bd_ (f_Jx4a65c_size_8abf5 σ a2) fun x3 s4 => if x3 ≤ l4 then (some (l3, s4)) else (lt_ (fr_ s4 1201 l0) fun r5 => nn_ r5 fun a6 => gt_ (kd_ s4 a6 = 1) <| bd_ (f_Jx4a65c_get_915e3 s4 a6 l4) fun r7 s8 => gt_ (Option.elim r7 4 (kd_ s8) = 4) <| nn_ r7 fun a9 => gt_ (kd_ s8 a9 = 4) <| lt_ (fi_ s8 304 a9) fun x10 => if x10 = l1 then (lt_ (si_ s8 304 a9 l2) fun s11 => lt_ (l3 + 1) fun x12 => f_X11_handOver_b49 (f_X11_handOver_b5 n) s11 l0 l1 l2 x12 l4) else (f_X11_handOver_b49 (f_X11_handOver_b5 n) s8 l0 l1 l2 l3 l4))
set_option maxHeartbeats 4000000 in
set_option maxRecDepth 100000 in
theorem t_X11_handOver_b5 {l : Launch} {D : va_G} {cy : Nat → ClassId} {ka : Nat → Nat} {σ0 z : TH} {r : Int32}  : ∀ (n : Nat) (σ : TH) (l0 : Nat) (l1 : Int32) (l2 : Int32) (l3 : Int32) (l4 : Int32), f_X11_handOver_b5 n σ l0 l1 l2 l3 l4 = some (r, z) → v_ l D cy ka cX11_handOver RX11 6 (some FieldType.int) "handOver" 3 64 (qf_ D cy σ0 z (some (.int r))) σ0 z σ 5 [(0, va_rf (some l0)), (1, .int l1), (2, .int l2), (3, .int l3), (4, .int l4)] [] := by
  intro n
  induction n with
  | zero => intro σ l0 l1 l2 l3 l4 hf; unfold f_X11_handOver_b5 at hf; cases hf
  | succ n ih =>
    intro σ l0 l1 l2 l3 l4 hf
    unfold f_X11_handOver_b5 at hf
    have hrec_5 := ih
    refine v_iload (x := l4) dX11_handOver_5 4 rfl ?_
    refine v_aload_n (x := (some l0)) dX11_handOver_7 rfl 0 rfl ?_
    obtain ⟨hk_l0, hf⟩ := gt_of hf
    refine v_getr cb_12 hk_l0 1 1201 rfl (by decide) rfl (lk_n kw_240 rfl) hf dX11_handOver_8 (fun r1 hf => ?_)
    obtain ⟨a2, rfl, hf⟩ := nn_of hf
    obtain ⟨hk_a2, hf⟩ := gt_of hf
    obtain ⟨x3, s4, hcs4, hf⟩ := bd_of hf
    have hts4 := c_Jx4a65c_size_8abf5 (l := l) (D := D) (cy := cy) (ka := ka) hcs4
    refine v_callV cb_0 hk_a2 (As := []) (rest := [.int l4]) hts4 yb_Jx4a65c_size_8abf5 kw_311 kw_312 kw_313 rfl ⟨Nat.le_of_ble_eq_true rfl, Nat.le_of_ble_eq_true rfl⟩ rfl (cat_len (Nat.le_of_ble_eq_true rfl)) dX11_handOver_11 ?_
    have hk_l0 := tk_ hts4.1 hk_l0
    show v_ l D cy ka cX11_handOver RX11 6 (some FieldType.int) "handOver" 3 64 (qf_ D cy σ0 z (some (.int r))) σ0 z _ 14 [(0, va_rf (some l0)), (1, .int l1), (2, .int l2), (3, .int l3), (4, .int l4)] [.int x3, .int l4]
    refine v_icmp_ge (tgt := 55) hf dX11_handOver_14 (by decide) (fun hq hf => ?_) (fun hq hf => ?_)
    · refine v_iload_n (x := l3) dX11_handOver_55 rfl 3 rfl ?_
      exact v_iret hf dX11_handOver_56
    · refine v_aload_n (x := (some l0)) dX11_handOver_17 rfl 0 rfl ?_
      refine v_getr cb_12 hk_l0 1 1201 rfl (by decide) rfl (lk_n kw_240 rfl) hf dX11_handOver_18 (fun r5 hf => ?_)
      refine v_iload (x := l4) dX11_handOver_21 4 rfl ?_
      obtain ⟨a6, rfl, hf⟩ := nn_of hf
      obtain ⟨hk_a6, hf⟩ := gt_of hf
      obtain ⟨r7, s8, hcs8, hf⟩ := bd_of hf
      have hts8 := c_Jx4a65c_get_915e3 (l := l) (D := D) (cy := cy) (ka := ka) hcs8
      refine v_callV cb_0 hk_a6 (As := [.int l4]) (rest := []) hts8 yb_Jx4a65c_get_915e3 kw_407 kw_408 kw_409 rfl ⟨Nat.le_of_ble_eq_true rfl, Nat.le_of_ble_eq_true rfl⟩ rfl (cat_len (Nat.le_of_ble_eq_true rfl)) dX11_handOver_23 ?_
      have hk_l0 := tk_ hts8.1 hk_l0
      show v_ l D cy ka cX11_handOver RX11 6 (some FieldType.int) "handOver" 3 64 (qf_ D cy σ0 z (some (.int r))) σ0 z _ 26 [(0, va_rf (some l0)), (1, .int l1), (2, .int l2), (3, .int l3), (4, .int l4)] [va_rf r7]
      refine v_cast cb_3 4 rfl kw_441 hf dX11_handOver_26 (fun hf => ?_)
      refine v_astore [(5, va_rf r7), (0, va_rf (some l0)), (1, .int l1), (2, .int l2), (3, .int l3), (4, .int l4)] dX11_handOver_29 (by decide) rfl ?_
      refine v_aload (x := r7) dX11_handOver_31 0 rfl ?_
      obtain ⟨a9, rfl, hf⟩ := nn_of hf
      obtain ⟨hk_a9, hf⟩ := gt_of hf
      refine v_geti cb_3 hk_a9 4 304 rfl (by decide) rfl (lk_n kw_473 rfl) hf dX11_handOver_33 (fun x10 hf => ?_)
      refine v_iload_n (x := l1) dX11_handOver_36 rfl 2 rfl ?_
      refine v_icmp_ne (tgt := 49) hf dX11_handOver_37 (by decide) (fun hq hf => ?_) (fun hq hf => ?_)
      · refine v_aload (x := (some a9)) dX11_handOver_40 0 rfl ?_
        refine v_iload_n (x := l2) dX11_handOver_42 rfl 3 rfl ?_
        refine v_puti2 cb_3 hk_a9 4 304 rfl (by decide) rfl (lk_n kw_473 rfl) (Or.inl rfl) rfl rfl hf dX11_handOver_43 (fun s11 hts11 hf => ?_)
        have hk_l0 := tk_ hts11 hk_l0
        have hk_a9 := tk_ hts11 hk_a9
        obtain ⟨x12, ex12⟩ : ∃ y : Int32, y = l3 + 1 := ⟨_, rfl⟩
        rw [lt_e, ← ex12] at hf
        refine v_iinc (v := x12) [(3, .int x12), (5, va_rf (some a9)), (0, va_rf (some l0)), (1, .int l1), (2, .int l2), (4, .int l4)] dX11_handOver_46 4 rfl (by rw [ex12]; rfl) (by decide) rfl ?_
        refine v_sub [2, 3, 4, 0, 5] (L2 := [(0, va_rf (some l0)), (1, .int l1), (2, .int l2), (3, .int x12), (4, .int l4)]) rfl ?_
        exact t_X11_handOver_b49 hrec_5 hf
      · refine v_sub [1, 2, 3, 4, 5] (L2 := [(0, va_rf (some l0)), (1, .int l1), (2, .int l2), (3, .int l3), (4, .int l4)]) rfl ?_
        exact t_X11_handOver_b49 hrec_5 hf
/-- LivesAhead.handOver(II)I -/
def f_X11_handOver (σ : TH) (p0 : Nat) (p1 : Int32) (p2 : Int32) : Option (Int32 × TH) :=
  f_X11_handOver_b5 fu_ σ p0 p1 p2 (0 : Int32) (0 : Int32)
set_option maxHeartbeats 4000000 in
set_option maxRecDepth 100000 in
theorem c_X11_handOver {l : Launch} {D : va_G} {cy : Nat → ClassId} {ka : Nat → Nat} {σ z : TH} {p0 : Nat} {p1 : Int32} {p2 : Int32} {r : Int32} (hf : f_X11_handOver σ p0 p1 p2 = some (r, z)) : ct_ l D cy ka yX11_handOver 3 64 [va_rf (some p0), .int p1, .int p2] σ (some (.int r)) z := by
  unfold f_X11_handOver at hf
  refine v_start (cc := cX11_handOver) (own := RX11) (maxL := 6) (ret := (some FieldType.int)) (nm := "handOver") (by decide +kernel) kw_448 rfl rfl (by simp [lg_sl, va_rf_cat, cat_i, cat_l]) ?_
  refine v_eqL (L2 := [(0, va_rf (some p0)), (1, .int p1), (2, .int p2)]) (by simp [lv_args, va_rf_cat, cat_i, cat_l]) ?_
  refine v_iconst (v := 0) dX11_handOver_0 (by decide) ?_
  refine v_istore_n [(3, .int (0 : Int32)), (0, va_rf (some p0)), (1, .int p1), (2, .int p2)] dX11_handOver_1 rfl (by decide) rfl ?_
  refine v_iconst (v := 0) dX11_handOver_2 (by decide) ?_
  refine v_istore [(4, .int (0 : Int32)), (3, .int (0 : Int32)), (0, va_rf (some p0)), (1, .int p1), (2, .int p2)] dX11_handOver_3 (by decide) rfl ?_
  refine v_sub [2, 3, 4, 1, 0] (L2 := [(0, va_rf (some p0)), (1, .int p1), (2, .int p2), (3, .int (0 : Int32)), (4, .int (0 : Int32))]) rfl ?_
  exact t_X11_handOver_b5  _ _ _ _ _ _ _ hf
theorem dX11_storiesOf_0 : decode cX11_storiesOf 0 = .ok (.iconst 0, 1) := by decide +kernel
theorem dX11_storiesOf_1 : decode cX11_storiesOf 1 = .ok (.istore_n 2, 1) := by decide +kernel
theorem dX11_storiesOf_2 : decode cX11_storiesOf 2 = .ok (.iconst 0, 1) := by decide +kernel
theorem dX11_storiesOf_3 : decode cX11_storiesOf 3 = .ok (.istore_n 3, 1) := by decide +kernel
theorem dX11_storiesOf_4 : decode cX11_storiesOf 4 = .ok (.iload_n 3, 1) := by decide +kernel
theorem dX11_storiesOf_5 : decode cX11_storiesOf 5 = .ok (.aload_n 0, 1) := by decide +kernel
theorem dX11_storiesOf_6 : decode cX11_storiesOf 6 = .ok (.getfield 16, 3) := by decide +kernel
theorem dX11_storiesOf_9 : decode cX11_storiesOf 9 = .ok (.invokevirtual 101, 3) := by decide +kernel
theorem dX11_storiesOf_12 : decode cX11_storiesOf 12 = .ok (.if_icmp .ge 38, 3) := by decide +kernel
theorem dX11_storiesOf_15 : decode cX11_storiesOf 15 = .ok (.iload_n 2, 1) := by decide +kernel
theorem dX11_storiesOf_16 : decode cX11_storiesOf 16 = .ok (.aload_n 0, 1) := by decide +kernel
theorem dX11_storiesOf_17 : decode cX11_storiesOf 17 = .ok (.getfield 16, 3) := by decide +kernel
theorem dX11_storiesOf_20 : decode cX11_storiesOf 20 = .ok (.iload_n 3, 1) := by decide +kernel
theorem dX11_storiesOf_21 : decode cX11_storiesOf 21 = .ok (.invokevirtual 238, 3) := by decide +kernel
theorem dX11_storiesOf_24 : decode cX11_storiesOf 24 = .ok (.checkcast 144, 3) := by decide +kernel
theorem dX11_storiesOf_27 : decode cX11_storiesOf 27 = .ok (.getfield 163, 3) := by decide +kernel
theorem dX11_storiesOf_30 : decode cX11_storiesOf 30 = .ok (.iload_n 1, 1) := by decide +kernel
theorem dX11_storiesOf_31 : decode cX11_storiesOf 31 = .ok (.if_icmp .ne 7, 3) := by decide +kernel
theorem dX11_storiesOf_34 : decode cX11_storiesOf 34 = .ok (.iconst 1, 1) := by decide +kernel
theorem dX11_storiesOf_35 : decode cX11_storiesOf 35 = .ok (.goto 4, 3) := by decide +kernel
theorem dX11_storiesOf_38 : decode cX11_storiesOf 38 = .ok (.iconst 0, 1) := by decide +kernel
theorem dX11_storiesOf_39 : decode cX11_storiesOf 39 = .ok (.invokestatic 169, 3) := by decide +kernel
theorem dX11_storiesOf_42 : decode cX11_storiesOf 42 = .ok (.iadd, 1) := by decide +kernel
theorem dX11_storiesOf_43 : decode cX11_storiesOf 43 = .ok (.istore_n 2, 1) := by decide +kernel
theorem dX11_storiesOf_44 : decode cX11_storiesOf 44 = .ok (.iinc 3 1, 3) := by decide +kernel
theorem dX11_storiesOf_47 : decode cX11_storiesOf 47 = .ok (.goto (-43), 3) := by decide +kernel
theorem dX11_storiesOf_50 : decode cX11_storiesOf 50 = .ok (.iload_n 2, 1) := by decide +kernel
theorem dX11_storiesOf_51 : decode cX11_storiesOf 51 = .ok (.ireturn, 1) := by decide +kernel
def f_X11_storiesOf_b39 (rec_4 : TH → Nat → Int32 → Int32 → Int32 → Option (Int32 × TH)) (σ : TH) (l0 : Nat) (l1 : Int32) (l3 : Int32) (t0 : Int32) (t1 : Int32) : Option (Int32 × TH) :=
  bd_ (f_X11_asNumber σ t0) fun x11 s12 => lt_ (t1 + x11) fun x13 => lt_ (l3 + 1) fun x14 => rec_4 s12 l0 l1 x13 x14
set_option maxHeartbeats 4000000 in
set_option maxRecDepth 100000 in
theorem t_X11_storiesOf_b39 {l : Launch} {D : va_G} {cy : Nat → ClassId} {ka : Nat → Nat} {σ0 z : TH} {r : Int32} {rec_4 : TH → Nat → Int32 → Int32 → Int32 → Option (Int32 × TH)} (hrec_4 : ∀ (σ : TH) (l0 : Nat) (l1 : Int32) (l2 : Int32) (l3 : Int32), rec_4 σ l0 l1 l2 l3 = some (r, z) → v_ l D cy ka cX11_storiesOf RX11 4 (some FieldType.int) "storiesOf" 3 64 (qf_ D cy σ0 z (some (.int r))) σ0 z σ 4 [(0, va_rf (some l0)), (1, .int l1), (2, .int l2), (3, .int l3)] []) {σ : TH} {l0 : Nat} {l1 : Int32} {l3 : Int32} {t0 : Int32} {t1 : Int32} (hf : f_X11_storiesOf_b39 rec_4 σ l0 l1 l3 t0 t1 = some (r, z)) : v_ l D cy ka cX11_storiesOf RX11 4 (some FieldType.int) "storiesOf" 3 64 (qf_ D cy σ0 z (some (.int r))) σ0 z σ 39 [(0, va_rf (some l0)), (1, .int l1), (3, .int l3)] [.int t0, .int t1] := by
  unfold f_X11_storiesOf_b39 at hf
  obtain ⟨x11, s12, hcs12, hf⟩ := bd_of hf
  have hts12 := c_X11_asNumber (l := l) (D := D) (cy := cy) (ka := ka) hcs12
  refine v_callS (As := [.int t0]) (rest := [.int t1]) hts12 yb_X11_asNumber kw_442 kw_443 rfl ⟨Nat.le_of_ble_eq_true rfl, Nat.le_of_ble_eq_true rfl⟩ rfl (cat_len (Nat.le_of_ble_eq_true rfl)) dX11_storiesOf_39 ?_
  show v_ l D cy ka cX11_storiesOf RX11 4 (some FieldType.int) "storiesOf" 3 64 (qf_ D cy σ0 z (some (.int r))) σ0 z _ 42 [(0, va_rf (some l0)), (1, .int l1), (3, .int l3)] [.int x11, .int t1]
  refine v_iadd dX11_storiesOf_42 ?_
  obtain ⟨x13, ex13⟩ : ∃ y : Int32, y = t1 + x11 := ⟨_, rfl⟩
  rw [lt_e, ← ex13] at hf
  rw [← ex13]
  refine v_istore_n [(2, .int x13), (0, va_rf (some l0)), (1, .int l1), (3, .int l3)] dX11_storiesOf_43 rfl (by decide) rfl ?_
  obtain ⟨x14, ex14⟩ : ∃ y : Int32, y = l3 + 1 := ⟨_, rfl⟩
  rw [lt_e, ← ex14] at hf
  refine v_iinc (v := x14) [(3, .int x14), (2, .int x13), (0, va_rf (some l0)), (1, .int l1)] dX11_storiesOf_44 3 rfl (by rw [ex14]; rfl) (by decide) rfl ?_
  refine v_goto (tgt := 4) dX11_storiesOf_47 (by decide) ?_
  refine v_sub [2, 3, 1, 0] (L2 := [(0, va_rf (some l0)), (1, .int l1), (2, .int x13), (3, .int x14)]) rfl ?_
  exact hrec_4 _ _ _ _ _ hf
def f_X11_storiesOf_b4 : Nat → TH → Nat → Int32 → Int32 → Int32 → Option (Int32 × TH)
  | 0, _, _, _, _, _ => none
  | n + 1, σ, l0, l1, l2, l3 => gt_ (kd_ σ l0 = 13) <| lt_ (fr_ σ 1201 l0) fun r1 => nn_ r1 fun a2 => gt_ (kd_ σ a2 = 1) <| bd_ (f_Jx4a65c_size_8abf5 σ a2) fun x3 s4 => if x3 ≤ l3 then (some (l2, s4)) else (lt_ (fr_ s4 1201 l0) fun r5 => nn_ r5 fun a6 => gt_ (kd_ s4 a6 = 1) <| bd_ (f_Jx4a65c_get_915e3 s4 a6 l3) fun r7 s8 => gt_ (Option.elim r7 4 (kd_ s8) = 4) <| nn_ r7 fun a9 => gt_ (kd_ s8 a9 = 4) <| lt_ (fi_ s8 304 a9) fun x10 => if x10 = l1 then (f_X11_storiesOf_b39 (f_X11_storiesOf_b4 n) s8 l0 l1 l3 (1 : Int32) l2) else (f_X11_storiesOf_b39 (f_X11_storiesOf_b4 n) s8 l0 l1 l3 (0 : Int32) l2))
set_option maxHeartbeats 4000000 in
set_option maxRecDepth 100000 in
theorem t_X11_storiesOf_b4 {l : Launch} {D : va_G} {cy : Nat → ClassId} {ka : Nat → Nat} {σ0 z : TH} {r : Int32}  : ∀ (n : Nat) (σ : TH) (l0 : Nat) (l1 : Int32) (l2 : Int32) (l3 : Int32), f_X11_storiesOf_b4 n σ l0 l1 l2 l3 = some (r, z) → v_ l D cy ka cX11_storiesOf RX11 4 (some FieldType.int) "storiesOf" 3 64 (qf_ D cy σ0 z (some (.int r))) σ0 z σ 4 [(0, va_rf (some l0)), (1, .int l1), (2, .int l2), (3, .int l3)] [] := by
  intro n
  induction n with
  | zero => intro σ l0 l1 l2 l3 hf; unfold f_X11_storiesOf_b4 at hf; cases hf
  | succ n ih =>
    intro σ l0 l1 l2 l3 hf
    unfold f_X11_storiesOf_b4 at hf
    have hrec_4 := ih
    refine v_iload_n (x := l3) dX11_storiesOf_4 rfl 3 rfl ?_
    refine v_aload_n (x := (some l0)) dX11_storiesOf_5 rfl 0 rfl ?_
    obtain ⟨hk_l0, hf⟩ := gt_of hf
    refine v_getr cb_12 hk_l0 1 1201 rfl (by decide) rfl (lk_n kw_240 rfl) hf dX11_storiesOf_6 (fun r1 hf => ?_)
    obtain ⟨a2, rfl, hf⟩ := nn_of hf
    obtain ⟨hk_a2, hf⟩ := gt_of hf
    obtain ⟨x3, s4, hcs4, hf⟩ := bd_of hf
    have hts4 := c_Jx4a65c_size_8abf5 (l := l) (D := D) (cy := cy) (ka := ka) hcs4
    refine v_callV cb_0 hk_a2 (As := []) (rest := [.int l3]) hts4 yb_Jx4a65c_size_8abf5 kw_311 kw_312 kw_313 rfl ⟨Nat.le_of_ble_eq_true rfl, Nat.le_of_ble_eq_true rfl⟩ rfl (cat_len (Nat.le_of_ble_eq_true rfl)) dX11_storiesOf_9 ?_
    have hk_l0 := tk_ hts4.1 hk_l0
    show v_ l D cy ka cX11_storiesOf RX11 4 (some FieldType.int) "storiesOf" 3 64 (qf_ D cy σ0 z (some (.int r))) σ0 z _ 12 [(0, va_rf (some l0)), (1, .int l1), (2, .int l2), (3, .int l3)] [.int x3, .int l3]
    refine v_icmp_ge (tgt := 50) hf dX11_storiesOf_12 (by decide) (fun hq hf => ?_) (fun hq hf => ?_)
    · refine v_iload_n (x := l2) dX11_storiesOf_50 rfl 2 rfl ?_
      exact v_iret hf dX11_storiesOf_51
    · refine v_iload_n (x := l2) dX11_storiesOf_15 rfl 2 rfl ?_
      refine v_aload_n (x := (some l0)) dX11_storiesOf_16 rfl 0 rfl ?_
      refine v_getr cb_12 hk_l0 1 1201 rfl (by decide) rfl (lk_n kw_240 rfl) hf dX11_storiesOf_17 (fun r5 hf => ?_)
      refine v_iload_n (x := l3) dX11_storiesOf_20 rfl 3 rfl ?_
      obtain ⟨a6, rfl, hf⟩ := nn_of hf
      obtain ⟨hk_a6, hf⟩ := gt_of hf
      obtain ⟨r7, s8, hcs8, hf⟩ := bd_of hf
      have hts8 := c_Jx4a65c_get_915e3 (l := l) (D := D) (cy := cy) (ka := ka) hcs8
      refine v_callV cb_0 hk_a6 (As := [.int l3]) (rest := [.int l2]) hts8 yb_Jx4a65c_get_915e3 kw_407 kw_408 kw_409 rfl ⟨Nat.le_of_ble_eq_true rfl, Nat.le_of_ble_eq_true rfl⟩ rfl (cat_len (Nat.le_of_ble_eq_true rfl)) dX11_storiesOf_21 ?_
      have hk_l0 := tk_ hts8.1 hk_l0
      show v_ l D cy ka cX11_storiesOf RX11 4 (some FieldType.int) "storiesOf" 3 64 (qf_ D cy σ0 z (some (.int r))) σ0 z _ 24 [(0, va_rf (some l0)), (1, .int l1), (2, .int l2), (3, .int l3)] [va_rf r7, .int l2]
      refine v_cast cb_3 4 rfl kw_441 hf dX11_storiesOf_24 (fun hf => ?_)
      obtain ⟨a9, rfl, hf⟩ := nn_of hf
      obtain ⟨hk_a9, hf⟩ := gt_of hf
      refine v_geti cb_3 hk_a9 4 304 rfl (by decide) rfl (lk_n kw_473 rfl) hf dX11_storiesOf_27 (fun x10 hf => ?_)
      refine v_iload_n (x := l1) dX11_storiesOf_30 rfl 1 rfl ?_
      refine v_icmp_ne (tgt := 38) hf dX11_storiesOf_31 (by decide) (fun hq hf => ?_) (fun hq hf => ?_)
      · refine v_iconst (v := 1) dX11_storiesOf_34 (by decide) ?_
        refine v_goto (tgt := 39) dX11_storiesOf_35 (by decide) ?_
        refine v_sub [0, 1, 3] (L2 := [(0, va_rf (some l0)), (1, .int l1), (3, .int l3)]) rfl ?_
        exact t_X11_storiesOf_b39 hrec_4 hf
      · refine v_iconst (v := 0) dX11_storiesOf_38 (by decide) ?_
        refine v_sub [0, 1, 3] (L2 := [(0, va_rf (some l0)), (1, .int l1), (3, .int l3)]) rfl ?_
        exact t_X11_storiesOf_b39 hrec_4 hf
/-- LivesAhead.storiesOf(I)I -/
def f_X11_storiesOf (σ : TH) (p0 : Nat) (p1 : Int32) : Option (Int32 × TH) :=
  f_X11_storiesOf_b4 fu_ σ p0 p1 (0 : Int32) (0 : Int32)
set_option maxHeartbeats 4000000 in
set_option maxRecDepth 100000 in
theorem c_X11_storiesOf {l : Launch} {D : va_G} {cy : Nat → ClassId} {ka : Nat → Nat} {σ z : TH} {p0 : Nat} {p1 : Int32} {r : Int32} (hf : f_X11_storiesOf σ p0 p1 = some (r, z)) : ct_ l D cy ka yX11_storiesOf 3 64 [va_rf (some p0), .int p1] σ (some (.int r)) z := by
  unfold f_X11_storiesOf at hf
  refine v_start (cc := cX11_storiesOf) (own := RX11) (maxL := 4) (ret := (some FieldType.int)) (nm := "storiesOf") (by decide +kernel) kw_440 rfl rfl (by simp [lg_sl, va_rf_cat, cat_i, cat_l]) ?_
  refine v_eqL (L2 := [(0, va_rf (some p0)), (1, .int p1)]) (by simp [lv_args, va_rf_cat, cat_i, cat_l]) ?_
  refine v_iconst (v := 0) dX11_storiesOf_0 (by decide) ?_
  refine v_istore_n [(2, .int (0 : Int32)), (0, va_rf (some p0)), (1, .int p1)] dX11_storiesOf_1 rfl (by decide) rfl ?_
  refine v_iconst (v := 0) dX11_storiesOf_2 (by decide) ?_
  refine v_istore_n [(3, .int (0 : Int32)), (2, .int (0 : Int32)), (0, va_rf (some p0)), (1, .int p1)] dX11_storiesOf_3 rfl (by decide) rfl ?_
  refine v_sub [2, 3, 1, 0] (L2 := [(0, va_rf (some p0)), (1, .int p1), (2, .int (0 : Int32)), (3, .int (0 : Int32))]) rfl ?_
  exact t_X11_storiesOf_b4  _ _ _ _ _ _ hf
theorem dX11_heirOf_0 : decode cX11_heirOf 0 = .ok (.iconst (-1), 1) := by decide +kernel
theorem dX11_heirOf_1 : decode cX11_heirOf 1 = .ok (.istore_n 2, 1) := by decide +kernel
theorem dX11_heirOf_2 : decode cX11_heirOf 2 = .ok (.iconst 0, 1) := by decide +kernel
theorem dX11_heirOf_3 : decode cX11_heirOf 3 = .ok (.istore_n 3, 1) := by decide +kernel
theorem dX11_heirOf_4 : decode cX11_heirOf 4 = .ok (.iconst 0, 1) := by decide +kernel
theorem dX11_heirOf_5 : decode cX11_heirOf 5 = .ok (.istore 4, 2) := by decide +kernel
theorem dX11_heirOf_7 : decode cX11_heirOf 7 = .ok (.iload 4, 2) := by decide +kernel
theorem dX11_heirOf_9 : decode cX11_heirOf 9 = .ok (.aload_n 0, 1) := by decide +kernel
theorem dX11_heirOf_10 : decode cX11_heirOf 10 = .ok (.getfield 10, 3) := by decide +kernel
theorem dX11_heirOf_13 : decode cX11_heirOf 13 = .ok (.invokevirtual 101, 3) := by decide +kernel
theorem dX11_heirOf_16 : decode cX11_heirOf 16 = .ok (.if_icmp .ge 61, 3) := by decide +kernel
theorem dX11_heirOf_19 : decode cX11_heirOf 19 = .ok (.iload 4, 2) := by decide +kernel
theorem dX11_heirOf_21 : decode cX11_heirOf 21 = .ok (.iload_n 1, 1) := by decide +kernel
theorem dX11_heirOf_22 : decode cX11_heirOf 22 = .ok (.if_icmp .eq 49, 3) := by decide +kernel
theorem dX11_heirOf_25 : decode cX11_heirOf 25 = .ok (.aload_n 0, 1) := by decide +kernel
theorem dX11_heirOf_26 : decode cX11_heirOf 26 = .ok (.getfield 10, 3) := by decide +kernel
theorem dX11_heirOf_29 : decode cX11_heirOf 29 = .ok (.iload 4, 2) := by decide +kernel
theorem dX11_heirOf_31 : decode cX11_heirOf 31 = .ok (.invokevirtual 238, 3) := by decide +kernel
theorem dX11_heirOf_34 : decode cX11_heirOf 34 = .ok (.checkcast 105, 3) := by decide +kernel
theorem dX11_heirOf_37 : decode cX11_heirOf 37 = .ok (.getfield 135, 3) := by decide +kernel
theorem dX11_heirOf_40 : decode cX11_heirOf 40 = .ok (.ifCond .ne 6, 3) := by decide +kernel
theorem dX11_heirOf_43 : decode cX11_heirOf 43 = .ok (.goto 28, 3) := by decide +kernel
theorem dX11_heirOf_46 : decode cX11_heirOf 46 = .ok (.aload_n 0, 1) := by decide +kernel
theorem dX11_heirOf_47 : decode cX11_heirOf 47 = .ok (.iload 4, 2) := by decide +kernel
theorem dX11_heirOf_49 : decode cX11_heirOf 49 = .ok (.invokevirtual 467, 3) := by decide +kernel
theorem dX11_heirOf_52 : decode cX11_heirOf 52 = .ok (.istore 5, 2) := by decide +kernel
theorem dX11_heirOf_54 : decode cX11_heirOf 54 = .ok (.iload_n 2, 1) := by decide +kernel
theorem dX11_heirOf_55 : decode cX11_heirOf 55 = .ok (.iconst (-1), 1) := by decide +kernel
theorem dX11_heirOf_56 : decode cX11_heirOf 56 = .ok (.if_icmp .eq 9, 3) := by decide +kernel
theorem dX11_heirOf_59 : decode cX11_heirOf 59 = .ok (.iload 5, 2) := by decide +kernel
theorem dX11_heirOf_61 : decode cX11_heirOf 61 = .ok (.iload_n 3, 1) := by decide +kernel
theorem dX11_heirOf_62 : decode cX11_heirOf 62 = .ok (.if_icmp .ge 9, 3) := by decide +kernel
theorem dX11_heirOf_65 : decode cX11_heirOf 65 = .ok (.iload 4, 2) := by decide +kernel
theorem dX11_heirOf_67 : decode cX11_heirOf 67 = .ok (.istore_n 2, 1) := by decide +kernel
theorem dX11_heirOf_68 : decode cX11_heirOf 68 = .ok (.iload 5, 2) := by decide +kernel
theorem dX11_heirOf_70 : decode cX11_heirOf 70 = .ok (.istore_n 3, 1) := by decide +kernel
theorem dX11_heirOf_71 : decode cX11_heirOf 71 = .ok (.iinc 4 1, 3) := by decide +kernel
theorem dX11_heirOf_74 : decode cX11_heirOf 74 = .ok (.goto (-67), 3) := by decide +kernel
theorem dX11_heirOf_77 : decode cX11_heirOf 77 = .ok (.iload_n 2, 1) := by decide +kernel
theorem dX11_heirOf_78 : decode cX11_heirOf 78 = .ok (.ireturn, 1) := by decide +kernel
def f_X11_heirOf_b71 (rec_7 : TH → Nat → Int32 → Int32 → Int32 → Int32 → Option (Int32 × TH)) (σ : TH) (l0 : Nat) (l1 : Int32) (l2 : Int32) (l3 : Int32) (l4 : Int32) : Option (Int32 × TH) :=
  lt_ (l4 + 1) fun x5 => rec_7 σ l0 l1 l2 l3 x5
set_option maxHeartbeats 4000000 in
set_option maxRecDepth 100000 in
theorem t_X11_heirOf_b71 {l : Launch} {D : va_G} {cy : Nat → ClassId} {ka : Nat → Nat} {σ0 z : TH} {r : Int32} {rec_7 : TH → Nat → Int32 → Int32 → Int32 → Int32 → Option (Int32 × TH)} (hrec_7 : ∀ (σ : TH) (l0 : Nat) (l1 : Int32) (l2 : Int32) (l3 : Int32) (l4 : Int32), rec_7 σ l0 l1 l2 l3 l4 = some (r, z) → v_ l D cy ka cX11_heirOf RX11 6 (some FieldType.int) "heirOf" 4 87 (qf_ D cy σ0 z (some (.int r))) σ0 z σ 7 [(0, va_rf (some l0)), (1, .int l1), (2, .int l2), (3, .int l3), (4, .int l4)] []) {σ : TH} {l0 : Nat} {l1 : Int32} {l2 : Int32} {l3 : Int32} {l4 : Int32} (hf : f_X11_heirOf_b71 rec_7 σ l0 l1 l2 l3 l4 = some (r, z)) : v_ l D cy ka cX11_heirOf RX11 6 (some FieldType.int) "heirOf" 4 87 (qf_ D cy σ0 z (some (.int r))) σ0 z σ 71 [(0, va_rf (some l0)), (1, .int l1), (2, .int l2), (3, .int l3), (4, .int l4)] [] := by
  unfold f_X11_heirOf_b71 at hf
  obtain ⟨x5, ex5⟩ : ∃ y : Int32, y = l4 + 1 := ⟨_, rfl⟩
  rw [lt_e, ← ex5] at hf
  refine v_iinc (v := x5) [(4, .int x5), (0, va_rf (some l0)), (1, .int l1), (2, .int l2), (3, .int l3)] dX11_heirOf_71 4 rfl (by rw [ex5]; rfl) (by decide) rfl ?_
  refine v_goto (tgt := 7) dX11_heirOf_74 (by decide) ?_
  refine v_sub [1, 2, 3, 4, 0] (L2 := [(0, va_rf (some l0)), (1, .int l1), (2, .int l2), (3, .int l3), (4, .int x5)]) rfl ?_
  exact hrec_7 _ _ _ _ _ _ hf
def f_X11_heirOf_b65 (rec_7 : TH → Nat → Int32 → Int32 → Int32 → Int32 → Option (Int32 × TH)) (σ : TH) (l0 : Nat) (l1 : Int32) (l4 : Int32) (l5 : Int32) : Option (Int32 × TH) :=
  f_X11_heirOf_b71 rec_7 σ l0 l1 l4 l5 l4
set_option maxHeartbeats 4000000 in
set_option maxRecDepth 100000 in
theorem t_X11_heirOf_b65 {l : Launch} {D : va_G} {cy : Nat → ClassId} {ka : Nat → Nat} {σ0 z : TH} {r : Int32} {rec_7 : TH → Nat → Int32 → Int32 → Int32 → Int32 → Option (Int32 × TH)} (hrec_7 : ∀ (σ : TH) (l0 : Nat) (l1 : Int32) (l2 : Int32) (l3 : Int32) (l4 : Int32), rec_7 σ l0 l1 l2 l3 l4 = some (r, z) → v_ l D cy ka cX11_heirOf RX11 6 (some FieldType.int) "heirOf" 4 87 (qf_ D cy σ0 z (some (.int r))) σ0 z σ 7 [(0, va_rf (some l0)), (1, .int l1), (2, .int l2), (3, .int l3), (4, .int l4)] []) {σ : TH} {l0 : Nat} {l1 : Int32} {l4 : Int32} {l5 : Int32} (hf : f_X11_heirOf_b65 rec_7 σ l0 l1 l4 l5 = some (r, z)) : v_ l D cy ka cX11_heirOf RX11 6 (some FieldType.int) "heirOf" 4 87 (qf_ D cy σ0 z (some (.int r))) σ0 z σ 65 [(0, va_rf (some l0)), (1, .int l1), (4, .int l4), (5, .int l5)] [] := by
  unfold f_X11_heirOf_b65 at hf
  refine v_iload (x := l4) dX11_heirOf_65 2 rfl ?_
  refine v_istore_n [(2, .int l4), (0, va_rf (some l0)), (1, .int l1), (4, .int l4), (5, .int l5)] dX11_heirOf_67 rfl (by decide) rfl ?_
  refine v_iload (x := l5) dX11_heirOf_68 4 rfl ?_
  refine v_istore_n [(3, .int l5), (2, .int l4), (0, va_rf (some l0)), (1, .int l1), (4, .int l4), (5, .int l5)] dX11_heirOf_70 rfl (by decide) rfl ?_
  refine v_sub [2, 3, 1, 0, 4] (L2 := [(0, va_rf (some l0)), (1, .int l1), (2, .int l4), (3, .int l5), (4, .int l4)]) rfl ?_
  exact t_X11_heirOf_b71 hrec_7 hf
def f_X11_heirOf_b7 : Nat → TH → Nat → Int32 → Int32 → Int32 → Int32 → Option (Int32 × TH)
  | 0, _, _, _, _, _, _ => none
  | n + 1, σ, l0, l1, l2, l3, l4 => gt_ (kd_ σ l0 = 13) <| lt_ (fr_ σ 1200 l0) fun r1 => nn_ r1 fun a2 => gt_ (kd_ σ a2 = 1) <| bd_ (f_Jx4a65c_size_8abf5 σ a2) fun x3 s4 => if x3 ≤ l4 then (some (l2, s4)) else (if l4 = l1 then (f_X11_heirOf_b71 (f_X11_heirOf_b7 n) s4 l0 l1 l2 l3 l4) else (lt_ (fr_ s4 1200 l0) fun r6 => nn_ r6 fun a7 => gt_ (kd_ s4 a7 = 1) <| bd_ (f_Jx4a65c_get_915e3 s4 a7 l4) fun r8 s9 => gt_ (Option.elim r8 12 (kd_ s9) = 12) <| nn_ r8 fun a10 => gt_ (kd_ s9 a10 = 12) <| lt_ (fi_ s9 1101 a10) fun x11 => if x11 = 0 then (f_X11_heirOf_b71 (f_X11_heirOf_b7 n) s9 l0 l1 l2 l3 l4) else (bd_ (f_X11_storiesOf s9 l0 l4) fun x12 s13 => if l2 = (-1 : Int32) then (f_X11_heirOf_b65 (f_X11_heirOf_b7 n) s13 l0 l1 l4 x12) else (if l3 ≤ x12 then (f_X11_heirOf_b71 (f_X11_heirOf_b7 n) s13 l0 l1 l2 l3 l4) else (f_X11_heirOf_b65 (f_X11_heirOf_b7 n) s13 l0 l1 l4 x12)))))
set_option maxHeartbeats 4000000 in
set_option maxRecDepth 100000 in
theorem t_X11_heirOf_b7 {l : Launch} {D : va_G} {cy : Nat → ClassId} {ka : Nat → Nat} {σ0 z : TH} {r : Int32}  : ∀ (n : Nat) (σ : TH) (l0 : Nat) (l1 : Int32) (l2 : Int32) (l3 : Int32) (l4 : Int32), f_X11_heirOf_b7 n σ l0 l1 l2 l3 l4 = some (r, z) → v_ l D cy ka cX11_heirOf RX11 6 (some FieldType.int) "heirOf" 4 87 (qf_ D cy σ0 z (some (.int r))) σ0 z σ 7 [(0, va_rf (some l0)), (1, .int l1), (2, .int l2), (3, .int l3), (4, .int l4)] [] := by
  intro n
  induction n with
  | zero => intro σ l0 l1 l2 l3 l4 hf; unfold f_X11_heirOf_b7 at hf; cases hf
  | succ n ih =>
    intro σ l0 l1 l2 l3 l4 hf
    unfold f_X11_heirOf_b7 at hf
    have hrec_7 := ih
    refine v_iload (x := l4) dX11_heirOf_7 4 rfl ?_
    refine v_aload_n (x := (some l0)) dX11_heirOf_9 rfl 0 rfl ?_
    obtain ⟨hk_l0, hf⟩ := gt_of hf
    refine v_getr cb_12 hk_l0 0 1200 rfl (by decide) rfl (lk_n kw_239 rfl) hf dX11_heirOf_10 (fun r1 hf => ?_)
    obtain ⟨a2, rfl, hf⟩ := nn_of hf
    obtain ⟨hk_a2, hf⟩ := gt_of hf
    obtain ⟨x3, s4, hcs4, hf⟩ := bd_of hf
    have hts4 := c_Jx4a65c_size_8abf5 (l := l) (D := D) (cy := cy) (ka := ka) hcs4
    refine v_callV cb_0 hk_a2 (As := []) (rest := [.int l4]) hts4 yb_Jx4a65c_size_8abf5 kw_311 kw_312 kw_313 rfl ⟨Nat.le_of_ble_eq_true rfl, Nat.le_of_ble_eq_true rfl⟩ rfl (cat_len (Nat.le_of_ble_eq_true rfl)) dX11_heirOf_13 ?_
    have hk_l0 := tk_ hts4.1 hk_l0
    show v_ l D cy ka cX11_heirOf RX11 6 (some FieldType.int) "heirOf" 4 87 (qf_ D cy σ0 z (some (.int r))) σ0 z _ 16 [(0, va_rf (some l0)), (1, .int l1), (2, .int l2), (3, .int l3), (4, .int l4)] [.int x3, .int l4]
    refine v_icmp_ge (tgt := 77) hf dX11_heirOf_16 (by decide) (fun hq hf => ?_) (fun hq hf => ?_)
    · refine v_iload_n (x := l2) dX11_heirOf_77 rfl 2 rfl ?_
      exact v_iret hf dX11_heirOf_78
    · refine v_iload (x := l4) dX11_heirOf_19 4 rfl ?_
      refine v_iload_n (x := l1) dX11_heirOf_21 rfl 1 rfl ?_
      refine v_icmp_eq (tgt := 71) hf dX11_heirOf_22 (by decide) (fun hq hf => ?_) (fun hq hf => ?_)
      · refine v_sub [0, 1, 2, 3, 4] (L2 := [(0, va_rf (some l0)), (1, .int l1), (2, .int l2), (3, .int l3), (4, .int l4)]) rfl ?_
        exact t_X11_heirOf_b71 hrec_7 hf
      · refine v_aload_n (x := (some l0)) dX11_heirOf_25 rfl 0 rfl ?_
        refine v_getr cb_12 hk_l0 0 1200 rfl (by decide) rfl (lk_n kw_239 rfl) hf dX11_heirOf_26 (fun r6 hf => ?_)
        refine v_iload (x := l4) dX11_heirOf_29 4 rfl ?_
        obtain ⟨a7, rfl, hf⟩ := nn_of hf
        obtain ⟨hk_a7, hf⟩ := gt_of hf
        obtain ⟨r8, s9, hcs9, hf⟩ := bd_of hf
        have hts9 := c_Jx4a65c_get_915e3 (l := l) (D := D) (cy := cy) (ka := ka) hcs9
        refine v_callV cb_0 hk_a7 (As := [.int l4]) (rest := []) hts9 yb_Jx4a65c_get_915e3 kw_407 kw_408 kw_409 rfl ⟨Nat.le_of_ble_eq_true rfl, Nat.le_of_ble_eq_true rfl⟩ rfl (cat_len (Nat.le_of_ble_eq_true rfl)) dX11_heirOf_31 ?_
        have hk_l0 := tk_ hts9.1 hk_l0
        show v_ l D cy ka cX11_heirOf RX11 6 (some FieldType.int) "heirOf" 4 87 (qf_ D cy σ0 z (some (.int r))) σ0 z _ 34 [(0, va_rf (some l0)), (1, .int l1), (2, .int l2), (3, .int l3), (4, .int l4)] [va_rf r8]
        refine v_cast cb_11 12 rfl kw_315 hf dX11_heirOf_34 (fun hf => ?_)
        obtain ⟨a10, rfl, hf⟩ := nn_of hf
        obtain ⟨hk_a10, hf⟩ := gt_of hf
        refine v_geti cb_11 hk_a10 1 1101 rfl (by decide) rfl (lk_n kw_324 rfl) hf dX11_heirOf_37 (fun x11 hf => ?_)
        refine v_if_ne (tgt := 46) hf dX11_heirOf_40 (by decide) (fun hq hf => ?_) (fun hq hf => ?_)
        · refine v_goto (tgt := 71) dX11_heirOf_43 (by decide) ?_
          refine v_sub [0, 1, 2, 3, 4] (L2 := [(0, va_rf (some l0)), (1, .int l1), (2, .int l2), (3, .int l3), (4, .int l4)]) rfl ?_
          exact t_X11_heirOf_b71 hrec_7 hf
        · refine v_aload_n (x := (some l0)) dX11_heirOf_46 rfl 0 rfl ?_
          refine v_iload (x := l4) dX11_heirOf_47 4 rfl ?_
          obtain ⟨x12, s13, hcs13, hf⟩ := bd_of hf
          have hts13 := c_X11_storiesOf (l := l) (D := D) (cy := cy) (ka := ka) hcs13
          refine v_callV cb_12 hk_l0 (As := [.int l4]) (rest := []) hts13 yb_X11_storiesOf kw_437 kw_439 kp_9 rfl ⟨Nat.le_of_ble_eq_true rfl, Nat.le_of_ble_eq_true rfl⟩ rfl (cat_len (Nat.le_of_ble_eq_true rfl)) dX11_heirOf_49 ?_
          have hk_l0 := tk_ hts13.1 hk_l0
          show v_ l D cy ka cX11_heirOf RX11 6 (some FieldType.int) "heirOf" 4 87 (qf_ D cy σ0 z (some (.int r))) σ0 z _ 52 [(0, va_rf (some l0)), (1, .int l1), (2, .int l2), (3, .int l3), (4, .int l4)] [.int x12]
          refine v_istore [(5, .int x12), (0, va_rf (some l0)), (1, .int l1), (2, .int l2), (3, .int l3), (4, .int l4)] dX11_heirOf_52 (by decide) rfl ?_
          refine v_iload_n (x := l2) dX11_heirOf_54 rfl 3 rfl ?_
          refine v_iconst (v := (-1)) dX11_heirOf_55 (by decide) ?_
          refine v_icmp_eq (tgt := 65) hf dX11_heirOf_56 (by decide) (fun hq hf => ?_) (fun hq hf => ?_)
          · refine v_sub [1, 2, 5, 0] (L2 := [(0, va_rf (some l0)), (1, .int l1), (4, .int l4), (5, .int x12)]) rfl ?_
            exact t_X11_heirOf_b65 hrec_7 hf
          · refine v_iload (x := x12) dX11_heirOf_59 0 rfl ?_
            refine v_iload_n (x := l3) dX11_heirOf_61 rfl 4 rfl ?_
            refine v_icmp_ge (tgt := 71) hf dX11_heirOf_62 (by decide) (fun hq hf => ?_) (fun hq hf => ?_)
            · refine v_sub [1, 2, 3, 4, 5] (L2 := [(0, va_rf (some l0)), (1, .int l1), (2, .int l2), (3, .int l3), (4, .int l4)]) rfl ?_
              exact t_X11_heirOf_b71 hrec_7 hf
            · refine v_sub [1, 2, 5, 0] (L2 := [(0, va_rf (some l0)), (1, .int l1), (4, .int l4), (5, .int x12)]) rfl ?_
              exact t_X11_heirOf_b65 hrec_7 hf
/-- LivesAhead.heirOf(I)I -/
def f_X11_heirOf (σ : TH) (p0 : Nat) (p1 : Int32) : Option (Int32 × TH) :=
  f_X11_heirOf_b7 fu_ σ p0 p1 (-1 : Int32) (0 : Int32) (0 : Int32)
set_option maxHeartbeats 4000000 in
set_option maxRecDepth 100000 in
theorem c_X11_heirOf {l : Launch} {D : va_G} {cy : Nat → ClassId} {ka : Nat → Nat} {σ z : TH} {p0 : Nat} {p1 : Int32} {r : Int32} (hf : f_X11_heirOf σ p0 p1 = some (r, z)) : ct_ l D cy ka yX11_heirOf 4 87 [va_rf (some p0), .int p1] σ (some (.int r)) z := by
  unfold f_X11_heirOf at hf
  refine v_start (cc := cX11_heirOf) (own := RX11) (maxL := 6) (ret := (some FieldType.int)) (nm := "heirOf") (by decide +kernel) kw_436 rfl rfl (by simp [lg_sl, va_rf_cat, cat_i, cat_l]) ?_
  refine v_eqL (L2 := [(0, va_rf (some p0)), (1, .int p1)]) (by simp [lv_args, va_rf_cat, cat_i, cat_l]) ?_
  refine v_iconst (v := (-1)) dX11_heirOf_0 (by decide) ?_
  refine v_istore_n [(2, .int (-1 : Int32)), (0, va_rf (some p0)), (1, .int p1)] dX11_heirOf_1 rfl (by decide) rfl ?_
  refine v_iconst (v := 0) dX11_heirOf_2 (by decide) ?_
  refine v_istore_n [(3, .int (0 : Int32)), (2, .int (-1 : Int32)), (0, va_rf (some p0)), (1, .int p1)] dX11_heirOf_3 rfl (by decide) rfl ?_
  refine v_iconst (v := 0) dX11_heirOf_4 (by decide) ?_
  refine v_istore [(4, .int (0 : Int32)), (3, .int (0 : Int32)), (2, .int (-1 : Int32)), (0, va_rf (some p0)), (1, .int p1)] dX11_heirOf_5 (by decide) rfl ?_
  refine v_sub [3, 4, 2, 1, 0] (L2 := [(0, va_rf (some p0)), (1, .int p1), (2, .int (-1 : Int32)), (3, .int (0 : Int32)), (4, .int (0 : Int32))]) rfl ?_
  exact t_X11_heirOf_b7  _ _ _ _ _ _ _ hf
theorem dX11_livingWriter_0 : decode cX11_livingWriter 0 = .ok (.iload_n 1, 1) := by decide +kernel
theorem dX11_livingWriter_1 : decode cX11_livingWriter 1 = .ok (.iconst 0, 1) := by decide +kernel
theorem dX11_livingWriter_2 : decode cX11_livingWriter 2 = .ok (.aload_n 0, 1) := by decide +kernel
theorem dX11_livingWriter_3 : decode cX11_livingWriter 3 = .ok (.getfield 10, 3) := by decide +kernel
theorem dX11_livingWriter_6 : decode cX11_livingWriter 6 = .ok (.invokevirtual 101, 3) := by decide +kernel
theorem dX11_livingWriter_9 : decode cX11_livingWriter 9 = .ok (.iconst 1, 1) := by decide +kernel
theorem dX11_livingWriter_10 : decode cX11_livingWriter 10 = .ok (.isub, 1) := by decide +kernel
theorem dX11_livingWriter_11 : decode cX11_livingWriter 11 = .ok (.invokestatic 93, 3) := by decide +kernel
theorem dX11_livingWriter_14 : decode cX11_livingWriter 14 = .ok (.ifCond .ne 5, 3) := by decide +kernel
theorem dX11_livingWriter_17 : decode cX11_livingWriter 17 = .ok (.aconst_null, 1) := by decide +kernel
theorem dX11_livingWriter_18 : decode cX11_livingWriter 18 = .ok (.areturn, 1) := by decide +kernel
theorem dX11_livingWriter_19 : decode cX11_livingWriter 19 = .ok (.aload_n 0, 1) := by decide +kernel
theorem dX11_livingWriter_20 : decode cX11_livingWriter 20 = .ok (.getfield 10, 3) := by decide +kernel
theorem dX11_livingWriter_23 : decode cX11_livingWriter 23 = .ok (.iload_n 1, 1) := by decide +kernel
theorem dX11_livingWriter_24 : decode cX11_livingWriter 24 = .ok (.invokevirtual 238, 3) := by decide +kernel
theorem dX11_livingWriter_27 : decode cX11_livingWriter 27 = .ok (.checkcast 105, 3) := by decide +kernel
theorem dX11_livingWriter_30 : decode cX11_livingWriter 30 = .ok (.astore_n 2, 1) := by decide +kernel
theorem dX11_livingWriter_31 : decode cX11_livingWriter 31 = .ok (.aload_n 2, 1) := by decide +kernel
theorem dX11_livingWriter_32 : decode cX11_livingWriter 32 = .ok (.getfield 135, 3) := by decide +kernel
theorem dX11_livingWriter_35 : decode cX11_livingWriter 35 = .ok (.ifCond .eq 7, 3) := by decide +kernel
theorem dX11_livingWriter_38 : decode cX11_livingWriter 38 = .ok (.aload_n 2, 1) := by decide +kernel
theorem dX11_livingWriter_39 : decode cX11_livingWriter 39 = .ok (.goto 4, 3) := by decide +kernel
theorem dX11_livingWriter_42 : decode cX11_livingWriter 42 = .ok (.aconst_null, 1) := by decide +kernel
theorem dX11_livingWriter_43 : decode cX11_livingWriter 43 = .ok (.areturn, 1) := by decide +kernel
def f_X11_livingWriter_b43 (σ : TH) (t0 : Option Nat) : Option (Option Nat × TH) :=
  some (t0, σ)
set_option maxHeartbeats 4000000 in
set_option maxRecDepth 100000 in
theorem t_X11_livingWriter_b43 {l : Launch} {D : va_G} {cy : Nat → ClassId} {ka : Nat → Nat} {σ0 z : TH} {r : Option Nat}  {σ : TH} {t0 : Option Nat} (hf : f_X11_livingWriter_b43 σ t0 = some (r, z)) : v_ l D cy ka cX11_livingWriter RX11 3 (some (FieldType.object "LivesAhead$Writer")) "livingWriter" 3 64 (qf_ D cy σ0 z (some (va_rf r))) σ0 z σ 43 [] [va_rf t0] := by
  unfold f_X11_livingWriter_b43 at hf
  exact v_aret (x := t0) hf (Or.inl ⟨_, rfl⟩) dX11_livingWriter_43
/-- LivesAhead.livingWriter(I)LLivesAhead$Writer; -/
def f_X11_livingWriter (σ : TH) (p0 : Nat) (p1 : Int32) : Option (Option Nat × TH) :=
  gt_ (kd_ σ p0 = 13) <| lt_ (fr_ σ 1200 p0) fun r1 => nn_ r1 fun a2 => gt_ (kd_ σ a2 = 1) <| bd_ (f_Jx4a65c_size_8abf5 σ a2) fun x3 s4 => bd_ (f_X11_within s4 p1 (0 : Int32) (x3 - (1 : Int32))) fun x5 s6 => if x5 = 0 then (some (none, s6)) else (lt_ (fr_ s6 1200 p0) fun r7 => nn_ r7 fun a8 => gt_ (kd_ s6 a8 = 1) <| bd_ (f_Jx4a65c_get_915e3 s6 a8 p1) fun r9 s10 => gt_ (Option.elim r9 12 (kd_ s10) = 12) <| nn_ r9 fun a11 => gt_ (kd_ s10 a11 = 12) <| lt_ (fi_ s10 1101 a11) fun x12 => if x12 = 0 then (f_X11_livingWriter_b43 s10 none) else (f_X11_livingWriter_b43 s10 (some a11)))
set_option maxHeartbeats 4000000 in
set_option maxRecDepth 100000 in
theorem c_X11_livingWriter {l : Launch} {D : va_G} {cy : Nat → ClassId} {ka : Nat → Nat} {σ z : TH} {p0 : Nat} {p1 : Int32} {r : Option Nat} (hf : f_X11_livingWriter σ p0 p1 = some (r, z)) : ct_ l D cy ka yX11_livingWriter 3 64 [va_rf (some p0), .int p1] σ (some (va_rf r)) z := by
  unfold f_X11_livingWriter at hf
  refine v_start (cc := cX11_livingWriter) (own := RX11) (maxL := 3) (ret := (some (FieldType.object "LivesAhead$Writer"))) (nm := "livingWriter") (by decide +kernel) kw_406 rfl rfl (by simp [lg_sl, va_rf_cat, cat_i, cat_l]) ?_
  refine v_eqL (L2 := [(0, va_rf (some p0)), (1, .int p1)]) (by simp [lv_args, va_rf_cat, cat_i, cat_l]) ?_
  refine v_iload_n (x := p1) dX11_livingWriter_0 rfl 1 rfl ?_
  refine v_iconst (v := 0) dX11_livingWriter_1 (by decide) ?_
  refine v_aload_n (x := (some p0)) dX11_livingWriter_2 rfl 0 rfl ?_
  obtain ⟨hk_p0, hf⟩ := gt_of hf
  refine v_getr cb_12 hk_p0 0 1200 rfl (by decide) rfl (lk_n kw_239 rfl) hf dX11_livingWriter_3 (fun r1 hf => ?_)
  obtain ⟨a2, rfl, hf⟩ := nn_of hf
  obtain ⟨hk_a2, hf⟩ := gt_of hf
  obtain ⟨x3, s4, hcs4, hf⟩ := bd_of hf
  have hts4 := c_Jx4a65c_size_8abf5 (l := l) (D := D) (cy := cy) (ka := ka) hcs4
  refine v_callV cb_0 hk_a2 (As := []) (rest := [.int (0 : Int32), .int p1]) hts4 yb_Jx4a65c_size_8abf5 kw_311 kw_312 kw_313 rfl ⟨Nat.le_of_ble_eq_true rfl, Nat.le_of_ble_eq_true rfl⟩ rfl (cat_len (Nat.le_of_ble_eq_true rfl)) dX11_livingWriter_6 ?_
  have hk_p0 := tk_ hts4.1 hk_p0
  show v_ l D cy ka cX11_livingWriter RX11 3 (some (FieldType.object "LivesAhead$Writer")) "livingWriter" 3 64 (qf_ D cy σ z (some (va_rf r))) σ z _ 9 [(0, va_rf (some p0)), (1, .int p1)] [.int x3, .int (0 : Int32), .int p1]
  refine v_iconst (v := 1) dX11_livingWriter_9 (by decide) ?_
  refine v_isub dX11_livingWriter_10 ?_
  obtain ⟨x5, s6, hcs6, hf⟩ := bd_of hf
  have hts6 := c_X11_within (l := l) (D := D) (cy := cy) (ka := ka) hcs6
  refine v_callS (As := [.int p1, .int (0 : Int32), .int (x3 - (1 : Int32))]) (rest := []) hts6 yb_X11_within kw_304 kw_305 rfl ⟨Nat.le_of_ble_eq_true rfl, Nat.le_of_ble_eq_true rfl⟩ rfl (cat_len (Nat.le_of_ble_eq_true rfl)) dX11_livingWriter_11 ?_
  have hk_p0 := tk_ hts6.1 hk_p0
  show v_ l D cy ka cX11_livingWriter RX11 3 (some (FieldType.object "LivesAhead$Writer")) "livingWriter" 3 64 (qf_ D cy σ z (some (va_rf r))) σ z _ 14 [(0, va_rf (some p0)), (1, .int p1)] [.int x5]
  refine v_if_ne (tgt := 19) hf dX11_livingWriter_14 (by decide) (fun hq hf => ?_) (fun hq hf => ?_)
  · refine v_null dX11_livingWriter_17 ?_
    exact v_aret (x := none) hf (Or.inl ⟨_, rfl⟩) dX11_livingWriter_18
  · refine v_aload_n (x := (some p0)) dX11_livingWriter_19 rfl 0 rfl ?_
    refine v_getr cb_12 hk_p0 0 1200 rfl (by decide) rfl (lk_n kw_239 rfl) hf dX11_livingWriter_20 (fun r7 hf => ?_)
    refine v_iload_n (x := p1) dX11_livingWriter_23 rfl 1 rfl ?_
    obtain ⟨a8, rfl, hf⟩ := nn_of hf
    obtain ⟨hk_a8, hf⟩ := gt_of hf
    obtain ⟨r9, s10, hcs10, hf⟩ := bd_of hf
    have hts10 := c_Jx4a65c_get_915e3 (l := l) (D := D) (cy := cy) (ka := ka) hcs10
    refine v_callV cb_0 hk_a8 (As := [.int p1]) (rest := []) hts10 yb_Jx4a65c_get_915e3 kw_407 kw_408 kw_409 rfl ⟨Nat.le_of_ble_eq_true rfl, Nat.le_of_ble_eq_true rfl⟩ rfl (cat_len (Nat.le_of_ble_eq_true rfl)) dX11_livingWriter_24 ?_
    have hk_p0 := tk_ hts10.1 hk_p0
    show v_ l D cy ka cX11_livingWriter RX11 3 (some (FieldType.object "LivesAhead$Writer")) "livingWriter" 3 64 (qf_ D cy σ z (some (va_rf r))) σ z _ 27 [(0, va_rf (some p0)), (1, .int p1)] [va_rf r9]
    refine v_cast cb_11 12 rfl kw_315 hf dX11_livingWriter_27 (fun hf => ?_)
    refine v_astore_n [(2, va_rf r9), (0, va_rf (some p0)), (1, .int p1)] dX11_livingWriter_30 rfl (by decide) rfl ?_
    refine v_aload_n (x := r9) dX11_livingWriter_31 rfl 0 rfl ?_
    obtain ⟨a11, rfl, hf⟩ := nn_of hf
    obtain ⟨hk_a11, hf⟩ := gt_of hf
    refine v_geti cb_11 hk_a11 1 1101 rfl (by decide) rfl (lk_n kw_324 rfl) hf dX11_livingWriter_32 (fun x12 hf => ?_)
    refine v_if_eq (tgt := 42) hf dX11_livingWriter_35 (by decide) (fun hq hf => ?_) (fun hq hf => ?_)
    · refine v_null dX11_livingWriter_42 ?_
      refine v_sub [] (L2 := []) rfl ?_
      exact t_X11_livingWriter_b43  hf
    · refine v_aload_n (x := (some a11)) dX11_livingWriter_38 rfl 0 rfl ?_
      refine v_goto (tgt := 43) dX11_livingWriter_39 (by decide) ?_
      refine v_sub [] (L2 := []) rfl ?_
      exact t_X11_livingWriter_b43  hf
