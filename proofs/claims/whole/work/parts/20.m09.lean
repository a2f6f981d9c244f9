/-! Functions over the typed heap and contracts, by wip/gen/gen.py: X15_reported X15_report X15_rumour X15_said X15_takes X15_thrown X15_trouble X15_used X15_gainOf X15_gains X15_hoursOf X15_times X15_week X15_where X15_withdraw -/
theorem dX15_reported_0 : decode cX15_reported 0 = .ok (.aload_n 0, 1) := by decide +kernel
theorem dX15_reported_1 : decode cX15_reported 1 = .ok (.getfield 119, 3) := by decide +kernel
theorem dX15_reported_4 : decode cX15_reported 4 = .ok (.aload_n 0, 1) := by decide +kernel
theorem dX15_reported_5 : decode cX15_reported 5 = .ok (.getfield 540, 3) := by decide +kernel
theorem dX15_reported_8 : decode cX15_reported 8 = .ok (.iload_n 1, 1) := by decide +kernel
theorem dX15_reported_9 : decode cX15_reported 9 = .ok (.iastore, 1) := by decide +kernel
theorem dX15_reported_10 : decode cX15_reported 10 = .ok (.aload_n 0, 1) := by decide +kernel
theorem dX15_reported_11 : decode cX15_reported 11 = .ok (.getfield 122, 3) := by decide +kernel
theorem dX15_reported_14 : decode cX15_reported 14 = .ok (.aload_n 0, 1) := by decide +kernel
theorem dX15_reported_15 : decode cX15_reported 15 = .ok (.getfield 540, 3) := by decide +kernel
theorem dX15_reported_18 : decode cX15_reported 18 = .ok (.iload_n 2, 1) := by decide +kernel
theorem dX15_reported_19 : decode cX15_reported 19 = .ok (.iastore, 1) := by decide +kernel
theorem dX15_reported_20 : decode cX15_reported 20 = .ok (.aload_n 0, 1) := by decide +kernel
theorem dX15_reported_21 : decode cX15_reported 21 = .ok (.getfield 125, 3) := by decide +kernel
theorem dX15_reported_24 : decode cX15_reported 24 = .ok (.aload_n 0, 1) := by decide +kernel
theorem dX15_reported_25 : decode cX15_reported 25 = .ok (.getfield 540, 3) := by decide +kernel
theorem dX15_reported_28 : decode cX15_reported 28 = .ok (.iload_n 3, 1) := by decide +kernel
theorem dX15_reported_29 : decode cX15_reported 29 = .ok (.iastore, 1) := by decide +kernel
theorem dX15_reported_30 : decode cX15_reported 30 = .ok (.aload_n 0, 1) := by decide +kernel
theorem dX15_reported_31 : decode cX15_reported 31 = .ok (.getfield 128, 3) := by decide +kernel
theorem dX15_reported_34 : decode cX15_reported 34 = .ok (.aload_n 0, 1) := by decide +kernel
theorem dX15_reported_35 : decode cX15_reported 35 = .ok (.getfield 540, 3) := by decide +kernel
theorem dX15_reported_38 : decode cX15_reported 38 = .ok (.iload 4, 2) := by decide +kernel
theorem dX15_reported_40 : decode cX15_reported 40 = .ok (.iastore, 1) := by decide +kernel
theorem dX15_reported_41 : decode cX15_reported 41 = .ok (.aload_n 0, 1) := by decide +kernel
theorem dX15_reported_42 : decode cX15_reported 42 = .ok (.getfield 131, 3) := by decide +kernel
theorem dX15_reported_45 : decode cX15_reported 45 = .ok (.aload_n 0, 1) := by decide +kernel
theorem dX15_reported_46 : decode cX15_reported 46 = .ok (.getfield 540, 3) := by decide +kernel
theorem dX15_reported_49 : decode cX15_reported 49 = .ok (.aload_n 0, 1) := by decide +kernel
theorem dX15_reported_50 : decode cX15_reported 50 = .ok (.getfield 188, 3) := by decide +kernel
theorem dX15_reported_53 : decode cX15_reported 53 = .ok (.iastore, 1) := by decide +kernel
theorem dX15_reported_54 : decode cX15_reported 54 = .ok (.iconst 0, 1) := by decide +kernel
theorem dX15_reported_55 : decode cX15_reported 55 = .ok (.istore 5, 2) := by decide +kernel
theorem dX15_reported_57 : decode cX15_reported 57 = .ok (.iload 5, 2) := by decide +kernel
theorem dX15_reported_59 : decode cX15_reported 59 = .ok (.iconst 3, 1) := by decide +kernel
theorem dX15_reported_60 : decode cX15_reported 60 = .ok (.if_icmp .ge 24, 3) := by decide +kernel
theorem dX15_reported_63 : decode cX15_reported 63 = .ok (.aload_n 0, 1) := by decide +kernel
theorem dX15_reported_64 : decode cX15_reported 64 = .ok (.getfield 134, 3) := by decide +kernel
theorem dX15_reported_67 : decode cX15_reported 67 = .ok (.iconst 3, 1) := by decide +kernel
theorem dX15_reported_68 : decode cX15_reported 68 = .ok (.aload_n 0, 1) := by decide +kernel
theorem dX15_reported_69 : decode cX15_reported 69 = .ok (.getfield 540, 3) := by decide +kernel
theorem dX15_reported_72 : decode cX15_reported 72 = .ok (.imul, 1) := by decide +kernel
theorem dX15_reported_73 : decode cX15_reported 73 = .ok (.iload 5, 2) := by decide +kernel
theorem dX15_reported_75 : decode cX15_reported 75 = .ok (.iadd, 1) := by decide +kernel
theorem dX15_reported_76 : decode cX15_reported 76 = .ok (.iconst (-1), 1) := by decide +kernel
theorem dX15_reported_77 : decode cX15_reported 77 = .ok (.iastore, 1) := by decide +kernel
theorem dX15_reported_78 : decode cX15_reported 78 = .ok (.iinc 5 1, 3) := by decide +kernel
theorem dX15_reported_81 : decode cX15_reported 81 = .ok (.goto (-24), 3) := by decide +kernel
theorem dX15_reported_84 : decode cX15_reported 84 = .ok (.aload_n 0, 1) := by decide +kernel
theorem dX15_reported_85 : decode cX15_reported 85 = .ok (.dup, 1) := by decide +kernel
theorem dX15_reported_86 : decode cX15_reported 86 = .ok (.getfield 540, 3) := by decide +kernel
theorem dX15_reported_89 : decode cX15_reported 89 = .ok (.iconst 1, 1) := by decide +kernel
theorem dX15_reported_90 : decode cX15_reported 90 = .ok (.iadd, 1) := by decide +kernel
theorem dX15_reported_91 : decode cX15_reported 91 = .ok (.putfield 540, 3) := by decide +kernel
theorem dX15_reported_94 : decode cX15_reported 94 = .ok (.aload_n 0, 1) := by decide +kernel
theorem dX15_reported_95 : decode cX15_reported 95 = .ok (.getfield 540, 3) := by decide +kernel
theorem dX15_reported_98 : decode cX15_reported 98 = .ok (.iconst 1, 1) := by decide +kernel
theorem dX15_reported_99 : decode cX15_reported 99 = .ok (.isub, 1) := by decide +kernel
theorem dX15_reported_100 : decode cX15_reported 100 = .ok (.ireturn, 1) := by decide +kernel
def f_X15_reported_b57 : Nat → TH → Nat → Int32 → Option (Int32 × TH)
  | 0, _, _, _ => none
  | n + 1, σ, l0, l5 => if (3 : Int32) ≤ l5 then (gt_ (kd_ σ l0 = 17) <| lt_ (fi_ σ 1659 l0) fun x22 => lt_ (si_ σ 1659 l0 (x22 + (1 : Int32))) fun s23 => lt_ (fi_ s23 1659 l0) fun x24 => some (x24 - (1 : Int32), s23)) else (gt_ (kd_ σ l0 = 17) <| lt_ (fr_ σ 1666 l0) fun r25 => lt_ (fi_ σ 1659 l0) fun x26 => nn_ r25 fun a27 => gt_ (kd_ σ a27 = 20) <| gt_ (¬ ((((3 : Int32) * x26) + l5) < 0 ∨ ln_ σ a27 ≤ (((3 : Int32) * x26) + l5 : Int32).toNatClampNeg)) <| lt_ (sa_ σ a27 ((((3 : Int32) * x26) + l5 : Int32).toNatClampNeg) (-1 : Int32)) fun s28 => lt_ (l5 + 1) fun x29 => (f_X15_reported_b57 n) s28 l0 x29)
set_option maxHeartbeats 4000000 in
set_option maxRecDepth 100000 in
theorem t_X15_reported_b57 {l : Launch} {D : va_G} {cy : Nat → ClassId} {ka : Nat → Nat} {σ0 z : TH} {r : Int32}  : ∀ (n : Nat) (σ : TH) (l0 : Nat) (l5 : Int32), f_X15_reported_b57 n σ l0 l5 = some (r, z) → v_ l D cy ka cX15_reported RX15 6 (some FieldType.int) "reported" 0 0 (qf_ D cy σ0 z (some (.int r))) σ0 z σ 57 [(0, va_rf (some l0)), (5, .int l5)] [] := by
  intro n
  induction n with
  | zero => intro σ l0 l5 hf; unfold f_X15_reported_b57 at hf; cases hf
  | succ n ih =>
    intro σ l0 l5 hf
    unfold f_X15_reported_b57 at hf
    have hrec_57 := ih
    refine v_iload (x := l5) dX15_reported_57 1 rfl ?_
    refine v_iconst (v := 3) dX15_reported_59 (by decide) ?_
    refine v_icmp_ge (tgt := 84) hf dX15_reported_60 (by decide) (fun hq hf => ?_) (fun hq hf => ?_)
    · refine v_aload_n (x := (some l0)) dX15_reported_84 rfl 0 rfl ?_
      refine v_dup dX15_reported_85 (va_rf_cat _) ?_
      obtain ⟨hk_l0, hf⟩ := gt_of hf
      refine v_geti cb_16 hk_l0 59 1659 rfl (by decide) rfl (lk_n kw_1516 rfl) hf dX15_reported_86 (fun x22 hf => ?_)
      refine v_iconst (v := 1) dX15_reported_89 (by decide) ?_
      refine v_iadd dX15_reported_90 ?_
      refine v_puti2 cb_16 hk_l0 59 1659 rfl (by decide) rfl (lk_n kw_1516 rfl) (Or.inl rfl) rfl rfl hf dX15_reported_91 (fun s23 hts23 hf => ?_)
      have hk_l0 := tk_ hts23 hk_l0
      refine v_aload_n (x := (some l0)) dX15_reported_94 rfl 0 rfl ?_
      refine v_geti cb_16 hk_l0 59 1659 rfl (by decide) rfl (lk_n kw_1516 rfl) hf dX15_reported_95 (fun x24 hf => ?_)
      refine v_iconst (v := 1) dX15_reported_98 (by decide) ?_
      refine v_isub dX15_reported_99 ?_
      exact v_iret hf dX15_reported_100
    · refine v_aload_n (x := (some l0)) dX15_reported_63 rfl 0 rfl ?_
      obtain ⟨hk_l0, hf⟩ := gt_of hf
      refine v_getr cb_16 hk_l0 66 1666 rfl (by decide) rfl (lk_n kw_1523 rfl) hf dX15_reported_64 (fun r25 hf => ?_)
      refine v_iconst (v := 3) dX15_reported_67 (by decide) ?_
      refine v_aload_n (x := (some l0)) dX15_reported_68 rfl 0 rfl ?_
      refine v_geti cb_16 hk_l0 59 1659 rfl (by decide) rfl (lk_n kw_1516 rfl) hf dX15_reported_69 (fun x26 hf => ?_)
      refine v_imul dX15_reported_72 ?_
      refine v_iload (x := l5) dX15_reported_73 1 rfl ?_
      refine v_iadd dX15_reported_75 ?_
      refine v_iconst (v := (-1)) dX15_reported_76 (by decide) ?_
      obtain ⟨a27, rfl, hf⟩ := nn_of hf
      obtain ⟨hk_a27, hf⟩ := gt_of hf
      refine v_iast2 hk_a27 hf dX15_reported_77 (fun s28 hts28 hf => ?_)
      have hk_l0 := tk_ hts28 hk_l0
      obtain ⟨x29, ex29⟩ : ∃ y : Int32, y = l5 + 1 := ⟨_, rfl⟩
      rw [lt_e, ← ex29] at hf
      refine v_iinc (v := x29) [(5, .int x29), (0, va_rf (some l0))] dX15_reported_78 1 rfl (by rw [ex29]; rfl) (by decide) rfl ?_
      refine v_goto (tgt := 57) dX15_reported_81 (by decide) ?_
      refine v_sub [1, 0] (L2 := [(0, va_rf (some l0)), (5, .int x29)]) rfl ?_
      exact hrec_57 _ _ _ hf
/-- LivesAheadModel.reported(IIII)I -/
def f_X15_reported (σ : TH) (p0 : Nat) (p1 : Int32) (p2 : Int32) (p3 : Int32) (p4 : Int32) : Option (Int32 × TH) :=
  gt_ (kd_ σ p0 = 17) <| lt_ (fr_ σ 1661 p0) fun r1 => lt_ (fi_ σ 1659 p0) fun x2 => nn_ r1 fun a3 => gt_ (kd_ σ a3 = 20) <| gt_ (¬ (x2 < 0 ∨ ln_ σ a3 ≤ x2.toNatClampNeg)) <| lt_ (sa_ σ a3 x2.toNatClampNeg p1) fun s4 => lt_ (fr_ s4 1662 p0) fun r5 => lt_ (fi_ s4 1659 p0) fun x6 => nn_ r5 fun a7 => gt_ (kd_ s4 a7 = 20) <| gt_ (¬ (x6 < 0 ∨ ln_ s4 a7 ≤ x6.toNatClampNeg)) <| lt_ (sa_ s4 a7 x6.toNatClampNeg p2) fun s8 => lt_ (fr_ s8 1663 p0) fun r9 => lt_ (fi_ s8 1659 p0) fun x10 => nn_ r9 fun a11 => gt_ (kd_ s8 a11 = 20) <| gt_ (¬ (x10 < 0 ∨ ln_ s8 a11 ≤ x10.toNatClampNeg)) <| lt_ (sa_ s8 a11 x10.toNatClampNeg p3) fun s12 => lt_ (fr_ s12 1664 p0) fun r13 => lt_ (fi_ s12 1659 p0) fun x14 => nn_ r13 fun a15 => gt_ (kd_ s12 a15 = 20) <| gt_ (¬ (x14 < 0 ∨ ln_ s12 a15 ≤ x14.toNatClampNeg)) <| lt_ (sa_ s12 a15 x14.toNatClampNeg p4) fun s16 => lt_ (fr_ s16 1665 p0) fun r17 => lt_ (fi_ s16 1659 p0) fun x18 => lt_ (fi_ s16 1606 p0) fun x19 => nn_ r17 fun a20 => gt_ (kd_ s16 a20 = 20) <| gt_ (¬ (x18 < 0 ∨ ln_ s16 a20 ≤ x18.toNatClampNeg)) <| lt_ (sa_ s16 a20 x18.toNatClampNeg x19) fun s21 => f_X15_reported_b57 fu_ s21 p0 (0 : Int32)
set_option maxHeartbeats 4000000 in
set_option maxRecDepth 100000 in
theorem c_X15_reported {l : Launch} {D : va_G} {cy : Nat → ClassId} {ka : Nat → Nat} {σ z : TH} {p0 : Nat} {p1 : Int32} {p2 : Int32} {p3 : Int32} {p4 : Int32} {r : Int32} (hf : f_X15_reported σ p0 p1 p2 p3 p4 = some (r, z)) : ct_ l D cy ka yX15_reported 0 0 [va_rf (some p0), .int p1, .int p2, .int p3, .int p4] σ (some (.int r)) z := by
  unfold f_X15_reported at hf
  refine v_start (cc := cX15_reported) (own := RX15) (maxL := 6) (ret := (some FieldType.int)) (nm := "reported") (by decide +kernel) kw_2121 rfl rfl (by simp [lg_sl, va_rf_cat, cat_i, cat_l]) ?_
  refine v_eqL (L2 := [(0, va_rf (some p0)), (1, .int p1), (2, .int p2), (3, .int p3), (4, .int p4)]) (by simp [lv_args, va_rf_cat, cat_i, cat_l]) ?_
  refine v_aload_n (x := (some p0)) dX15_reported_0 rfl 0 rfl ?_
  obtain ⟨hk_p0, hf⟩ := gt_of hf
  refine v_getr cb_16 hk_p0 61 1661 rfl (by decide) rfl (lk_n kw_1518 rfl) hf dX15_reported_1 (fun r1 hf => ?_)
  refine v_aload_n (x := (some p0)) dX15_reported_4 rfl 0 rfl ?_
  refine v_geti cb_16 hk_p0 59 1659 rfl (by decide) rfl (lk_n kw_1516 rfl) hf dX15_reported_5 (fun x2 hf => ?_)
  refine v_iload_n (x := p1) dX15_reported_8 rfl 1 rfl ?_
  obtain ⟨a3, rfl, hf⟩ := nn_of hf
  obtain ⟨hk_a3, hf⟩ := gt_of hf
  refine v_iast2 hk_a3 hf dX15_reported_9 (fun s4 hts4 hf => ?_)
  have hk_p0 := tk_ hts4 hk_p0
  refine v_aload_n (x := (some p0)) dX15_reported_10 rfl 0 rfl ?_
  refine v_getr cb_16 hk_p0 62 1662 rfl (by decide) rfl (lk_n kw_1519 rfl) hf dX15_reported_11 (fun r5 hf => ?_)
  refine v_aload_n (x := (some p0)) dX15_reported_14 rfl 0 rfl ?_
  refine v_geti cb_16 hk_p0 59 1659 rfl (by decide) rfl (lk_n kw_1516 rfl) hf dX15_reported_15 (fun x6 hf => ?_)
  refine v_iload_n (x := p2) dX15_reported_18 rfl 2 rfl ?_
  obtain ⟨a7, rfl, hf⟩ := nn_of hf
  obtain ⟨hk_a7, hf⟩ := gt_of hf
  refine v_iast2 hk_a7 hf dX15_reported_19 (fun s8 hts8 hf => ?_)
  have hk_p0 := tk_ hts8 hk_p0
  refine v_aload_n (x := (some p0)) dX15_reported_20 rfl 0 rfl ?_
  refine v_getr cb_16 hk_p0 63 1663 rfl (by decide) rfl (lk_n kw_1520 rfl) hf dX15_reported_21 (fun r9 hf => ?_)
  refine v_aload_n (x := (some p0)) dX15_reported_24 rfl 0 rfl ?_
  refine v_geti cb_16 hk_p0 59 1659 rfl (by decide) rfl (lk_n kw_1516 rfl) hf dX15_reported_25 (fun x10 hf => ?_)
  refine v_iload_n (x := p3) dX15_reported_28 rfl 3 rfl ?_
  obtain ⟨a11, rfl, hf⟩ := nn_of hf
  obtain ⟨hk_a11, hf⟩ := gt_of hf
  refine v_iast2 hk_a11 hf dX15_reported_29 (fun s12 hts12 hf => ?_)
  have hk_p0 := tk_ hts12 hk_p0
  refine v_aload_n (x := (some p0)) dX15_reported_30 rfl 0 rfl ?_
  refine v_getr cb_16 hk_p0 64 1664 rfl (by decide) rfl (lk_n kw_1521 rfl) hf dX15_reported_31 (fun r13 hf => ?_)
  refine v_aload_n (x := (some p0)) dX15_reported_34 rfl 0 rfl ?_
  refine v_geti cb_16 hk_p0 59 1659 rfl (by decide) rfl (lk_n kw_1516 rfl) hf dX15_reported_35 (fun x14 hf => ?_)
  refine v_iload (x := p4) dX15_reported_38 4 rfl ?_
  obtain ⟨a15, rfl, hf⟩ := nn_of hf
  obtain ⟨hk_a15, hf⟩ := gt_of hf
  refine v_iast2 hk_a15 hf dX15_reported_40 (fun s16 hts16 hf => ?_)
  have hk_p0 := tk_ hts16 hk_p0
  refine v_aload_n (x := (some p0)) dX15_reported_41 rfl 0 rfl ?_
  refine v_getr cb_16 hk_p0 65 1665 rfl (by decide) rfl (lk_n kw_1522 rfl) hf dX15_reported_42 (fun r17 hf => ?_)
  refine v_aload_n (x := (some p0)) dX15_reported_45 rfl 0 rfl ?_
  refine v_geti cb_16 hk_p0 59 1659 rfl (by decide) rfl (lk_n kw_1516 rfl) hf dX15_reported_46 (fun x18 hf => ?_)
  refine v_aload_n (x := (some p0)) dX15_reported_49 rfl 0 rfl ?_
  refine v_geti cb_16 hk_p0 6 1606 rfl (by decide) rfl (lk_n kw_1463 rfl) hf dX15_reported_50 (fun x19 hf => ?_)
  obtain ⟨a20, rfl, hf⟩ := nn_of hf
  obtain ⟨hk_a20, hf⟩ := gt_of hf
  refine v_iast2 hk_a20 hf dX15_reported_53 (fun s21 hts21 hf => ?_)
  have hk_p0 := tk_ hts21 hk_p0
  refine v_iconst (v := 0) dX15_reported_54 (by decide) ?_
  refine v_istore [(5, .int (0 : Int32)), (0, va_rf (some p0)), (1, .int p1), (2, .int p2), (3, .int p3), (4, .int p4)] dX15_reported_55 (by decide) rfl ?_
  refine v_sub [1, 0] (L2 := [(0, va_rf (some p0)), (5, .int (0 : Int32))]) rfl ?_
  exact t_X15_reported_b57  _ _ _ _ hf
theorem dX15_report_0 : decode cX15_report 0 = .ok (.aload_n 0, 1) := by decide +kernel
theorem dX15_report_1 : decode cX15_report 1 = .ok (.iconst 0, 1) := by decide +kernel
theorem dX15_report_2 : decode cX15_report 2 = .ok (.putfield 1, 3) := by decide +kernel
theorem dX15_report_5 : decode cX15_report 5 = .ok (.aload_n 0, 1) := by decide +kernel
theorem dX15_report_6 : decode cX15_report 6 = .ok (.iload_n 1, 1) := by decide +kernel
theorem dX15_report_7 : decode cX15_report 7 = .ok (.invokevirtual 227, 3) := by decide +kernel
theorem dX15_report_10 : decode cX15_report 10 = .ok (.ifCond .ne 9, 3) := by decide +kernel
theorem dX15_report_13 : decode cX15_report 13 = .ok (.aload_n 0, 1) := by decide +kernel
theorem dX15_report_14 : decode cX15_report 14 = .ok (.iconst 1, 1) := by decide +kernel
theorem dX15_report_15 : decode cX15_report 15 = .ok (.invokevirtual 201, 3) := by decide +kernel
theorem dX15_report_18 : decode cX15_report 18 = .ok (.ireturn, 1) := by decide +kernel
theorem dX15_report_19 : decode cX15_report 19 = .ok (.iload_n 2, 1) := by decide +kernel
theorem dX15_report_20 : decode cX15_report 20 = .ok (.iconst 0, 1) := by decide +kernel
theorem dX15_report_21 : decode cX15_report 21 = .ok (.aload_n 0, 1) := by decide +kernel
theorem dX15_report_22 : decode cX15_report 22 = .ok (.invokevirtual 230, 3) := by decide +kernel
theorem dX15_report_25 : decode cX15_report 25 = .ok (.invokestatic 197, 3) := by decide +kernel
theorem dX15_report_28 : decode cX15_report 28 = .ok (.ifCond .eq 12, 3) := by decide +kernel
theorem dX15_report_31 : decode cX15_report 31 = .ok (.iload_n 3, 1) := by decide +kernel
theorem dX15_report_32 : decode cX15_report 32 = .ok (.iconst 0, 1) := by decide +kernel
theorem dX15_report_33 : decode cX15_report 33 = .ok (.iconst 4, 1) := by decide +kernel
theorem dX15_report_34 : decode cX15_report 34 = .ok (.invokestatic 197, 3) := by decide +kernel
theorem dX15_report_37 : decode cX15_report 37 = .ok (.ifCond .ne 9, 3) := by decide +kernel
theorem dX15_report_40 : decode cX15_report 40 = .ok (.aload_n 0, 1) := by decide +kernel
theorem dX15_report_41 : decode cX15_report 41 = .ok (.iconst 2, 1) := by decide +kernel
theorem dX15_report_42 : decode cX15_report 42 = .ok (.invokevirtual 201, 3) := by decide +kernel
theorem dX15_report_45 : decode cX15_report 45 = .ok (.ireturn, 1) := by decide +kernel
theorem dX15_report_46 : decode cX15_report 46 = .ok (.aload_n 0, 1) := by decide +kernel
theorem dX15_report_47 : decode cX15_report 47 = .ok (.getfield 540, 3) := by decide +kernel
theorem dX15_report_50 : decode cX15_report 50 = .ok (.bipush 120, 2) := by decide +kernel
theorem dX15_report_52 : decode cX15_report 52 = .ok (.if_icmp .ne 9, 3) := by decide +kernel
theorem dX15_report_55 : decode cX15_report 55 = .ok (.aload_n 0, 1) := by decide +kernel
theorem dX15_report_56 : decode cX15_report 56 = .ok (.iconst 3, 1) := by decide +kernel
theorem dX15_report_57 : decode cX15_report 57 = .ok (.invokevirtual 201, 3) := by decide +kernel
theorem dX15_report_60 : decode cX15_report 60 = .ok (.ireturn, 1) := by decide +kernel
theorem dX15_report_61 : decode cX15_report 61 = .ok (.aload_n 0, 1) := by decide +kernel
theorem dX15_report_62 : decode cX15_report 62 = .ok (.aload_n 0, 1) := by decide +kernel
theorem dX15_report_63 : decode cX15_report 63 = .ok (.iload_n 1, 1) := by decide +kernel
theorem dX15_report_64 : decode cX15_report 64 = .ok (.iconst (-1), 1) := by decide +kernel
theorem dX15_report_65 : decode cX15_report 65 = .ok (.iload_n 2, 1) := by decide +kernel
theorem dX15_report_66 : decode cX15_report 66 = .ok (.iload_n 3, 1) := by decide +kernel
theorem dX15_report_67 : decode cX15_report 67 = .ok (.invokevirtual 543, 3) := by decide +kernel
theorem dX15_report_70 : decode cX15_report 70 = .ok (.invokevirtual 205, 3) := by decide +kernel
theorem dX15_report_73 : decode cX15_report 73 = .ok (.ireturn, 1) := by decide +kernel
def f_X15_report_b40 (σ : TH) (l0 : Nat) : Option (Int32 × TH) :=
  gt_ (kd_ σ l0 = 17) <| bd_ (f_X15_refused σ l0 (2 : Int32)) fun x10 s11 => some (x10, s11)
set_option maxHeartbeats 4000000 in
set_option maxRecDepth 100000 in
theorem t_X15_report_b40 {l : Launch} {D : va_G} {cy : Nat → ClassId} {ka : Nat → Nat} {σ0 z : TH} {r : Int32}  {σ : TH} {l0 : Nat} (hf : f_X15_report_b40 σ l0 = some (r, z)) : v_ l D cy ka cX15_report RX15 4 (some FieldType.int) "report" 1 25 (qf_ D cy σ0 z (some (.int r))) σ0 z σ 40 [(0, va_rf (some l0))] [] := by
  unfold f_X15_report_b40 at hf
  refine v_aload_n (x := (some l0)) dX15_report_40 rfl 0 rfl ?_
  refine v_iconst (v := 2) dX15_report_41 (by decide) ?_
  obtain ⟨hk_l0, hf⟩ := gt_of hf
  obtain ⟨x10, s11, hcs11, hf⟩ := bd_of hf
  have hts11 := c_X15_refused (l := l) (D := D) (cy := cy) (ka := ka) hcs11
  refine v_callV cb_16 hk_l0 (As := [.int (2 : Int32)]) (rest := []) hts11 yb_X15_refused kw_1729 kw_1731 kp_77 rfl ⟨Nat.le_of_ble_eq_true rfl, Nat.le_of_ble_eq_true rfl⟩ rfl (cat_len (Nat.le_of_ble_eq_true rfl)) dX15_report_42 ?_
  have hk_l0 := tk_ hts11.1 hk_l0
  show v_ l D cy ka cX15_report RX15 4 (some FieldType.int) "report" 1 25 (qf_ D cy σ0 z (some (.int r))) σ0 z _ 45 [(0, va_rf (some l0))] [.int x10]
  exact v_iret hf dX15_report_45
/-- LivesAheadModel.report(III)I -/
def f_X15_report (σ : TH) (p0 : Nat) (p1 : Int32) (p2 : Int32) (p3 : Int32) : Option (Int32 × TH) :=
  gt_ (kd_ σ p0 = 17) <| lt_ (si_ σ 1600 p0 (0 : Int32)) fun s1 => bd_ (f_X15_isPerson s1 p0 p1) fun x2 s3 => if x2 = 0 then (bd_ (f_X15_refused s3 p0 (1 : Int32)) fun x4 s5 => some (x4, s5)) else (bd_ (f_X15_today s3 p0) fun x6 s7 => bd_ (f_X15_in s7 p2 (0 : Int32) x6) fun x8 s9 => if x8 = 0 then (f_X15_report_b40 s9 p0) else (bd_ (f_X15_in s9 p3 (0 : Int32) (4 : Int32)) fun x12 s13 => if x12 = 0 then (f_X15_report_b40 s13 p0) else (lt_ (fi_ s13 1659 p0) fun x14 => if x14 = (120 : Int32) then (bd_ (f_X15_refused s13 p0 (3 : Int32)) fun x15 s16 => some (x15, s16)) else (bd_ (f_X15_reported s13 p0 p1 (-1 : Int32) p2 p3) fun x17 s18 => bd_ (f_X15_done s18 p0 x17) fun x19 s20 => some (x19, s20)))))
set_option maxHeartbeats 4000000 in
set_option maxRecDepth 100000 in
theorem c_X15_report {l : Launch} {D : va_G} {cy : Nat → ClassId} {ka : Nat → Nat} {σ z : TH} {p0 : Nat} {p1 : Int32} {p2 : Int32} {p3 : Int32} {r : Int32} (hf : f_X15_report σ p0 p1 p2 p3 = some (r, z)) : ct_ l D cy ka yX15_report 1 25 [va_rf (some p0), .int p1, .int p2, .int p3] σ (some (.int r)) z := by
  unfold f_X15_report at hf
  refine v_start (cc := cX15_report) (own := RX15) (maxL := 4) (ret := (some FieldType.int)) (nm := "report") (by decide +kernel) kw_2117 rfl rfl (by simp [lg_sl, va_rf_cat, cat_i, cat_l]) ?_
  refine v_eqL (L2 := [(0, va_rf (some p0)), (1, .int p1), (2, .int p2), (3, .int p3)]) (by simp [lv_args, va_rf_cat, cat_i, cat_l]) ?_
  refine v_aload_n (x := (some p0)) dX15_report_0 rfl 0 rfl ?_
  refine v_iconst (v := 0) dX15_report_1 (by decide) ?_
  obtain ⟨hk_p0, hf⟩ := gt_of hf
  refine v_puti2 cb_16 hk_p0 0 1600 rfl (by decide) rfl (lk_n kw_1457 rfl) (Or.inl rfl) rfl rfl hf dX15_report_2 (fun s1 hts1 hf => ?_)
  have hk_p0 := tk_ hts1 hk_p0
  refine v_aload_n (x := (some p0)) dX15_report_5 rfl 0 rfl ?_
  refine v_iload_n (x := p1) dX15_report_6 rfl 1 rfl ?_
  obtain ⟨x2, s3, hcs3, hf⟩ := bd_of hf
  have hts3 := c_X15_isPerson (l := l) (D := D) (cy := cy) (ka := ka) hcs3
  refine v_callV cb_16 hk_p0 (As := [.int p1]) (rest := []) hts3 yb_X15_isPerson kw_1770 kw_1772 kp_83 rfl ⟨Nat.le_of_ble_eq_true rfl, Nat.le_of_ble_eq_true rfl⟩ rfl (cat_len (Nat.le_of_ble_eq_true rfl)) dX15_report_7 ?_
  have hk_p0 := tk_ hts3.1 hk_p0
  show v_ l D cy ka cX15_report RX15 4 (some FieldType.int) "report" 1 25 (qf_ D cy σ z (some (.int r))) σ z _ 10 [(0, va_rf (some p0)), (1, .int p1), (2, .int p2), (3, .int p3)] [.int x2]
  refine v_if_ne (tgt := 19) hf dX15_report_10 (by decide) (fun hq hf => ?_) (fun hq hf => ?_)
  · refine v_aload_n (x := (some p0)) dX15_report_13 rfl 0 rfl ?_
    refine v_iconst (v := 1) dX15_report_14 (by decide) ?_
    obtain ⟨x4, s5, hcs5, hf⟩ := bd_of hf
    have hts5 := c_X15_refused (l := l) (D := D) (cy := cy) (ka := ka) hcs5
    refine v_callV cb_16 hk_p0 (As := [.int (1 : Int32)]) (rest := []) hts5 yb_X15_refused kw_1729 kw_1731 kp_77 rfl ⟨Nat.le_of_ble_eq_true rfl, Nat.le_of_ble_eq_true rfl⟩ rfl (cat_len (Nat.le_of_ble_eq_true rfl)) dX15_report_15 ?_
    have hk_p0 := tk_ hts5.1 hk_p0
    show v_ l D cy ka cX15_report RX15 4 (some FieldType.int) "report" 1 25 (qf_ D cy σ z (some (.int r))) σ z _ 18 [(0, va_rf (some p0)), (1, .int p1), (2, .int p2), (3, .int p3)] [.int x4]
    exact v_iret hf dX15_report_18
  · refine v_iload_n (x := p2) dX15_report_19 rfl 2 rfl ?_
    refine v_iconst (v := 0) dX15_report_20 (by decide) ?_
    refine v_aload_n (x := (some p0)) dX15_report_21 rfl 0 rfl ?_
    obtain ⟨x6, s7, hcs7, hf⟩ := bd_of hf
    have hts7 := c_X15_today (l := l) (D := D) (cy := cy) (ka := ka) hcs7
    refine v_callV cb_16 hk_p0 (As := []) (rest := [.int (0 : Int32), .int p2]) hts7 yb_X15_today kw_1774 kw_1776 kp_84 rfl ⟨Nat.le_of_ble_eq_true rfl, Nat.le_of_ble_eq_true rfl⟩ rfl (cat_len (Nat.le_of_ble_eq_true rfl)) dX15_report_22 ?_
    have hk_p0 := tk_ hts7.1 hk_p0
    show v_ l D cy ka cX15_report RX15 4 (some FieldType.int) "report" 1 25 (qf_ D cy σ z (some (.int r))) σ z _ 25 [(0, va_rf (some p0)), (1, .int p1), (2, .int p2), (3, .int p3)] [.int x6, .int (0 : Int32), .int p2]
    obtain ⟨x8, s9, hcs9, hf⟩ := bd_of hf
    have hts9 := c_X15_in (l := l) (D := D) (cy := cy) (ka := ka) hcs9
    refine v_callS (As := [.int p2, .int (0 : Int32), .int x6]) (rest := []) hts9 yb_X15_in kw_1726 kw_1727 rfl ⟨Nat.le_of_ble_eq_true rfl, Nat.le_of_ble_eq_true rfl⟩ rfl (cat_len (Nat.le_of_ble_eq_true rfl)) dX15_report_25 ?_
    have hk_p0 := tk_ hts9.1 hk_p0
    show v_ l D cy ka cX15_report RX15 4 (some FieldType.int) "report" 1 25 (qf_ D cy σ z (some (.int r))) σ z _ 28 [(0, va_rf (some p0)), (1, .int p1), (2, .int p2), (3, .int p3)] [.int x8]
    refine v_if_eq (tgt := 40) hf dX15_report_28 (by decide) (fun hq hf => ?_) (fun hq hf => ?_)
    · refine v_sub [0] (L2 := [(0, va_rf (some p0))]) rfl ?_
      exact t_X15_report_b40  hf
    · refine v_iload_n (x := p3) dX15_report_31 rfl 3 rfl ?_
      refine v_iconst (v := 0) dX15_report_32 (by decide) ?_
      refine v_iconst (v := 4) dX15_report_33 (by decide) ?_
      obtain ⟨x12, s13, hcs13, hf⟩ := bd_of hf
      have hts13 := c_X15_in (l := l) (D := D) (cy := cy) (ka := ka) hcs13
      refine v_callS (As := [.int p3, .int (0 : Int32), .int (4 : Int32)]) (rest := []) hts13 yb_X15_in kw_1726 kw_1727 rfl ⟨Nat.le_of_ble_eq_true rfl, Nat.le_of_ble_eq_true rfl⟩ rfl (cat_len (Nat.le_of_ble_eq_true rfl)) dX15_report_34 ?_
      have hk_p0 := tk_ hts13.1 hk_p0
      show v_ l D cy ka cX15_report RX15 4 (some FieldType.int) "report" 1 25 (qf_ D cy σ z (some (.int r))) σ z _ 37 [(0, va_rf (some p0)), (1, .int p1), (2, .int p2), (3, .int p3)] [.int x12]
      refine v_if_ne (tgt := 46) hf dX15_report_37 (by decide) (fun hq hf => ?_) (fun hq hf => ?_)
      · refine v_sub [0] (L2 := [(0, va_rf (some p0))]) rfl ?_
        exact t_X15_report_b40  hf
      · refine v_aload_n (x := (some p0)) dX15_report_46 rfl 0 rfl ?_
        refine v_geti cb_16 hk_p0 59 1659 rfl (by decide) rfl (lk_n kw_1516 rfl) hf dX15_report_47 (fun x14 hf => ?_)
        refine v_bipush (v := 120) dX15_report_50 (by decide) ?_
        refine v_icmp_ne (tgt := 61) hf dX15_report_52 (by decide) (fun hq hf => ?_) (fun hq hf => ?_)
        · refine v_aload_n (x := (some p0)) dX15_report_55 rfl 0 rfl ?_
          refine v_iconst (v := 3) dX15_report_56 (by decide) ?_
          obtain ⟨x15, s16, hcs16, hf⟩ := bd_of hf
          have hts16 := c_X15_refused (l := l) (D := D) (cy := cy) (ka := ka) hcs16
          refine v_callV cb_16 hk_p0 (As := [.int (3 : Int32)]) (rest := []) hts16 yb_X15_refused kw_1729 kw_1731 kp_77 rfl ⟨Nat.le_of_ble_eq_true rfl, Nat.le_of_ble_eq_true rfl⟩ rfl (cat_len (Nat.le_of_ble_eq_true rfl)) dX15_report_57 ?_
          have hk_p0 := tk_ hts16.1 hk_p0
          show v_ l D cy ka cX15_report RX15 4 (some FieldType.int) "report" 1 25 (qf_ D cy σ z (some (.int r))) σ z _ 60 [(0, va_rf (some p0)), (1, .int p1), (2, .int p2), (3, .int p3)] [.int x15]
          exact v_iret hf dX15_report_60
        · refine v_aload_n (x := (some p0)) dX15_report_61 rfl 0 rfl ?_
          refine v_aload_n (x := (some p0)) dX15_report_62 rfl 0 rfl ?_
          refine v_iload_n (x := p1) dX15_report_63 rfl 1 rfl ?_
          refine v_iconst (v := (-1)) dX15_report_64 (by decide) ?_
          refine v_iload_n (x := p2) dX15_report_65 rfl 2 rfl ?_
          refine v_iload_n (x := p3) dX15_report_66 rfl 3 rfl ?_
          obtain ⟨x17, s18, hcs18, hf⟩ := bd_of hf
          have hts18 := c_X15_reported (l := l) (D := D) (cy := cy) (ka := ka) hcs18
          refine v_callV cb_16 hk_p0 (As := [.int p1, .int (-1 : Int32), .int p2, .int p3]) (rest := [va_rf (some p0)]) hts18 yb_X15_reported kw_2118 kw_2120 kp_130 rfl ⟨Nat.le_of_ble_eq_true rfl, Nat.le_of_ble_eq_true rfl⟩ rfl (cat_len (Nat.le_of_ble_eq_true rfl)) dX15_report_67 ?_
          have hk_p0 := tk_ hts18.1 hk_p0
          show v_ l D cy ka cX15_report RX15 4 (some FieldType.int) "report" 1 25 (qf_ D cy σ z (some (.int r))) σ z _ 70 [(0, va_rf (some p0)), (1, .int p1), (2, .int p2), (3, .int p3)] [.int x17, va_rf (some p0)]
          obtain ⟨x19, s20, hcs20, hf⟩ := bd_of hf
          have hts20 := c_X15_done (l := l) (D := D) (cy := cy) (ka := ka) hcs20
          refine v_callV cb_16 hk_p0 (As := [.int x17]) (rest := []) hts20 yb_X15_done kw_1733 kw_1735 kp_78 rfl ⟨Nat.le_of_ble_eq_true rfl, Nat.le_of_ble_eq_true rfl⟩ rfl (cat_len (Nat.le_of_ble_eq_true rfl)) dX15_report_70 ?_
          have hk_p0 := tk_ hts20.1 hk_p0
          show v_ l D cy ka cX15_report RX15 4 (some FieldType.int) "report" 1 25 (qf_ D cy σ z (some (.int r))) σ z _ 73 [(0, va_rf (some p0)), (1, .int p1), (2, .int p2), (3, .int p3)] [.int x19]
          exact v_iret hf dX15_report_73
theorem dX15_rumour_0 : decode cX15_rumour 0 = .ok (.aload_n 0, 1) := by decide +kernel
theorem dX15_rumour_1 : decode cX15_rumour 1 = .ok (.iconst 0, 1) := by decide +kernel
theorem dX15_rumour_2 : decode cX15_rumour 2 = .ok (.putfield 1, 3) := by decide +kernel
theorem dX15_rumour_5 : decode cX15_rumour 5 = .ok (.iload 4, 2) := by decide +kernel
theorem dX15_rumour_7 : decode cX15_rumour 7 = .ok (.iconst (-1), 1) := by decide +kernel
theorem dX15_rumour_8 : decode cX15_rumour 8 = .ok (.if_icmp .ne 7, 3) := by decide +kernel
theorem dX15_rumour_11 : decode cX15_rumour 11 = .ok (.iconst 0, 1) := by decide +kernel
theorem dX15_rumour_12 : decode cX15_rumour 12 = .ok (.goto 24, 3) := by decide +kernel
theorem dX15_rumour_15 : decode cX15_rumour 15 = .ok (.iload 6, 2) := by decide +kernel
theorem dX15_rumour_17 : decode cX15_rumour 17 = .ok (.iconst (-1), 1) := by decide +kernel
theorem dX15_rumour_18 : decode cX15_rumour 18 = .ok (.if_icmp .ne 7, 3) := by decide +kernel
theorem dX15_rumour_21 : decode cX15_rumour 21 = .ok (.iconst 1, 1) := by decide +kernel
theorem dX15_rumour_22 : decode cX15_rumour 22 = .ok (.goto 14, 3) := by decide +kernel
theorem dX15_rumour_25 : decode cX15_rumour 25 = .ok (.iload 8, 2) := by decide +kernel
theorem dX15_rumour_27 : decode cX15_rumour 27 = .ok (.iconst (-1), 1) := by decide +kernel
theorem dX15_rumour_28 : decode cX15_rumour 28 = .ok (.if_icmp .ne 7, 3) := by decide +kernel
theorem dX15_rumour_31 : decode cX15_rumour 31 = .ok (.iconst 2, 1) := by decide +kernel
theorem dX15_rumour_32 : decode cX15_rumour 32 = .ok (.goto 4, 3) := by decide +kernel
theorem dX15_rumour_35 : decode cX15_rumour 35 = .ok (.iconst 3, 1) := by decide +kernel
theorem dX15_rumour_36 : decode cX15_rumour 36 = .ok (.istore 10, 2) := by decide +kernel
theorem dX15_rumour_38 : decode cX15_rumour 38 = .ok (.iload_n 1, 1) := by decide +kernel
theorem dX15_rumour_39 : decode cX15_rumour 39 = .ok (.iconst 0, 1) := by decide +kernel
theorem dX15_rumour_40 : decode cX15_rumour 40 = .ok (.bipush 99, 2) := by decide +kernel
theorem dX15_rumour_42 : decode cX15_rumour 42 = .ok (.invokestatic 197, 3) := by decide +kernel
theorem dX15_rumour_45 : decode cX15_rumour 45 = .ok (.ifCond .eq 28, 3) := by decide +kernel
theorem dX15_rumour_48 : decode cX15_rumour 48 = .ok (.iload_n 2, 1) := by decide +kernel
theorem dX15_rumour_49 : decode cX15_rumour 49 = .ok (.iconst 0, 1) := by decide +kernel
theorem dX15_rumour_50 : decode cX15_rumour 50 = .ok (.aload_n 0, 1) := by decide +kernel
theorem dX15_rumour_51 : decode cX15_rumour 51 = .ok (.invokevirtual 230, 3) := by decide +kernel
theorem dX15_rumour_54 : decode cX15_rumour 54 = .ok (.invokestatic 197, 3) := by decide +kernel
theorem dX15_rumour_57 : decode cX15_rumour 57 = .ok (.ifCond .eq 16, 3) := by decide +kernel
theorem dX15_rumour_60 : decode cX15_rumour 60 = .ok (.iload_n 3, 1) := by decide +kernel
theorem dX15_rumour_61 : decode cX15_rumour 61 = .ok (.iconst 0, 1) := by decide +kernel
theorem dX15_rumour_62 : decode cX15_rumour 62 = .ok (.iconst 4, 1) := by decide +kernel
theorem dX15_rumour_63 : decode cX15_rumour 63 = .ok (.invokestatic 197, 3) := by decide +kernel
theorem dX15_rumour_66 : decode cX15_rumour 66 = .ok (.ifCond .eq 7, 3) := by decide +kernel
theorem dX15_rumour_69 : decode cX15_rumour 69 = .ok (.iconst 1, 1) := by decide +kernel
theorem dX15_rumour_70 : decode cX15_rumour 70 = .ok (.goto 4, 3) := by decide +kernel
theorem dX15_rumour_73 : decode cX15_rumour 73 = .ok (.iconst 0, 1) := by decide +kernel
theorem dX15_rumour_74 : decode cX15_rumour 74 = .ok (.istore 11, 2) := by decide +kernel
theorem dX15_rumour_76 : decode cX15_rumour 76 = .ok (.iload 11, 2) := by decide +kernel
theorem dX15_rumour_78 : decode cX15_rumour 78 = .ok (.ifCond .eq 35, 3) := by decide +kernel
theorem dX15_rumour_81 : decode cX15_rumour 81 = .ok (.iload 10, 2) := by decide +kernel
theorem dX15_rumour_83 : decode cX15_rumour 83 = .ok (.iconst 1, 1) := by decide +kernel
theorem dX15_rumour_84 : decode cX15_rumour 84 = .ok (.if_icmp .lt 25, 3) := by decide +kernel
theorem dX15_rumour_87 : decode cX15_rumour 87 = .ok (.iload 4, 2) := by decide +kernel
theorem dX15_rumour_89 : decode cX15_rumour 89 = .ok (.invokestatic 250, 3) := by decide +kernel
theorem dX15_rumour_92 : decode cX15_rumour 92 = .ok (.ifCond .eq 21, 3) := by decide +kernel
theorem dX15_rumour_95 : decode cX15_rumour 95 = .ok (.iload 5, 2) := by decide +kernel
theorem dX15_rumour_97 : decode cX15_rumour 97 = .ok (.sipush (-9999), 3) := by decide +kernel
theorem dX15_rumour_100 : decode cX15_rumour 100 = .ok (.sipush 9999, 3) := by decide +kernel
theorem dX15_rumour_103 : decode cX15_rumour 103 = .ok (.invokestatic 197, 3) := by decide +kernel
theorem dX15_rumour_106 : decode cX15_rumour 106 = .ok (.ifCond .eq 7, 3) := by decide +kernel
theorem dX15_rumour_109 : decode cX15_rumour 109 = .ok (.iconst 1, 1) := by decide +kernel
theorem dX15_rumour_110 : decode cX15_rumour 110 = .ok (.goto 4, 3) := by decide +kernel
theorem dX15_rumour_113 : decode cX15_rumour 113 = .ok (.iconst 0, 1) := by decide +kernel
theorem dX15_rumour_114 : decode cX15_rumour 114 = .ok (.istore 11, 2) := by decide +kernel
theorem dX15_rumour_116 : decode cX15_rumour 116 = .ok (.iload 11, 2) := by decide +kernel
theorem dX15_rumour_118 : decode cX15_rumour 118 = .ok (.ifCond .eq 35, 3) := by decide +kernel
theorem dX15_rumour_121 : decode cX15_rumour 121 = .ok (.iload 10, 2) := by decide +kernel
theorem dX15_rumour_123 : decode cX15_rumour 123 = .ok (.iconst 2, 1) := by decide +kernel
theorem dX15_rumour_124 : decode cX15_rumour 124 = .ok (.if_icmp .lt 25, 3) := by decide +kernel
theorem dX15_rumour_127 : decode cX15_rumour 127 = .ok (.iload 6, 2) := by decide +kernel
theorem dX15_rumour_129 : decode cX15_rumour 129 = .ok (.invokestatic 250, 3) := by decide +kernel
theorem dX15_rumour_132 : decode cX15_rumour 132 = .ok (.ifCond .eq 21, 3) := by decide +kernel
theorem dX15_rumour_135 : decode cX15_rumour 135 = .ok (.iload 7, 2) := by decide +kernel
theorem dX15_rumour_137 : decode cX15_rumour 137 = .ok (.sipush (-9999), 3) := by decide +kernel
theorem dX15_rumour_140 : decode cX15_rumour 140 = .ok (.sipush 9999, 3) := by decide +kernel
theorem dX15_rumour_143 : decode cX15_rumour 143 = .ok (.invokestatic 197, 3) := by decide +kernel
theorem dX15_rumour_146 : decode cX15_rumour 146 = .ok (.ifCond .eq 7, 3) := by decide +kernel
theorem dX15_rumour_149 : decode cX15_rumour 149 = .ok (.iconst 1, 1) := by decide +kernel
theorem dX15_rumour_150 : decode cX15_rumour 150 = .ok (.goto 4, 3) := by decide +kernel
theorem dX15_rumour_153 : decode cX15_rumour 153 = .ok (.iconst 0, 1) := by decide +kernel
theorem dX15_rumour_154 : decode cX15_rumour 154 = .ok (.istore 11, 2) := by decide +kernel
theorem dX15_rumour_156 : decode cX15_rumour 156 = .ok (.iload 11, 2) := by decide +kernel
theorem dX15_rumour_158 : decode cX15_rumour 158 = .ok (.ifCond .eq 35, 3) := by decide +kernel
theorem dX15_rumour_161 : decode cX15_rumour 161 = .ok (.iload 10, 2) := by decide +kernel
theorem dX15_rumour_163 : decode cX15_rumour 163 = .ok (.iconst 3, 1) := by decide +kernel
theorem dX15_rumour_164 : decode cX15_rumour 164 = .ok (.if_icmp .lt 25, 3) := by decide +kernel
theorem dX15_rumour_167 : decode cX15_rumour 167 = .ok (.iload 8, 2) := by decide +kernel
theorem dX15_rumour_169 : decode cX15_rumour 169 = .ok (.invokestatic 250, 3) := by decide +kernel
theorem dX15_rumour_172 : decode cX15_rumour 172 = .ok (.ifCond .eq 21, 3) := by decide +kernel
theorem dX15_rumour_175 : decode cX15_rumour 175 = .ok (.iload 9, 2) := by decide +kernel
theorem dX15_rumour_177 : decode cX15_rumour 177 = .ok (.sipush (-9999), 3) := by decide +kernel
theorem dX15_rumour_180 : decode cX15_rumour 180 = .ok (.sipush 9999, 3) := by decide +kernel
theorem dX15_rumour_183 : decode cX15_rumour 183 = .ok (.invokestatic 197, 3) := by decide +kernel
theorem dX15_rumour_186 : decode cX15_rumour 186 = .ok (.ifCond .eq 7, 3) := by decide +kernel
theorem dX15_rumour_189 : decode cX15_rumour 189 = .ok (.iconst 1, 1) := by decide +kernel
theorem dX15_rumour_190 : decode cX15_rumour 190 = .ok (.goto 4, 3) := by decide +kernel
theorem dX15_rumour_193 : decode cX15_rumour 193 = .ok (.iconst 0, 1) := by decide +kernel
theorem dX15_rumour_194 : decode cX15_rumour 194 = .ok (.istore 11, 2) := by decide +kernel
theorem dX15_rumour_196 : decode cX15_rumour 196 = .ok (.iload 11, 2) := by decide +kernel
theorem dX15_rumour_198 : decode cX15_rumour 198 = .ok (.ifCond .ne 9, 3) := by decide +kernel
theorem dX15_rumour_201 : decode cX15_rumour 201 = .ok (.aload_n 0, 1) := by decide +kernel
theorem dX15_rumour_202 : decode cX15_rumour 202 = .ok (.iconst 2, 1) := by decide +kernel
theorem dX15_rumour_203 : decode cX15_rumour 203 = .ok (.invokevirtual 201, 3) := by decide +kernel
theorem dX15_rumour_206 : decode cX15_rumour 206 = .ok (.ireturn, 1) := by decide +kernel
theorem dX15_rumour_207 : decode cX15_rumour 207 = .ok (.aload_n 0, 1) := by decide +kernel
theorem dX15_rumour_208 : decode cX15_rumour 208 = .ok (.getfield 540, 3) := by decide +kernel
theorem dX15_rumour_211 : decode cX15_rumour 211 = .ok (.bipush 120, 2) := by decide +kernel
theorem dX15_rumour_213 : decode cX15_rumour 213 = .ok (.if_icmp .ne 9, 3) := by decide +kernel
theorem dX15_rumour_216 : decode cX15_rumour 216 = .ok (.aload_n 0, 1) := by decide +kernel
theorem dX15_rumour_217 : decode cX15_rumour 217 = .ok (.iconst 3, 1) := by decide +kernel
theorem dX15_rumour_218 : decode cX15_rumour 218 = .ok (.invokevirtual 201, 3) := by decide +kernel
theorem dX15_rumour_221 : decode cX15_rumour 221 = .ok (.ireturn, 1) := by decide +kernel
theorem dX15_rumour_222 : decode cX15_rumour 222 = .ok (.aload_n 0, 1) := by decide +kernel
theorem dX15_rumour_223 : decode cX15_rumour 223 = .ok (.iconst (-1), 1) := by decide +kernel
theorem dX15_rumour_224 : decode cX15_rumour 224 = .ok (.iload_n 1, 1) := by decide +kernel
theorem dX15_rumour_225 : decode cX15_rumour 225 = .ok (.iload_n 2, 1) := by decide +kernel
theorem dX15_rumour_226 : decode cX15_rumour 226 = .ok (.iload_n 3, 1) := by decide +kernel
theorem dX15_rumour_227 : decode cX15_rumour 227 = .ok (.invokevirtual 543, 3) := by decide +kernel
theorem dX15_rumour_230 : decode cX15_rumour 230 = .ok (.istore 12, 2) := by decide +kernel
theorem dX15_rumour_232 : decode cX15_rumour 232 = .ok (.iconst 0, 1) := by decide +kernel
theorem dX15_rumour_233 : decode cX15_rumour 233 = .ok (.istore 13, 2) := by decide +kernel
theorem dX15_rumour_235 : decode cX15_rumour 235 = .ok (.iload 13, 2) := by decide +kernel
theorem dX15_rumour_237 : decode cX15_rumour 237 = .ok (.iload 10, 2) := by decide +kernel
theorem dX15_rumour_239 : decode cX15_rumour 239 = .ok (.if_icmp .ge 79, 3) := by decide +kernel
theorem dX15_rumour_242 : decode cX15_rumour 242 = .ok (.aload_n 0, 1) := by decide +kernel
theorem dX15_rumour_243 : decode cX15_rumour 243 = .ok (.getfield 134, 3) := by decide +kernel
theorem dX15_rumour_246 : decode cX15_rumour 246 = .ok (.iconst 3, 1) := by decide +kernel
theorem dX15_rumour_247 : decode cX15_rumour 247 = .ok (.iload 12, 2) := by decide +kernel
theorem dX15_rumour_249 : decode cX15_rumour 249 = .ok (.imul, 1) := by decide +kernel
theorem dX15_rumour_250 : decode cX15_rumour 250 = .ok (.iload 13, 2) := by decide +kernel
theorem dX15_rumour_252 : decode cX15_rumour 252 = .ok (.iadd, 1) := by decide +kernel
theorem dX15_rumour_253 : decode cX15_rumour 253 = .ok (.iload 13, 2) := by decide +kernel
theorem dX15_rumour_255 : decode cX15_rumour 255 = .ok (.ifCond .ne 8, 3) := by decide +kernel
theorem dX15_rumour_258 : decode cX15_rumour 258 = .ok (.iload 4, 2) := by decide +kernel
theorem dX15_rumour_260 : decode cX15_rumour 260 = .ok (.goto 16, 3) := by decide +kernel
theorem dX15_rumour_263 : decode cX15_rumour 263 = .ok (.iload 13, 2) := by decide +kernel
theorem dX15_rumour_265 : decode cX15_rumour 265 = .ok (.iconst 1, 1) := by decide +kernel
theorem dX15_rumour_266 : decode cX15_rumour 266 = .ok (.if_icmp .ne 8, 3) := by decide +kernel
theorem dX15_rumour_269 : decode cX15_rumour 269 = .ok (.iload 6, 2) := by decide +kernel
theorem dX15_rumour_271 : decode cX15_rumour 271 = .ok (.goto 5, 3) := by decide +kernel
theorem dX15_rumour_274 : decode cX15_rumour 274 = .ok (.iload 8, 2) := by decide +kernel
theorem dX15_rumour_276 : decode cX15_rumour 276 = .ok (.iastore, 1) := by decide +kernel
theorem dX15_rumour_277 : decode cX15_rumour 277 = .ok (.aload_n 0, 1) := by decide +kernel
theorem dX15_rumour_278 : decode cX15_rumour 278 = .ok (.getfield 137, 3) := by decide +kernel
theorem dX15_rumour_281 : decode cX15_rumour 281 = .ok (.iconst 3, 1) := by decide +kernel
theorem dX15_rumour_282 : decode cX15_rumour 282 = .ok (.iload 12, 2) := by decide +kernel
theorem dX15_rumour_284 : decode cX15_rumour 284 = .ok (.imul, 1) := by decide +kernel
theorem dX15_rumour_285 : decode cX15_rumour 285 = .ok (.iload 13, 2) := by decide +kernel
theorem dX15_rumour_287 : decode cX15_rumour 287 = .ok (.iadd, 1) := by decide +kernel
theorem dX15_rumour_288 : decode cX15_rumour 288 = .ok (.iload 13, 2) := by decide +kernel
theorem dX15_rumour_290 : decode cX15_rumour 290 = .ok (.ifCond .ne 8, 3) := by decide +kernel
theorem dX15_rumour_293 : decode cX15_rumour 293 = .ok (.iload 5, 2) := by decide +kernel
theorem dX15_rumour_295 : decode cX15_rumour 295 = .ok (.goto 16, 3) := by decide +kernel
theorem dX15_rumour_298 : decode cX15_rumour 298 = .ok (.iload 13, 2) := by decide +kernel
theorem dX15_rumour_300 : decode cX15_rumour 300 = .ok (.iconst 1, 1) := by decide +kernel
theorem dX15_rumour_301 : decode cX15_rumour 301 = .ok (.if_icmp .ne 8, 3) := by decide +kernel
theorem dX15_rumour_304 : decode cX15_rumour 304 = .ok (.iload 7, 2) := by decide +kernel
theorem dX15_rumour_306 : decode cX15_rumour 306 = .ok (.goto 5, 3) := by decide +kernel
theorem dX15_rumour_309 : decode cX15_rumour 309 = .ok (.iload 9, 2) := by decide +kernel
theorem dX15_rumour_311 : decode cX15_rumour 311 = .ok (.iastore, 1) := by decide +kernel
theorem dX15_rumour_312 : decode cX15_rumour 312 = .ok (.iinc 13 1, 3) := by decide +kernel
theorem dX15_rumour_315 : decode cX15_rumour 315 = .ok (.goto (-80), 3) := by decide +kernel
theorem dX15_rumour_318 : decode cX15_rumour 318 = .ok (.aload_n 0, 1) := by decide +kernel
theorem dX15_rumour_319 : decode cX15_rumour 319 = .ok (.iload 12, 2) := by decide +kernel
theorem dX15_rumour_321 : decode cX15_rumour 321 = .ok (.invokevirtual 205, 3) := by decide +kernel
theorem dX15_rumour_324 : decode cX15_rumour 324 = .ok (.ireturn, 1) := by decide +kernel
def f_X15_rumour_b311 (rec_235 : TH → Nat → Int32 → Int32 → Int32 → Int32 → Int32 → Int32 → Int32 → Int32 → Int32 → Option (Int32 × TH)) (σ : TH) (l0 : Nat) (l4 : Int32) (l5 : Int32) (l6 : Int32) (l7 : Int32) (l8 : Int32) (l9 : Int32) (l10 : Int32) (l12 : Int32) (l13 : Int32) (t0 : Int32) (t1 : Int32) (t2 : Option Nat) : Option (Int32 × TH) :=
  nn_ t2 fun a17 => gt_ (kd_ σ a17 = 20) <| gt_ (¬ (t1 < 0 ∨ ln_ σ a17 ≤ t1.toNatClampNeg)) <| lt_ (sa_ σ a17 t1.toNatClampNeg t0) fun s18 => lt_ (l13 + 1) fun x19 => rec_235 s18 l0 l4 l5 l6 l7 l8 l9 l10 l12 x19
set_option maxHeartbeats 4000000 in
set_option maxRecDepth 100000 in
theorem t_X15_rumour_b311 {l : Launch} {D : va_G} {cy : Nat → ClassId} {ka : Nat → Nat} {σ0 z : TH} {r : Int32} {rec_235 : TH → Nat → Int32 → Int32 → Int32 → Int32 → Int32 → Int32 → Int32 → Int32 → Int32 → Option (Int32 × TH)} (hrec_235 : ∀ (σ : TH) (l0 : Nat) (l4 : Int32) (l5 : Int32) (l6 : Int32) (l7 : Int32) (l8 : Int32) (l9 : Int32) (l10 : Int32) (l12 : Int32) (l13 : Int32), rec_235 σ l0 l4 l5 l6 l7 l8 l9 l10 l12 l13 = some (r, z) → v_ l D cy ka cX15_rumour RX15 14 (some FieldType.int) "rumour" 1 25 (qf_ D cy σ0 z (some (.int r))) σ0 z σ 235 [(0, va_rf (some l0)), (4, .int l4), (5, .int l5), (6, .int l6), (7, .int l7), (8, .int l8), (9, .int l9), (10, .int l10), (12, .int l12), (13, .int l13)] []) {σ : TH} {l0 : Nat} {l4 : Int32} {l5 : Int32} {l6 : Int32} {l7 : Int32} {l8 : Int32} {l9 : Int32} {l10 : Int32} {l12 : Int32} {l13 : Int32} {t0 : Int32} {t1 : Int32} {t2 : Option Nat} (hf : f_X15_rumour_b311 rec_235 σ l0 l4 l5 l6 l7 l8 l9 l10 l12 l13 t0 t1 t2 = some (r, z)) : v_ l D cy ka cX15_rumour RX15 14 (some FieldType.int) "rumour" 1 25 (qf_ D cy σ0 z (some (.int r))) σ0 z σ 311 [(0, va_rf (some l0)), (4, .int l4), (5, .int l5), (6, .int l6), (7, .int l7), (8, .int l8), (9, .int l9), (10, .int l10), (12, .int l12), (13, .int l13)] [.int t0, .int t1, va_rf t2] := by
  unfold f_X15_rumour_b311 at hf
  obtain ⟨a17, rfl, hf⟩ := nn_of hf
  obtain ⟨hk_a17, hf⟩ := gt_of hf
  refine v_iast2 hk_a17 hf dX15_rumour_311 (fun s18 hts18 hf => ?_)
  obtain ⟨x19, ex19⟩ : ∃ y : Int32, y = l13 + 1 := ⟨_, rfl⟩
  rw [lt_e, ← ex19] at hf
  refine v_iinc (v := x19) [(13, .int x19), (0, va_rf (some l0)), (4, .int l4), (5, .int l5), (6, .int l6), (7, .int l7), (8, .int l8), (9, .int l9), (10, .int l10), (12, .int l12)] dX15_rumour_312 9 rfl (by rw [ex19]; rfl) (by decide) rfl ?_
  refine v_goto (tgt := 235) dX15_rumour_315 (by decide) ?_
  refine v_sub [1, 2, 3, 4, 5, 6, 7, 8, 9, 0] (L2 := [(0, va_rf (some l0)), (4, .int l4), (5, .int l5), (6, .int l6), (7, .int l7), (8, .int l8), (9, .int l9), (10, .int l10), (12, .int l12), (13, .int x19)]) rfl ?_
  exact hrec_235 _ _ _ _ _ _ _ _ _ _ _ hf
def f_X15_rumour_b276 (rec_235 : TH → Nat → Int32 → Int32 → Int32 → Int32 → Int32 → Int32 → Int32 → Int32 → Int32 → Option (Int32 × TH)) (σ : TH) (l0 : Nat) (l4 : Int32) (l5 : Int32) (l6 : Int32) (l7 : Int32) (l8 : Int32) (l9 : Int32) (l10 : Int32) (l12 : Int32) (l13 : Int32) (t0 : Int32) (t1 : Int32) (t2 : Option Nat) : Option (Int32 × TH) :=
  nn_ t2 fun a14 => gt_ (kd_ σ a14 = 20) <| gt_ (¬ (t1 < 0 ∨ ln_ σ a14 ≤ t1.toNatClampNeg)) <| lt_ (sa_ σ a14 t1.toNatClampNeg t0) fun s15 => gt_ (kd_ s15 l0 = 17) <| lt_ (fr_ s15 1667 l0) fun r16 => if l13 = 0 then (f_X15_rumour_b311 rec_235 s15 l0 l4 l5 l6 l7 l8 l9 l10 l12 l13 l5 (((3 : Int32) * l12) + l13) r16) else (if l13 = (1 : Int32) then (f_X15_rumour_b311 rec_235 s15 l0 l4 l5 l6 l7 l8 l9 l10 l12 l13 l7 (((3 : Int32) * l12) + l13) r16) else (f_X15_rumour_b311 rec_235 s15 l0 l4 l5 l6 l7 l8 l9 l10 l12 l13 l9 (((3 : Int32) * l12) + l13) r16))
set_option maxHeartbeats 4000000 in
set_option maxRecDepth 100000 in
theorem t_X15_rumour_b276 {l : Launch} {D : va_G} {cy : Nat → ClassId} {ka : Nat → Nat} {σ0 z : TH} {r : Int32} {rec_235 : TH → Nat → Int32 → Int32 → Int32 → Int32 → Int32 → Int32 → Int32 → Int32 → Int32 → Option (Int32 × TH)} (hrec_235 : ∀ (σ : TH) (l0 : Nat) (l4 : Int32) (l5 : Int32) (l6 : Int32) (l7 : Int32) (l8 : Int32) (l9 : Int32) (l10 : Int32) (l12 : Int32) (l13 : Int32), rec_235 σ l0 l4 l5 l6 l7 l8 l9 l10 l12 l13 = some (r, z) → v_ l D cy ka cX15_rumour RX15 14 (some FieldType.int) "rumour" 1 25 (qf_ D cy σ0 z (some (.int r))) σ0 z σ 235 [(0, va_rf (some l0)), (4, .int l4), (5, .int l5), (6, .int l6), (7, .int l7), (8, .int l8), (9, .int l9), (10, .int l10), (12, .int l12), (13, .int l13)] []) {σ : TH} {l0 : Nat} {l4 : Int32} {l5 : Int32} {l6 : Int32} {l7 : Int32} {l8 : Int32} {l9 : Int32} {l10 : Int32} {l12 : Int32} {l13 : Int32} {t0 : Int32} {t1 : Int32} {t2 : Option Nat} (hf : f_X15_rumour_b276 rec_235 σ l0 l4 l5 l6 l7 l8 l9 l10 l12 l13 t0 t1 t2 = some (r, z)) : v_ l D cy ka cX15_rumour RX15 14 (some FieldType.int) "rumour" 1 25 (qf_ D cy σ0 z (some (.int r))) σ0 z σ 276 [(0, va_rf (some l0)), (4, .int l4), (5, .int l5), (6, .int l6), (7, .int l7), (8, .int l8), (9, .int l9), (10, .int l10), (12, .int l12), (13, .int l13)] [.int t0, .int t1, va_rf t2] := by
  unfold f_X15_rumour_b276 at hf
  obtain ⟨a14, rfl, hf⟩ := nn_of hf
  obtain ⟨hk_a14, hf⟩ := gt_of hf
  refine v_iast2 hk_a14 hf dX15_rumour_276 (fun s15 hts15 hf => ?_)
  refine v_aload_n (x := (some l0)) dX15_rumour_277 rfl 0 rfl ?_
  obtain ⟨hk_l0, hf⟩ := gt_of hf
  refine v_getr cb_16 hk_l0 67 1667 rfl (by decide) rfl (lk_n kw_1524 rfl) hf dX15_rumour_278 (fun r16 hf => ?_)
  refine v_iconst (v := 3) dX15_rumour_281 (by decide) ?_
  refine v_iload (x := l12) dX15_rumour_282 8 rfl ?_
  refine v_imul dX15_rumour_284 ?_
  refine v_iload (x := l13) dX15_rumour_285 9 rfl ?_
  refine v_iadd dX15_rumour_287 ?_
  refine v_iload (x := l13) dX15_rumour_288 9 rfl ?_
  refine v_if_ne (tgt := 298) hf dX15_rumour_290 (by decide) (fun hq hf => ?_) (fun hq hf => ?_)
  · refine v_iload (x := l5) dX15_rumour_293 2 rfl ?_
    refine v_goto (tgt := 311) dX15_rumour_295 (by decide) ?_
    refine v_sub [0, 1, 2, 3, 4, 5, 6, 7, 8, 9] (L2 := [(0, va_rf (some l0)), (4, .int l4), (5, .int l5), (6, .int l6), (7, .int l7), (8, .int l8), (9, .int l9), (10, .int l10), (12, .int l12), (13, .int l13)]) rfl ?_
    exact t_X15_rumour_b311 hrec_235 hf
  · refine v_iload (x := l13) dX15_rumour_298 9 rfl ?_
    refine v_iconst (v := 1) dX15_rumour_300 (by decide) ?_
    refine v_icmp_ne (tgt := 309) hf dX15_rumour_301 (by decide) (fun hq hf => ?_) (fun hq hf => ?_)
    · refine v_iload (x := l7) dX15_rumour_304 4 rfl ?_
      refine v_goto (tgt := 311) dX15_rumour_306 (by decide) ?_
      refine v_sub [0, 1, 2, 3, 4, 5, 6, 7, 8, 9] (L2 := [(0, va_rf (some l0)), (4, .int l4), (5, .int l5), (6, .int l6), (7, .int l7), (8, .int l8), (9, .int l9), (10, .int l10), (12, .int l12), (13, .int l13)]) rfl ?_
      exact t_X15_rumour_b311 hrec_235 hf
    · refine v_iload (x := l9) dX15_rumour_309 6 rfl ?_
      refine v_sub [0, 1, 2, 3, 4, 5, 6, 7, 8, 9] (L2 := [(0, va_rf (some l0)), (4, .int l4), (5, .int l5), (6, .int l6), (7, .int l7), (8, .int l8), (9, .int l9), (10, .int l10), (12, .int l12), (13, .int l13)]) rfl ?_
      exact t_X15_rumour_b311 hrec_235 hf
def f_X15_rumour_b235 : Nat → TH → Nat → Int32 → Int32 → Int32 → Int32 → Int32 → Int32 → Int32 → Int32 → Int32 → Option (Int32 × TH)
  | 0, _, _, _, _, _, _, _, _, _, _, _ => none
  | n + 1, σ, l0, l4, l5, l6, l7, l8, l9, l10, l12, l13 => if l10 ≤ l13 then (gt_ (kd_ σ l0 = 17) <| bd_ (f_X15_done σ l0 l12) fun x11 s12 => some (x11, s12)) else (gt_ (kd_ σ l0 = 17) <| lt_ (fr_ σ 1666 l0) fun r13 => if l13 = 0 then (f_X15_rumour_b276 (f_X15_rumour_b235 n) σ l0 l4 l5 l6 l7 l8 l9 l10 l12 l13 l4 (((3 : Int32) * l12) + l13) r13) else (if l13 = (1 : Int32) then (f_X15_rumour_b276 (f_X15_rumour_b235 n) σ l0 l4 l5 l6 l7 l8 l9 l10 l12 l13 l6 (((3 : Int32) * l12) + l13) r13) else (f_X15_rumour_b276 (f_X15_rumour_b235 n) σ l0 l4 l5 l6 l7 l8 l9 l10 l12 l13 l8 (((3 : Int32) * l12) + l13) r13)))
set_option maxHeartbeats 4000000 in
set_option maxRecDepth 100000 in
theorem t_X15_rumour_b235 {l : Launch} {D : va_G} {cy : Nat → ClassId} {ka : Nat → Nat} {σ0 z : TH} {r : Int32}  : ∀ (n : Nat) (σ : TH) (l0 : Nat) (l4 : Int32) (l5 : Int32) (l6 : Int32) (l7 : Int32) (l8 : Int32) (l9 : Int32) (l10 : Int32) (l12 : Int32) (l13 : Int32), f_X15_rumour_b235 n σ l0 l4 l5 l6 l7 l8 l9 l10 l12 l13 = some (r, z) → v_ l D cy ka cX15_rumour RX15 14 (some FieldType.int) "rumour" 1 25 (qf_ D cy σ0 z (some (.int r))) σ0 z σ 235 [(0, va_rf (some l0)), (4, .int l4), (5, .int l5), (6, .int l6), (7, .int l7), (8, .int l8), (9, .int l9), (10, .int l10), (12, .int l12), (13, .int l13)] [] := by
  intro n
  induction n with
  | zero => intro σ l0 l4 l5 l6 l7 l8 l9 l10 l12 l13 hf; unfold f_X15_rumour_b235 at hf; cases hf
  | succ n ih =>
    intro σ l0 l4 l5 l6 l7 l8 l9 l10 l12 l13 hf
    unfold f_X15_rumour_b235 at hf
    have hrec_235 := ih
    refine v_iload (x := l13) dX15_rumour_235 9 rfl ?_
    refine v_iload (x := l10) dX15_rumour_237 7 rfl ?_
    refine v_icmp_ge (tgt := 318) hf dX15_rumour_239 (by decide) (fun hq hf => ?_) (fun hq hf => ?_)
    · refine v_aload_n (x := (some l0)) dX15_rumour_318 rfl 0 rfl ?_
      refine v_iload (x := l12) dX15_rumour_319 8 rfl ?_
      obtain ⟨hk_l0, hf⟩ := gt_of hf
      obtain ⟨x11, s12, hcs12, hf⟩ := bd_of hf
      have hts12 := c_X15_done (l := l) (D := D) (cy := cy) (ka := ka) hcs12
      refine v_callV cb_16 hk_l0 (As := [.int l12]) (rest := []) hts12 yb_X15_done kw_1733 kw_1735 kp_78 rfl ⟨Nat.le_of_ble_eq_true rfl, Nat.le_of_ble_eq_true rfl⟩ rfl (cat_len (Nat.le_of_ble_eq_true rfl)) dX15_rumour_321 ?_
      have hk_l0 := tk_ hts12.1 hk_l0
      show v_ l D cy ka cX15_rumour RX15 14 (some FieldType.int) "rumour" 1 25 (qf_ D cy σ0 z (some (.int r))) σ0 z _ 324 [(0, va_rf (some l0)), (4, .int l4), (5, .int l5), (6, .int l6), (7, .int l7), (8, .int l8), (9, .int l9), (10, .int l10), (12, .int l12), (13, .int l13)] [.int x11]
      exact v_iret hf dX15_rumour_324
    · refine v_aload_n (x := (some l0)) dX15_rumour_242 rfl 0 rfl ?_
      obtain ⟨hk_l0, hf⟩ := gt_of hf
      refine v_getr cb_16 hk_l0 66 1666 rfl (by decide) rfl (lk_n kw_1523 rfl) hf dX15_rumour_243 (fun r13 hf => ?_)
      refine v_iconst (v := 3) dX15_rumour_246 (by decide) ?_
      refine v_iload (x := l12) dX15_rumour_247 8 rfl ?_
      refine v_imul dX15_rumour_249 ?_
      refine v_iload (x := l13) dX15_rumour_250 9 rfl ?_
      refine v_iadd dX15_rumour_252 ?_
      refine v_iload (x := l13) dX15_rumour_253 9 rfl ?_
      refine v_if_ne (tgt := 263) hf dX15_rumour_255 (by decide) (fun hq hf => ?_) (fun hq hf => ?_)
      · refine v_iload (x := l4) dX15_rumour_258 1 rfl ?_
        refine v_goto (tgt := 276) dX15_rumour_260 (by decide) ?_
        refine v_sub [0, 1, 2, 3, 4, 5, 6, 7, 8, 9] (L2 := [(0, va_rf (some l0)), (4, .int l4), (5, .int l5), (6, .int l6), (7, .int l7), (8, .int l8), (9, .int l9), (10, .int l10), (12, .int l12), (13, .int l13)]) rfl ?_
        exact t_X15_rumour_b276 hrec_235 hf
      · refine v_iload (x := l13) dX15_rumour_263 9 rfl ?_
        refine v_iconst (v := 1) dX15_rumour_265 (by decide) ?_
        refine v_icmp_ne (tgt := 274) hf dX15_rumour_266 (by decide) (fun hq hf => ?_) (fun hq hf => ?_)
        · refine v_iload (x := l6) dX15_rumour_269 3 rfl ?_
          refine v_goto (tgt := 276) dX15_rumour_271 (by decide) ?_
          refine v_sub [0, 1, 2, 3, 4, 5, 6, 7, 8, 9] (L2 := [(0, va_rf (some l0)), (4, .int l4), (5, .int l5), (6, .int l6), (7, .int l7), (8, .int l8), (9, .int l9), (10, .int l10), (12, .int l12), (13, .int l13)]) rfl ?_
          exact t_X15_rumour_b276 hrec_235 hf
        · refine v_iload (x := l8) dX15_rumour_274 5 rfl ?_
          refine v_sub [0, 1, 2, 3, 4, 5, 6, 7, 8, 9] (L2 := [(0, va_rf (some l0)), (4, .int l4), (5, .int l5), (6, .int l6), (7, .int l7), (8, .int l8), (9, .int l9), (10, .int l10), (12, .int l12), (13, .int l13)]) rfl ?_
          exact t_X15_rumour_b276 hrec_235 hf
def f_X15_rumour_b194 (σ : TH) (l0 : Nat) (l1 : Int32) (l2 : Int32) (l3 : Int32) (l4 : Int32) (l5 : Int32) (l6 : Int32) (l7 : Int32) (l8 : Int32) (l9 : Int32) (l10 : Int32) (t0 : Int32) : Option (Int32 × TH) :=
  if t0 = 0 then (gt_ (kd_ σ l0 = 17) <| bd_ (f_X15_refused σ l0 (2 : Int32)) fun x4 s5 => some (x4, s5)) else (gt_ (kd_ σ l0 = 17) <| lt_ (fi_ σ 1659 l0) fun x6 => if x6 = (120 : Int32) then (bd_ (f_X15_refused σ l0 (3 : Int32)) fun x7 s8 => some (x7, s8)) else (bd_ (f_X15_reported σ l0 (-1 : Int32) l1 l2 l3) fun x9 s10 => f_X15_rumour_b235 fu_ s10 l0 l4 l5 l6 l7 l8 l9 l10 x9 (0 : Int32)))
set_option maxHeartbeats 4000000 in
set_option maxRecDepth 100000 in
theorem t_X15_rumour_b194 {l : Launch} {D : va_G} {cy : Nat → ClassId} {ka : Nat → Nat} {σ0 z : TH} {r : Int32}  {σ : TH} {l0 : Nat} {l1 : Int32} {l2 : Int32} {l3 : Int32} {l4 : Int32} {l5 : Int32} {l6 : Int32} {l7 : Int32} {l8 : Int32} {l9 : Int32} {l10 : Int32} {t0 : Int32} (hf : f_X15_rumour_b194 σ l0 l1 l2 l3 l4 l5 l6 l7 l8 l9 l10 t0 = some (r, z)) : v_ l D cy ka cX15_rumour RX15 14 (some FieldType.int) "rumour" 1 25 (qf_ D cy σ0 z (some (.int r))) σ0 z σ 194 [(0, va_rf (some l0)), (1, .int l1), (2, .int l2), (3, .int l3), (4, .int l4), (5, .int l5), (6, .int l6), (7, .int l7), (8, .int l8), (9, .int l9), (10, .int l10)] [.int t0] := by
  unfold f_X15_rumour_b194 at hf
  refine v_istore [(11, .int t0), (0, va_rf (some l0)), (1, .int l1), (2, .int l2), (3, .int l3), (4, .int l4), (5, .int l5), (6, .int l6), (7, .int l7), (8, .int l8), (9, .int l9), (10, .int l10)] dX15_rumour_194 (by decide) rfl ?_
  refine v_iload (x := t0) dX15_rumour_196 0 rfl ?_
  refine v_if_ne (tgt := 207) hf dX15_rumour_198 (by decide) (fun hq hf => ?_) (fun hq hf => ?_)
  · refine v_aload_n (x := (some l0)) dX15_rumour_201 rfl 1 rfl ?_
    refine v_iconst (v := 2) dX15_rumour_202 (by decide) ?_
    obtain ⟨hk_l0, hf⟩ := gt_of hf
    obtain ⟨x4, s5, hcs5, hf⟩ := bd_of hf
    have hts5 := c_X15_refused (l := l) (D := D) (cy := cy) (ka := ka) hcs5
    refine v_callV cb_16 hk_l0 (As := [.int (2 : Int32)]) (rest := []) hts5 yb_X15_refused kw_1729 kw_1731 kp_77 rfl ⟨Nat.le_of_ble_eq_true rfl, Nat.le_of_ble_eq_true rfl⟩ rfl (cat_len (Nat.le_of_ble_eq_true rfl)) dX15_rumour_203 ?_
    have hk_l0 := tk_ hts5.1 hk_l0
    show v_ l D cy ka cX15_rumour RX15 14 (some FieldType.int) "rumour" 1 25 (qf_ D cy σ0 z (some (.int r))) σ0 z _ 206 [(11, .int t0), (0, va_rf (some l0)), (1, .int l1), (2, .int l2), (3, .int l3), (4, .int l4), (5, .int l5), (6, .int l6), (7, .int l7), (8, .int l8), (9, .int l9), (10, .int l10)] [.int x4]
    exact v_iret hf dX15_rumour_206
  · refine v_aload_n (x := (some l0)) dX15_rumour_207 rfl 1 rfl ?_
    obtain ⟨hk_l0, hf⟩ := gt_of hf
    refine v_geti cb_16 hk_l0 59 1659 rfl (by decide) rfl (lk_n kw_1516 rfl) hf dX15_rumour_208 (fun x6 hf => ?_)
    refine v_bipush (v := 120) dX15_rumour_211 (by decide) ?_
    refine v_icmp_ne (tgt := 222) hf dX15_rumour_213 (by decide) (fun hq hf => ?_) (fun hq hf => ?_)
    · refine v_aload_n (x := (some l0)) dX15_rumour_216 rfl 1 rfl ?_
      refine v_iconst (v := 3) dX15_rumour_217 (by decide) ?_
      obtain ⟨x7, s8, hcs8, hf⟩ := bd_of hf
      have hts8 := c_X15_refused (l := l) (D := D) (cy := cy) (ka := ka) hcs8
      refine v_callV cb_16 hk_l0 (As := [.int (3 : Int32)]) (rest := []) hts8 yb_X15_refused kw_1729 kw_1731 kp_77 rfl ⟨Nat.le_of_ble_eq_true rfl, Nat.le_of_ble_eq_true rfl⟩ rfl (cat_len (Nat.le_of_ble_eq_true rfl)) dX15_rumour_218 ?_
      have hk_l0 := tk_ hts8.1 hk_l0
      show v_ l D cy ka cX15_rumour RX15 14 (some FieldType.int) "rumour" 1 25 (qf_ D cy σ0 z (some (.int r))) σ0 z _ 221 [(11, .int t0), (0, va_rf (some l0)), (1, .int l1), (2, .int l2), (3, .int l3), (4, .int l4), (5, .int l5), (6, .int l6), (7, .int l7), (8, .int l8), (9, .int l9), (10, .int l10)] [.int x7]
      exact v_iret hf dX15_rumour_221
    · refine v_aload_n (x := (some l0)) dX15_rumour_222 rfl 1 rfl ?_
      refine v_iconst (v := (-1)) dX15_rumour_223 (by decide) ?_
      refine v_iload_n (x := l1) dX15_rumour_224 rfl 2 rfl ?_
      refine v_iload_n (x := l2) dX15_rumour_225 rfl 3 rfl ?_
      refine v_iload_n (x := l3) dX15_rumour_226 rfl 4 rfl ?_
      obtain ⟨x9, s10, hcs10, hf⟩ := bd_of hf
      have hts10 := c_X15_reported (l := l) (D := D) (cy := cy) (ka := ka) hcs10
      refine v_callV cb_16 hk_l0 (As := [.int (-1 : Int32), .int l1, .int l2, .int l3]) (rest := []) hts10 yb_X15_reported kw_2118 kw_2120 kp_130 rfl ⟨Nat.le_of_ble_eq_true rfl, Nat.le_of_ble_eq_true rfl⟩ rfl (cat_len (Nat.le_of_ble_eq_true rfl)) dX15_rumour_227 ?_
      have hk_l0 := tk_ hts10.1 hk_l0
      show v_ l D cy ka cX15_rumour RX15 14 (some FieldType.int) "rumour" 1 25 (qf_ D cy σ0 z (some (.int r))) σ0 z _ 230 [(11, .int t0), (0, va_rf (some l0)), (1, .int l1), (2, .int l2), (3, .int l3), (4, .int l4), (5, .int l5), (6, .int l6), (7, .int l7), (8, .int l8), (9, .int l9), (10, .int l10)] [.int x9]
      refine v_istore [(12, .int x9), (11, .int t0), (0, va_rf (some l0)), (1, .int l1), (2, .int l2), (3, .int l3), (4, .int l4), (5, .int l5), (6, .int l6), (7, .int l7), (8, .int l8), (9, .int l9), (10, .int l10)] dX15_rumour_230 (by decide) rfl ?_
      refine v_iconst (v := 0) dX15_rumour_232 (by decide) ?_
      refine v_istore [(13, .int (0 : Int32)), (12, .int x9), (11, .int t0), (0, va_rf (some l0)), (1, .int l1), (2, .int l2), (3, .int l3), (4, .int l4), (5, .int l5), (6, .int l6), (7, .int l7), (8, .int l8), (9, .int l9), (10, .int l10)] dX15_rumour_233 (by decide) rfl ?_
      refine v_sub [3, 7, 8, 9, 10, 11, 12, 13, 1, 0] (L2 := [(0, va_rf (some l0)), (4, .int l4), (5, .int l5), (6, .int l6), (7, .int l7), (8, .int l8), (9, .int l9), (10, .int l10), (12, .int x9), (13, .int (0 : Int32))]) rfl ?_
      exact t_X15_rumour_b235  _ _ _ _ _ _ _ _ _ _ _ _ hf
def f_X15_rumour_b193 (σ : TH) (l0 : Nat) (l1 : Int32) (l2 : Int32) (l3 : Int32) (l4 : Int32) (l5 : Int32) (l6 : Int32) (l7 : Int32) (l8 : Int32) (l9 : Int32) (l10 : Int32) : Option (Int32 × TH) :=
  f_X15_rumour_b194 σ l0 l1 l2 l3 l4 l5 l6 l7 l8 l9 l10 (0 : Int32)
set_option maxHeartbeats 4000000 in
set_option maxRecDepth 100000 in
theorem t_X15_rumour_b193 {l : Launch} {D : va_G} {cy : Nat → ClassId} {ka : Nat → Nat} {σ0 z : TH} {r : Int32}  {σ : TH} {l0 : Nat} {l1 : Int32} {l2 : Int32} {l3 : Int32} {l4 : Int32} {l5 : Int32} {l6 : Int32} {l7 : Int32} {l8 : Int32} {l9 : Int32} {l10 : Int32} (hf : f_X15_rumour_b193 σ l0 l1 l2 l3 l4 l5 l6 l7 l8 l9 l10 = some (r, z)) : v_ l D cy ka cX15_rumour RX15 14 (some FieldType.int) "rumour" 1 25 (qf_ D cy σ0 z (some (.int r))) σ0 z σ 193 [(0, va_rf (some l0)), (1, .int l1), (2, .int l2), (3, .int l3), (4, .int l4), (5, .int l5), (6, .int l6), (7, .int l7), (8, .int l8), (9, .int l9), (10, .int l10)] [] := by
  unfold f_X15_rumour_b193 at hf
  refine v_iconst (v := 0) dX15_rumour_193 (by decide) ?_
  refine v_sub [0, 1, 2, 3, 4, 5, 6, 7, 8, 9, 10] (L2 := [(0, va_rf (some l0)), (1, .int l1), (2, .int l2), (3, .int l3), (4, .int l4), (5, .int l5), (6, .int l6), (7, .int l7), (8, .int l8), (9, .int l9), (10, .int l10)]) rfl ?_
  exact t_X15_rumour_b194  hf
def f_X15_rumour_b189 (σ : TH) (l0 : Nat) (l1 : Int32) (l2 : Int32) (l3 : Int32) (l4 : Int32) (l5 : Int32) (l6 : Int32) (l7 : Int32) (l8 : Int32) (l9 : Int32) (l10 : Int32) : Option (Int32 × TH) :=
  f_X15_rumour_b194 σ l0 l1 l2 l3 l4 l5 l6 l7 l8 l9 l10 (1 : Int32)
set_option maxHeartbeats 4000000 in
set_option maxRecDepth 100000 in
theorem t_X15_rumour_b189 {l : Launch} {D : va_G} {cy : Nat → ClassId} {ka : Nat → Nat} {σ0 z : TH} {r : Int32}  {σ : TH} {l0 : Nat} {l1 : Int32} {l2 : Int32} {l3 : Int32} {l4 : Int32} {l5 : Int32} {l6 : Int32} {l7 : Int32} {l8 : Int32} {l9 : Int32} {l10 : Int32} (hf : f_X15_rumour_b189 σ l0 l1 l2 l3 l4 l5 l6 l7 l8 l9 l10 = some (r, z)) : v_ l D cy ka cX15_rumour RX15 14 (some FieldType.int) "rumour" 1 25 (qf_ D cy σ0 z (some (.int r))) σ0 z σ 189 [(0, va_rf (some l0)), (1, .int l1), (2, .int l2), (3, .int l3), (4, .int l4), (5, .int l5), (6, .int l6), (7, .int l7), (8, .int l8), (9, .int l9), (10, .int l10)] [] := by
  unfold f_X15_rumour_b189 at hf
  refine v_iconst (v := 1) dX15_rumour_189 (by decide) ?_
  refine v_goto (tgt := 194) dX15_rumour_190 (by decide) ?_
  refine v_sub [0, 1, 2, 3, 4, 5, 6, 7, 8, 9, 10] (L2 := [(0, va_rf (some l0)), (1, .int l1), (2, .int l2), (3, .int l3), (4, .int l4), (5, .int l5), (6, .int l6), (7, .int l7), (8, .int l8), (9, .int l9), (10, .int l10)]) rfl ?_
  exact t_X15_rumour_b194  hf
def f_X15_rumour_b154 (σ : TH) (l0 : Nat) (l1 : Int32) (l2 : Int32) (l3 : Int32) (l4 : Int32) (l5 : Int32) (l6 : Int32) (l7 : Int32) (l8 : Int32) (l9 : Int32) (l10 : Int32) (t0 : Int32) : Option (Int32 × TH) :=
  if t0 = 0 then (f_X15_rumour_b193 σ l0 l1 l2 l3 l4 l5 l6 l7 l8 l9 l10) else (if l10 < (3 : Int32) then (f_X15_rumour_b189 σ l0 l1 l2 l3 l4 l5 l6 l7 l8 l9 l10) else (bd_ (f_X15_isKind σ l8) fun x20 s21 => if x20 = 0 then (f_X15_rumour_b193 s21 l0 l1 l2 l3 l4 l5 l6 l7 l8 l9 l10) else (bd_ (f_X15_in s21 l9 (-9999 : Int32) (9999 : Int32)) fun x22 s23 => if x22 = 0 then (f_X15_rumour_b193 s23 l0 l1 l2 l3 l4 l5 l6 l7 l8 l9 l10) else (f_X15_rumour_b189 s23 l0 l1 l2 l3 l4 l5 l6 l7 l8 l9 l10))))
set_option maxHeartbeats 4000000 in
set_option maxRecDepth 100000 in
theorem t_X15_rumour_b154 {l : Launch} {D : va_G} {cy : Nat → ClassId} {ka : Nat → Nat} {σ0 z : TH} {r : Int32}  {σ : TH} {l0 : Nat} {l1 : Int32} {l2 : Int32} {l3 : Int32} {l4 : Int32} {l5 : Int32} {l6 : Int32} {l7 : Int32} {l8 : Int32} {l9 : Int32} {l10 : Int32} {t0 : Int32} (hf : f_X15_rumour_b154 σ l0 l1 l2 l3 l4 l5 l6 l7 l8 l9 l10 t0 = some (r, z)) : v_ l D cy ka cX15_rumour RX15 14 (some FieldType.int) "rumour" 1 25 (qf_ D cy σ0 z (some (.int r))) σ0 z σ 154 [(0, va_rf (some l0)), (1, .int l1), (2, .int l2), (3, .int l3), (4, .int l4), (5, .int l5), (6, .int l6), (7, .int l7), (8, .int l8), (9, .int l9), (10, .int l10)] [.int t0] := by
  unfold f_X15_rumour_b154 at hf
  refine v_istore [(11, .int t0), (0, va_rf (some l0)), (1, .int l1), (2, .int l2), (3, .int l3), (4, .int l4), (5, .int l5), (6, .int l6), (7, .int l7), (8, .int l8), (9, .int l9), (10, .int l10)] dX15_rumour_154 (by decide) rfl ?_
  refine v_iload (x := t0) dX15_rumour_156 0 rfl ?_
  refine v_if_eq (tgt := 193) hf dX15_rumour_158 (by decide) (fun hq hf => ?_) (fun hq hf => ?_)
  · refine v_sub [1, 2, 3, 4, 5, 6, 7, 8, 9, 10, 11] (L2 := [(0, va_rf (some l0)), (1, .int l1), (2, .int l2), (3, .int l3), (4, .int l4), (5, .int l5), (6, .int l6), (7, .int l7), (8, .int l8), (9, .int l9), (10, .int l10)]) rfl ?_
    exact t_X15_rumour_b193  hf
  · refine v_iload (x := l10) dX15_rumour_161 11 rfl ?_
    refine v_iconst (v := 3) dX15_rumour_163 (by decide) ?_
    refine v_icmp_lt (tgt := 189) hf dX15_rumour_164 (by decide) (fun hq hf => ?_) (fun hq hf => ?_)
    · refine v_sub [1, 2, 3, 4, 5, 6, 7, 8, 9, 10, 11] (L2 := [(0, va_rf (some l0)), (1, .int l1), (2, .int l2), (3, .int l3), (4, .int l4), (5, .int l5), (6, .int l6), (7, .int l7), (8, .int l8), (9, .int l9), (10, .int l10)]) rfl ?_
      exact t_X15_rumour_b189  hf
    · refine v_iload (x := l8) dX15_rumour_167 9 rfl ?_
      obtain ⟨x20, s21, hcs21, hf⟩ := bd_of hf
      have hts21 := c_X15_isKind (l := l) (D := D) (cy := cy) (ka := ka) hcs21
      refine v_callS (As := [.int l8]) (rest := []) hts21 yb_X15_isKind kw_1813 kw_1814 rfl ⟨Nat.le_of_ble_eq_true rfl, Nat.le_of_ble_eq_true rfl⟩ rfl (cat_len (Nat.le_of_ble_eq_true rfl)) dX15_rumour_169 ?_
      show v_ l D cy ka cX15_rumour RX15 14 (some FieldType.int) "rumour" 1 25 (qf_ D cy σ0 z (some (.int r))) σ0 z _ 172 [(11, .int t0), (0, va_rf (some l0)), (1, .int l1), (2, .int l2), (3, .int l3), (4, .int l4), (5, .int l5), (6, .int l6), (7, .int l7), (8, .int l8), (9, .int l9), (10, .int l10)] [.int x20]
      refine v_if_eq (tgt := 193) hf dX15_rumour_172 (by decide) (fun hq hf => ?_) (fun hq hf => ?_)
      · refine v_sub [1, 2, 3, 4, 5, 6, 7, 8, 9, 10, 11] (L2 := [(0, va_rf (some l0)), (1, .int l1), (2, .int l2), (3, .int l3), (4, .int l4), (5, .int l5), (6, .int l6), (7, .int l7), (8, .int l8), (9, .int l9), (10, .int l10)]) rfl ?_
        exact t_X15_rumour_b193  hf
      · refine v_iload (x := l9) dX15_rumour_175 10 rfl ?_
        refine v_sipush (v := (-9999)) dX15_rumour_177 (by decide) ?_
        refine v_sipush (v := 9999) dX15_rumour_180 (by decide) ?_
        obtain ⟨x22, s23, hcs23, hf⟩ := bd_of hf
        have hts23 := c_X15_in (l := l) (D := D) (cy := cy) (ka := ka) hcs23
        refine v_callS (As := [.int l9, .int (-9999 : Int32), .int (9999 : Int32)]) (rest := []) hts23 yb_X15_in kw_1726 kw_1727 rfl ⟨Nat.le_of_ble_eq_true rfl, Nat.le_of_ble_eq_true rfl⟩ rfl (cat_len (Nat.le_of_ble_eq_true rfl)) dX15_rumour_183 ?_
        show v_ l D cy ka cX15_rumour RX15 14 (some FieldType.int) "rumour" 1 25 (qf_ D cy σ0 z (some (.int r))) σ0 z _ 186 [(11, .int t0), (0, va_rf (some l0)), (1, .int l1), (2, .int l2), (3, .int l3), (4, .int l4), (5, .int l5), (6, .int l6), (7, .int l7), (8, .int l8), (9, .int l9), (10, .int l10)] [.int x22]
        refine v_if_eq (tgt := 193) hf dX15_rumour_186 (by decide) (fun hq hf => ?_) (fun hq hf => ?_)
        · refine v_sub [1, 2, 3, 4, 5, 6, 7, 8, 9, 10, 11] (L2 := [(0, va_rf (some l0)), (1, .int l1), (2, .int l2), (3, .int l3), (4, .int l4), (5, .int l5), (6, .int l6), (7, .int l7), (8, .int l8), (9, .int l9), (10, .int l10)]) rfl ?_
          exact t_X15_rumour_b193  hf
        · refine v_sub [1, 2, 3, 4, 5, 6, 7, 8, 9, 10, 11] (L2 := [(0, va_rf (some l0)), (1, .int l1), (2, .int l2), (3, .int l3), (4, .int l4), (5, .int l5), (6, .int l6), (7, .int l7), (8, .int l8), (9, .int l9), (10, .int l10)]) rfl ?_
          exact t_X15_rumour_b189  hf
def f_X15_rumour_b153 (σ : TH) (l0 : Nat) (l1 : Int32) (l2 : Int32) (l3 : Int32) (l4 : Int32) (l5 : Int32) (l6 : Int32) (l7 : Int32) (l8 : Int32) (l9 : Int32) (l10 : Int32) : Option (Int32 × TH) :=
  f_X15_rumour_b154 σ l0 l1 l2 l3 l4 l5 l6 l7 l8 l9 l10 (0 : Int32)
set_option maxHeartbeats 4000000 in
set_option maxRecDepth 100000 in
theorem t_X15_rumour_b153 {l : Launch} {D : va_G} {cy : Nat → ClassId} {ka : Nat → Nat} {σ0 z : TH} {r : Int32}  {σ : TH} {l0 : Nat} {l1 : Int32} {l2 : Int32} {l3 : Int32} {l4 : Int32} {l5 : Int32} {l6 : Int32} {l7 : Int32} {l8 : Int32} {l9 : Int32} {l10 : Int32} (hf : f_X15_rumour_b153 σ l0 l1 l2 l3 l4 l5 l6 l7 l8 l9 l10 = some (r, z)) : v_ l D cy ka cX15_rumour RX15 14 (some FieldType.int) "rumour" 1 25 (qf_ D cy σ0 z (some (.int r))) σ0 z σ 153 [(0, va_rf (some l0)), (1, .int l1), (2, .int l2), (3, .int l3), (4, .int l4), (5, .int l5), (6, .int l6), (7, .int l7), (8, .int l8), (9, .int l9), (10, .int l10)] [] := by
  unfold f_X15_rumour_b153 at hf
  refine v_iconst (v := 0) dX15_rumour_153 (by decide) ?_
  refine v_sub [0, 1, 2, 3, 4, 5, 6, 7, 8, 9, 10] (L2 := [(0, va_rf (some l0)), (1, .int l1), (2, .int l2), (3, .int l3), (4, .int l4), (5, .int l5), (6, .int l6), (7, .int l7), (8, .int l8), (9, .int l9), (10, .int l10)]) rfl ?_
  exact t_X15_rumour_b154  hf
def f_X15_rumour_b149 (σ : TH) (l0 : Nat) (l1 : Int32) (l2 : Int32) (l3 : Int32) (l4 : Int32) (l5 : Int32) (l6 : Int32) (l7 : Int32) (l8 : Int32) (l9 : Int32) (l10 : Int32) : Option (Int32 × TH) :=
  f_X15_rumour_b154 σ l0 l1 l2 l3 l4 l5 l6 l7 l8 l9 l10 (1 : Int32)
set_option maxHeartbeats 4000000 in
set_option maxRecDepth 100000 in
theorem t_X15_rumour_b149 {l : Launch} {D : va_G} {cy : Nat → ClassId} {ka : Nat → Nat} {σ0 z : TH} {r : Int32}  {σ : TH} {l0 : Nat} {l1 : Int32} {l2 : Int32} {l3 : Int32} {l4 : Int32} {l5 : Int32} {l6 : Int32} {l7 : Int32} {l8 : Int32} {l9 : Int32} {l10 : Int32} (hf : f_X15_rumour_b149 σ l0 l1 l2 l3 l4 l5 l6 l7 l8 l9 l10 = some (r, z)) : v_ l D cy ka cX15_rumour RX15 14 (some FieldType.int) "rumour" 1 25 (qf_ D cy σ0 z (some (.int r))) σ0 z σ 149 [(0, va_rf (some l0)), (1, .int l1), (2, .int l2), (3, .int l3), (4, .int l4), (5, .int l5), (6, .int l6), (7, .int l7), (8, .int l8), (9, .int l9), (10, .int l10)] [] := by
  unfold f_X15_rumour_b149 at hf
  refine v_iconst (v := 1) dX15_rumour_149 (by decide) ?_
  refine v_goto (tgt := 154) dX15_rumour_150 (by decide) ?_
  refine v_sub [0, 1, 2, 3, 4, 5, 6, 7, 8, 9, 10] (L2 := [(0, va_rf (some l0)), (1, .int l1), (2, .int l2), (3, .int l3), (4, .int l4), (5, .int l5), (6, .int l6), (7, .int l7), (8, .int l8), (9, .int l9), (10, .int l10)]) rfl ?_
  exact t_X15_rumour_b154  hf
def f_X15_rumour_b114 (σ : TH) (l0 : Nat) (l1 : Int32) (l2 : Int32) (l3 : Int32) (l4 : Int32) (l5 : Int32) (l6 : Int32) (l7 : Int32) (l8 : Int32) (l9 : Int32) (l10 : Int32) (t0 : Int32) : Option (Int32 × TH) :=
  if t0 = 0 then (f_X15_rumour_b153 σ l0 l1 l2 l3 l4 l5 l6 l7 l8 l9 l10) else (if l10 < (2 : Int32) then (f_X15_rumour_b149 σ l0 l1 l2 l3 l4 l5 l6 l7 l8 l9 l10) else (bd_ (f_X15_isKind σ l6) fun x24 s25 => if x24 = 0 then (f_X15_rumour_b153 s25 l0 l1 l2 l3 l4 l5 l6 l7 l8 l9 l10) else (bd_ (f_X15_in s25 l7 (-9999 : Int32) (9999 : Int32)) fun x26 s27 => if x26 = 0 then (f_X15_rumour_b153 s27 l0 l1 l2 l3 l4 l5 l6 l7 l8 l9 l10) else (f_X15_rumour_b149 s27 l0 l1 l2 l3 l4 l5 l6 l7 l8 l9 l10))))
set_option maxHeartbeats 4000000 in
set_option maxRecDepth 100000 in
theorem t_X15_rumour_b114 {l : Launch} {D : va_G} {cy : Nat → ClassId} {ka : Nat → Nat} {σ0 z : TH} {r : Int32}  {σ : TH} {l0 : Nat} {l1 : Int32} {l2 : Int32} {l3 : Int32} {l4 : Int32} {l5 : Int32} {l6 : Int32} {l7 : Int32} {l8 : Int32} {l9 : Int32} {l10 : Int32} {t0 : Int32} (hf : f_X15_rumour_b114 σ l0 l1 l2 l3 l4 l5 l6 l7 l8 l9 l10 t0 = some (r, z)) : v_ l D cy ka cX15_rumour RX15 14 (some FieldType.int) "rumour" 1 25 (qf_ D cy σ0 z (some (.int r))) σ0 z σ 114 [(0, va_rf (some l0)), (1, .int l1), (2, .int l2), (3, .int l3), (4, .int l4), (5, .int l5), (6, .int l6), (7, .int l7), (8, .int l8), (9, .int l9), (10, .int l10)] [.int t0] := by
  unfold f_X15_rumour_b114 at hf
  refine v_istore [(11, .int t0), (0, va_rf (some l0)), (1, .int l1), (2, .int l2), (3, .int l3), (4, .int l4), (5, .int l5), (6, .int l6), (7, .int l7), (8, .int l8), (9, .int l9), (10, .int l10)] dX15_rumour_114 (by decide) rfl ?_
  refine v_iload (x := t0) dX15_rumour_116 0 rfl ?_
  refine v_if_eq (tgt := 153) hf dX15_rumour_118 (by decide) (fun hq hf => ?_) (fun hq hf => ?_)
  · refine v_sub [1, 2, 3, 4, 5, 6, 7, 8, 9, 10, 11] (L2 := [(0, va_rf (some l0)), (1, .int l1), (2, .int l2), (3, .int l3), (4, .int l4), (5, .int l5), (6, .int l6), (7, .int l7), (8, .int l8), (9, .int l9), (10, .int l10)]) rfl ?_
    exact t_X15_rumour_b153  hf
  · refine v_iload (x := l10) dX15_rumour_121 11 rfl ?_
    refine v_iconst (v := 2) dX15_rumour_123 (by decide) ?_
    refine v_icmp_lt (tgt := 149) hf dX15_rumour_124 (by decide) (fun hq hf => ?_) (fun hq hf => ?_)
    · refine v_sub [1, 2, 3, 4, 5, 6, 7, 8, 9, 10, 11] (L2 := [(0, va_rf (some l0)), (1, .int l1), (2, .int l2), (3, .int l3), (4, .int l4), (5, .int l5), (6, .int l6), (7, .int l7), (8, .int l8), (9, .int l9), (10, .int l10)]) rfl ?_
      exact t_X15_rumour_b149  hf
    · refine v_iload (x := l6) dX15_rumour_127 7 rfl ?_
      obtain ⟨x24, s25, hcs25, hf⟩ := bd_of hf
      have hts25 := c_X15_isKind (l := l) (D := D) (cy := cy) (ka := ka) hcs25
      refine v_callS (As := [.int l6]) (rest := []) hts25 yb_X15_isKind kw_1813 kw_1814 rfl ⟨Nat.le_of_ble_eq_true rfl, Nat.le_of_ble_eq_true rfl⟩ rfl (cat_len (Nat.le_of_ble_eq_true rfl)) dX15_rumour_129 ?_
      show v_ l D cy ka cX15_rumour RX15 14 (some FieldType.int) "rumour" 1 25 (qf_ D cy σ0 z (some (.int r))) σ0 z _ 132 [(11, .int t0), (0, va_rf (some l0)), (1, .int l1), (2, .int l2), (3, .int l3), (4, .int l4), (5, .int l5), (6, .int l6), (7, .int l7), (8, .int l8), (9, .int l9), (10, .int l10)] [.int x24]
      refine v_if_eq (tgt := 153) hf dX15_rumour_132 (by decide) (fun hq hf => ?_) (fun hq hf => ?_)
      · refine v_sub [1, 2, 3, 4, 5, 6, 7, 8, 9, 10, 11] (L2 := [(0, va_rf (some l0)), (1, .int l1), (2, .int l2), (3, .int l3), (4, .int l4), (5, .int l5), (6, .int l6), (7, .int l7), (8, .int l8), (9, .int l9), (10, .int l10)]) rfl ?_
        exact t_X15_rumour_b153  hf
      · refine v_iload (x := l7) dX15_rumour_135 8 rfl ?_
        refine v_sipush (v := (-9999)) dX15_rumour_137 (by decide) ?_
        refine v_sipush (v := 9999) dX15_rumour_140 (by decide) ?_
        obtain ⟨x26, s27, hcs27, hf⟩ := bd_of hf
        have hts27 := c_X15_in (l := l) (D := D) (cy := cy) (ka := ka) hcs27
        refine v_callS (As := [.int l7, .int (-9999 : Int32), .int (9999 : Int32)]) (rest := []) hts27 yb_X15_in kw_1726 kw_1727 rfl ⟨Nat.le_of_ble_eq_true rfl, Nat.le_of_ble_eq_true rfl⟩ rfl (cat_len (Nat.le_of_ble_eq_true rfl)) dX15_rumour_143 ?_
        show v_ l D cy ka cX15_rumour RX15 14 (some FieldType.int) "rumour" 1 25 (qf_ D cy σ0 z (some (.int r))) σ0 z _ 146 [(11, .int t0), (0, va_rf (some l0)), (1, .int l1), (2, .int l2), (3, .int l3), (4, .int l4), (5, .int l5), (6, .int l6), (7, .int l7), (8, .int l8), (9, .int l9), (10, .int l10)] [.int x26]
        refine v_if_eq (tgt := 153) hf dX15_rumour_146 (by decide) (fun hq hf => ?_) (fun hq hf => ?_)
        · refine v_sub [1, 2, 3, 4, 5, 6, 7, 8, 9, 10, 11] (L2 := [(0, va_rf (some l0)), (1, .int l1), (2, .int l2), (3, .int l3), (4, .int l4), (5, .int l5), (6, .int l6), (7, .int l7), (8, .int l8), (9, .int l9), (10, .int l10)]) rfl ?_
          exact t_X15_rumour_b153  hf
        · refine v_sub [1, 2, 3, 4, 5, 6, 7, 8, 9, 10, 11] (L2 := [(0, va_rf (some l0)), (1, .int l1), (2, .int l2), (3, .int l3), (4, .int l4), (5, .int l5), (6, .int l6), (7, .int l7), (8, .int l8), (9, .int l9), (10, .int l10)]) rfl ?_
          exact t_X15_rumour_b149  hf
def f_X15_rumour_b113 (σ : TH) (l0 : Nat) (l1 : Int32) (l2 : Int32) (l3 : Int32) (l4 : Int32) (l5 : Int32) (l6 : Int32) (l7 : Int32) (l8 : Int32) (l9 : Int32) (l10 : Int32) : Option (Int32 × TH) :=
  f_X15_rumour_b114 σ l0 l1 l2 l3 l4 l5 l6 l7 l8 l9 l10 (0 : Int32)
set_option maxHeartbeats 4000000 in
set_option maxRecDepth 100000 in
theorem t_X15_rumour_b113 {l : Launch} {D : va_G} {cy : Nat → ClassId} {ka : Nat → Nat} {σ0 z : TH} {r : Int32}  {σ : TH} {l0 : Nat} {l1 : Int32} {l2 : Int32} {l3 : Int32} {l4 : Int32} {l5 : Int32} {l6 : Int32} {l7 : Int32} {l8 : Int32} {l9 : Int32} {l10 : Int32} (hf : f_X15_rumour_b113 σ l0 l1 l2 l3 l4 l5 l6 l7 l8 l9 l10 = some (r, z)) : v_ l D cy ka cX15_rumour RX15 14 (some FieldType.int) "rumour" 1 25 (qf_ D cy σ0 z (some (.int r))) σ0 z σ 113 [(0, va_rf (some l0)), (1, .int l1), (2, .int l2), (3, .int l3), (4, .int l4), (5, .int l5), (6, .int l6), (7, .int l7), (8, .int l8), (9, .int l9), (10, .int l10)] [] := by
  unfold f_X15_rumour_b113 at hf
  refine v_iconst (v := 0) dX15_rumour_113 (by decide) ?_
  refine v_sub [0, 1, 2, 3, 4, 5, 6, 7, 8, 9, 10] (L2 := [(0, va_rf (some l0)), (1, .int l1), (2, .int l2), (3, .int l3), (4, .int l4), (5, .int l5), (6, .int l6), (7, .int l7), (8, .int l8), (9, .int l9), (10, .int l10)]) rfl ?_
  exact t_X15_rumour_b114  hf
def f_X15_rumour_b109 (σ : TH) (l0 : Nat) (l1 : Int32) (l2 : Int32) (l3 : Int32) (l4 : Int32) (l5 : Int32) (l6 : Int32) (l7 : Int32) (l8 : Int32) (l9 : Int32) (l10 : Int32) : Option (Int32 × TH) :=
  f_X15_rumour_b114 σ l0 l1 l2 l3 l4 l5 l6 l7 l8 l9 l10 (1 : Int32)
set_option maxHeartbeats 4000000 in
set_option maxRecDepth 100000 in
theorem t_X15_rumour_b109 {l : Launch} {D : va_G} {cy : Nat → ClassId} {ka : Nat → Nat} {σ0 z : TH} {r : Int32}  {σ : TH} {l0 : Nat} {l1 : Int32} {l2 : Int32} {l3 : Int32} {l4 : Int32} {l5 : Int32} {l6 : Int32} {l7 : Int32} {l8 : Int32} {l9 : Int32} {l10 : Int32} (hf : f_X15_rumour_b109 σ l0 l1 l2 l3 l4 l5 l6 l7 l8 l9 l10 = some (r, z)) : v_ l D cy ka cX15_rumour RX15 14 (some FieldType.int) "rumour" 1 25 (qf_ D cy σ0 z (some (.int r))) σ0 z σ 109 [(0, va_rf (some l0)), (1, .int l1), (2, .int l2), (3, .int l3), (4, .int l4), (5, .int l5), (6, .int l6), (7, .int l7), (8, .int l8), (9, .int l9), (10, .int l10)] [] := by
  unfold f_X15_rumour_b109 at hf
  refine v_iconst (v := 1) dX15_rumour_109 (by decide) ?_
  refine v_goto (tgt := 114) dX15_rumour_110 (by decide) ?_
  refine v_sub [0, 1, 2, 3, 4, 5, 6, 7, 8, 9, 10] (L2 := [(0, va_rf (some l0)), (1, .int l1), (2, .int l2), (3, .int l3), (4, .int l4), (5, .int l5), (6, .int l6), (7, .int l7), (8, .int l8), (9, .int l9), (10, .int l10)]) rfl ?_
  exact t_X15_rumour_b114  hf
def f_X15_rumour_b74 (σ : TH) (l0 : Nat) (l1 : Int32) (l2 : Int32) (l3 : Int32) (l4 : Int32) (l5 : Int32) (l6 : Int32) (l7 : Int32) (l8 : Int32) (l9 : Int32) (l10 : Int32) (t0 : Int32) : Option (Int32 × TH) :=
  if t0 = 0 then (f_X15_rumour_b113 σ l0 l1 l2 l3 l4 l5 l6 l7 l8 l9 l10) else (if l10 < (1 : Int32) then (f_X15_rumour_b109 σ l0 l1 l2 l3 l4 l5 l6 l7 l8 l9 l10) else (bd_ (f_X15_isKind σ l4) fun x28 s29 => if x28 = 0 then (f_X15_rumour_b113 s29 l0 l1 l2 l3 l4 l5 l6 l7 l8 l9 l10) else (bd_ (f_X15_in s29 l5 (-9999 : Int32) (9999 : Int32)) fun x30 s31 => if x30 = 0 then (f_X15_rumour_b113 s31 l0 l1 l2 l3 l4 l5 l6 l7 l8 l9 l10) else (f_X15_rumour_b109 s31 l0 l1 l2 l3 l4 l5 l6 l7 l8 l9 l10))))
set_option maxHeartbeats 4000000 in
set_option maxRecDepth 100000 in
theorem t_X15_rumour_b74 {l : Launch} {D : va_G} {cy : Nat → ClassId} {ka : Nat → Nat} {σ0 z : TH} {r : Int32}  {σ : TH} {l0 : Nat} {l1 : Int32} {l2 : Int32} {l3 : Int32} {l4 : Int32} {l5 : Int32} {l6 : Int32} {l7 : Int32} {l8 : Int32} {l9 : Int32} {l10 : Int32} {t0 : Int32} (hf : f_X15_rumour_b74 σ l0 l1 l2 l3 l4 l5 l6 l7 l8 l9 l10 t0 = some (r, z)) : v_ l D cy ka cX15_rumour RX15 14 (some FieldType.int) "rumour" 1 25 (qf_ D cy σ0 z (some (.int r))) σ0 z σ 74 [(0, va_rf (some l0)), (1, .int l1), (2, .int l2), (3, .int l3), (4, .int l4), (5, .int l5), (6, .int l6), (7, .int l7), (8, .int l8), (9, .int l9), (10, .int l10)] [.int t0] := by
  unfold f_X15_rumour_b74 at hf
  refine v_istore [(11, .int t0), (0, va_rf (some l0)), (1, .int l1), (2, .int l2), (3, .int l3), (4, .int l4), (5, .int l5), (6, .int l6), (7, .int l7), (8, .int l8), (9, .int l9), (10, .int l10)] dX15_rumour_74 (by decide) rfl ?_
  refine v_iload (x := t0) dX15_rumour_76 0 rfl ?_
  refine v_if_eq (tgt := 113) hf dX15_rumour_78 (by decide) (fun hq hf => ?_) (fun hq hf => ?_)
  · refine v_sub [1, 2, 3, 4, 5, 6, 7, 8, 9, 10, 11] (L2 := [(0, va_rf (some l0)), (1, .int l1), (2, .int l2), (3, .int l3), (4, .int l4), (5, .int l5), (6, .int l6), (7, .int l7), (8, .int l8), (9, .int l9), (10, .int l10)]) rfl ?_
    exact t_X15_rumour_b113  hf
  · refine v_iload (x := l10) dX15_rumour_81 11 rfl ?_
    refine v_iconst (v := 1) dX15_rumour_83 (by decide) ?_
    refine v_icmp_lt (tgt := 109) hf dX15_rumour_84 (by decide) (fun hq hf => ?_) (fun hq hf => ?_)
    · refine v_sub [1, 2, 3, 4, 5, 6, 7, 8, 9, 10, 11] (L2 := [(0, va_rf (some l0)), (1, .int l1), (2, .int l2), (3, .int l3), (4, .int l4), (5, .int l5), (6, .int l6), (7, .int l7), (8, .int l8), (9, .int l9), (10, .int l10)]) rfl ?_
      exact t_X15_rumour_b109  hf
    · refine v_iload (x := l4) dX15_rumour_87 5 rfl ?_
      obtain ⟨x28, s29, hcs29, hf⟩ := bd_of hf
      have hts29 := c_X15_isKind (l := l) (D := D) (cy := cy) (ka := ka) hcs29
      refine v_callS (As := [.int l4]) (rest := []) hts29 yb_X15_isKind kw_1813 kw_1814 rfl ⟨Nat.le_of_ble_eq_true rfl, Nat.le_of_ble_eq_true rfl⟩ rfl (cat_len (Nat.le_of_ble_eq_true rfl)) dX15_rumour_89 ?_
      show v_ l D cy ka cX15_rumour RX15 14 (some FieldType.int) "rumour" 1 25 (qf_ D cy σ0 z (some (.int r))) σ0 z _ 92 [(11, .int t0), (0, va_rf (some l0)), (1, .int l1), (2, .int l2), (3, .int l3), (4, .int l4), (5, .int l5), (6, .int l6), (7, .int l7), (8, .int l8), (9, .int l9), (10, .int l10)] [.int x28]
      refine v_if_eq (tgt := 113) hf dX15_rumour_92 (by decide) (fun hq hf => ?_) (fun hq hf => ?_)
      · refine v_sub [1, 2, 3, 4, 5, 6, 7, 8, 9, 10, 11] (L2 := [(0, va_rf (some l0)), (1, .int l1), (2, .int l2), (3, .int l3), (4, .int l4), (5, .int l5), (6, .int l6), (7, .int l7), (8, .int l8), (9, .int l9), (10, .int l10)]) rfl ?_
        exact t_X15_rumour_b113  hf
      · refine v_iload (x := l5) dX15_rumour_95 6 rfl ?_
        refine v_sipush (v := (-9999)) dX15_rumour_97 (by decide) ?_
        refine v_sipush (v := 9999) dX15_rumour_100 (by decide) ?_
        obtain ⟨x30, s31, hcs31, hf⟩ := bd_of hf
        have hts31 := c_X15_in (l := l) (D := D) (cy := cy) (ka := ka) hcs31
        refine v_callS (As := [.int l5, .int (-9999 : Int32), .int (9999 : Int32)]) (rest := []) hts31 yb_X15_in kw_1726 kw_1727 rfl ⟨Nat.le_of_ble_eq_true rfl, Nat.le_of_ble_eq_true rfl⟩ rfl (cat_len (Nat.le_of_ble_eq_true rfl)) dX15_rumour_103 ?_
        show v_ l D cy ka cX15_rumour RX15 14 (some FieldType.int) "rumour" 1 25 (qf_ D cy σ0 z (some (.int r))) σ0 z _ 106 [(11, .int t0), (0, va_rf (some l0)), (1, .int l1), (2, .int l2), (3, .int l3), (4, .int l4), (5, .int l5), (6, .int l6), (7, .int l7), (8, .int l8), (9, .int l9), (10, .int l10)] [.int x30]
        refine v_if_eq (tgt := 113) hf dX15_rumour_106 (by decide) (fun hq hf => ?_) (fun hq hf => ?_)
        · refine v_sub [1, 2, 3, 4, 5, 6, 7, 8, 9, 10, 11] (L2 := [(0, va_rf (some l0)), (1, .int l1), (2, .int l2), (3, .int l3), (4, .int l4), (5, .int l5), (6, .int l6), (7, .int l7), (8, .int l8), (9, .int l9), (10, .int l10)]) rfl ?_
          exact t_X15_rumour_b113  hf
        · refine v_sub [1, 2, 3, 4, 5, 6, 7, 8, 9, 10, 11] (L2 := [(0, va_rf (some l0)), (1, .int l1), (2, .int l2), (3, .int l3), (4, .int l4), (5, .int l5), (6, .int l6), (7, .int l7), (8, .int l8), (9, .int l9), (10, .int l10)]) rfl ?_
          exact t_X15_rumour_b109  hf
def f_X15_rumour_b73 (σ : TH) (l0 : Nat) (l1 : Int32) (l2 : Int32) (l3 : Int32) (l4 : Int32) (l5 : Int32) (l6 : Int32) (l7 : Int32) (l8 : Int32) (l9 : Int32) (l10 : Int32) : Option (Int32 × TH) :=
  f_X15_rumour_b74 σ l0 l1 l2 l3 l4 l5 l6 l7 l8 l9 l10 (0 : Int32)
set_option maxHeartbeats 4000000 in
set_option maxRecDepth 100000 in
theorem t_X15_rumour_b73 {l : Launch} {D : va_G} {cy : Nat → ClassId} {ka : Nat → Nat} {σ0 z : TH} {r : Int32}  {σ : TH} {l0 : Nat} {l1 : Int32} {l2 : Int32} {l3 : Int32} {l4 : Int32} {l5 : Int32} {l6 : Int32} {l7 : Int32} {l8 : Int32} {l9 : Int32} {l10 : Int32} (hf : f_X15_rumour_b73 σ l0 l1 l2 l3 l4 l5 l6 l7 l8 l9 l10 = some (r, z)) : v_ l D cy ka cX15_rumour RX15 14 (some FieldType.int) "rumour" 1 25 (qf_ D cy σ0 z (some (.int r))) σ0 z σ 73 [(0, va_rf (some l0)), (1, .int l1), (2, .int l2), (3, .int l3), (4, .int l4), (5, .int l5), (6, .int l6), (7, .int l7), (8, .int l8), (9, .int l9), (10, .int l10)] [] := by
  unfold f_X15_rumour_b73 at hf
  refine v_iconst (v := 0) dX15_rumour_73 (by decide) ?_
  refine v_sub [0, 1, 2, 3, 4, 5, 6, 7, 8, 9, 10] (L2 := [(0, va_rf (some l0)), (1, .int l1), (2, .int l2), (3, .int l3), (4, .int l4), (5, .int l5), (6, .int l6), (7, .int l7), (8, .int l8), (9, .int l9), (10, .int l10)]) rfl ?_
  exact t_X15_rumour_b74  hf
def f_X15_rumour_b36 (σ : TH) (l0 : Nat) (l1 : Int32) (l2 : Int32) (l3 : Int32) (l4 : Int32) (l5 : Int32) (l6 : Int32) (l7 : Int32) (l8 : Int32) (l9 : Int32) (t0 : Int32) : Option (Int32 × TH) :=
  bd_ (f_X15_in σ l1 (0 : Int32) (99 : Int32)) fun x2 s3 => if x2 = 0 then (f_X15_rumour_b73 s3 l0 l1 l2 l3 l4 l5 l6 l7 l8 l9 t0) else (gt_ (kd_ s3 l0 = 17) <| bd_ (f_X15_today s3 l0) fun x32 s33 => bd_ (f_X15_in s33 l2 (0 : Int32) x32) fun x34 s35 => if x34 = 0 then (f_X15_rumour_b73 s35 l0 l1 l2 l3 l4 l5 l6 l7 l8 l9 t0) else (bd_ (f_X15_in s35 l3 (0 : Int32) (4 : Int32)) fun x36 s37 => if x36 = 0 then (f_X15_rumour_b73 s37 l0 l1 l2 l3 l4 l5 l6 l7 l8 l9 t0) else (f_X15_rumour_b74 s37 l0 l1 l2 l3 l4 l5 l6 l7 l8 l9 t0 (1 : Int32))))
set_option maxHeartbeats 4000000 in
set_option maxRecDepth 100000 in
theorem t_X15_rumour_b36 {l : Launch} {D : va_G} {cy : Nat → ClassId} {ka : Nat → Nat} {σ0 z : TH} {r : Int32}  {σ : TH} {l0 : Nat} {l1 : Int32} {l2 : Int32} {l3 : Int32} {l4 : Int32} {l5 : Int32} {l6 : Int32} {l7 : Int32} {l8 : Int32} {l9 : Int32} {t0 : Int32} (hf : f_X15_rumour_b36 σ l0 l1 l2 l3 l4 l5 l6 l7 l8 l9 t0 = some (r, z)) : v_ l D cy ka cX15_rumour RX15 14 (some FieldType.int) "rumour" 1 25 (qf_ D cy σ0 z (some (.int r))) σ0 z σ 36 [(0, va_rf (some l0)), (1, .int l1), (2, .int l2), (3, .int l3), (4, .int l4), (5, .int l5), (6, .int l6), (7, .int l7), (8, .int l8), (9, .int l9)] [.int t0] := by
  unfold f_X15_rumour_b36 at hf
  refine v_istore [(10, .int t0), (0, va_rf (some l0)), (1, .int l1), (2, .int l2), (3, .int l3), (4, .int l4), (5, .int l5), (6, .int l6), (7, .int l7), (8, .int l8), (9, .int l9)] dX15_rumour_36 (by decide) rfl ?_
  refine v_iload_n (x := l1) dX15_rumour_38 rfl 2 rfl ?_
  refine v_iconst (v := 0) dX15_rumour_39 (by decide) ?_
  refine v_bipush (v := 99) dX15_rumour_40 (by decide) ?_
  obtain ⟨x2, s3, hcs3, hf⟩ := bd_of hf
  have hts3 := c_X15_in (l := l) (D := D) (cy := cy) (ka := ka) hcs3
  refine v_callS (As := [.int l1, .int (0 : Int32), .int (99 : Int32)]) (rest := []) hts3 yb_X15_in kw_1726 kw_1727 rfl ⟨Nat.le_of_ble_eq_true rfl, Nat.le_of_ble_eq_true rfl⟩ rfl (cat_len (Nat.le_of_ble_eq_true rfl)) dX15_rumour_42 ?_
  show v_ l D cy ka cX15_rumour RX15 14 (some FieldType.int) "rumour" 1 25 (qf_ D cy σ0 z (some (.int r))) σ0 z _ 45 [(10, .int t0), (0, va_rf (some l0)), (1, .int l1), (2, .int l2), (3, .int l3), (4, .int l4), (5, .int l5), (6, .int l6), (7, .int l7), (8, .int l8), (9, .int l9)] [.int x2]
  refine v_if_eq (tgt := 73) hf dX15_rumour_45 (by decide) (fun hq hf => ?_) (fun hq hf => ?_)
  · refine v_sub [1, 2, 3, 4, 5, 6, 7, 8, 9, 10, 0] (L2 := [(0, va_rf (some l0)), (1, .int l1), (2, .int l2), (3, .int l3), (4, .int l4), (5, .int l5), (6, .int l6), (7, .int l7), (8, .int l8), (9, .int l9), (10, .int t0)]) rfl ?_
    exact t_X15_rumour_b73  hf
  · refine v_iload_n (x := l2) dX15_rumour_48 rfl 3 rfl ?_
    refine v_iconst (v := 0) dX15_rumour_49 (by decide) ?_
    refine v_aload_n (x := (some l0)) dX15_rumour_50 rfl 1 rfl ?_
    obtain ⟨hk_l0, hf⟩ := gt_of hf
    obtain ⟨x32, s33, hcs33, hf⟩ := bd_of hf
    have hts33 := c_X15_today (l := l) (D := D) (cy := cy) (ka := ka) hcs33
    refine v_callV cb_16 hk_l0 (As := []) (rest := [.int (0 : Int32), .int l2]) hts33 yb_X15_today kw_1774 kw_1776 kp_84 rfl ⟨Nat.le_of_ble_eq_true rfl, Nat.le_of_ble_eq_true rfl⟩ rfl (cat_len (Nat.le_of_ble_eq_true rfl)) dX15_rumour_51 ?_
    have hk_l0 := tk_ hts33.1 hk_l0
    show v_ l D cy ka cX15_rumour RX15 14 (some FieldType.int) "rumour" 1 25 (qf_ D cy σ0 z (some (.int r))) σ0 z _ 54 [(10, .int t0), (0, va_rf (some l0)), (1, .int l1), (2, .int l2), (3, .int l3), (4, .int l4), (5, .int l5), (6, .int l6), (7, .int l7), (8, .int l8), (9, .int l9)] [.int x32, .int (0 : Int32), .int l2]
    obtain ⟨x34, s35, hcs35, hf⟩ := bd_of hf
    have hts35 := c_X15_in (l := l) (D := D) (cy := cy) (ka := ka) hcs35
    refine v_callS (As := [.int l2, .int (0 : Int32), .int x32]) (rest := []) hts35 yb_X15_in kw_1726 kw_1727 rfl ⟨Nat.le_of_ble_eq_true rfl, Nat.le_of_ble_eq_true rfl⟩ rfl (cat_len (Nat.le_of_ble_eq_true rfl)) dX15_rumour_54 ?_
    have hk_l0 := tk_ hts35.1 hk_l0
    show v_ l D cy ka cX15_rumour RX15 14 (some FieldType.int) "rumour" 1 25 (qf_ D cy σ0 z (some (.int r))) σ0 z _ 57 [(10, .int t0), (0, va_rf (some l0)), (1, .int l1), (2, .int l2), (3, .int l3), (4, .int l4), (5, .int l5), (6, .int l6), (7, .int l7), (8, .int l8), (9, .int l9)] [.int x34]
    refine v_if_eq (tgt := 73) hf dX15_rumour_57 (by decide) (fun hq hf => ?_) (fun hq hf => ?_)
    · refine v_sub [1, 2, 3, 4, 5, 6, 7, 8, 9, 10, 0] (L2 := [(0, va_rf (some l0)), (1, .int l1), (2, .int l2), (3, .int l3), (4, .int l4), (5, .int l5), (6, .int l6), (7, .int l7), (8, .int l8), (9, .int l9), (10, .int t0)]) rfl ?_
      exact t_X15_rumour_b73  hf
    · refine v_iload_n (x := l3) dX15_rumour_60 rfl 4 rfl ?_
      refine v_iconst (v := 0) dX15_rumour_61 (by decide) ?_
      refine v_iconst (v := 4) dX15_rumour_62 (by decide) ?_
      obtain ⟨x36, s37, hcs37, hf⟩ := bd_of hf
      have hts37 := c_X15_in (l := l) (D := D) (cy := cy) (ka := ka) hcs37
      refine v_callS (As := [.int l3, .int (0 : Int32), .int (4 : Int32)]) (rest := []) hts37 yb_X15_in kw_1726 kw_1727 rfl ⟨Nat.le_of_ble_eq_true rfl, Nat.le_of_ble_eq_true rfl⟩ rfl (cat_len (Nat.le_of_ble_eq_true rfl)) dX15_rumour_63 ?_
      have hk_l0 := tk_ hts37.1 hk_l0
      show v_ l D cy ka cX15_rumour RX15 14 (some FieldType.int) "rumour" 1 25 (qf_ D cy σ0 z (some (.int r))) σ0 z _ 66 [(10, .int t0), (0, va_rf (some l0)), (1, .int l1), (2, .int l2), (3, .int l3), (4, .int l4), (5, .int l5), (6, .int l6), (7, .int l7), (8, .int l8), (9, .int l9)] [.int x36]
      refine v_if_eq (tgt := 73) hf dX15_rumour_66 (by decide) (fun hq hf => ?_) (fun hq hf => ?_)
      · refine v_sub [1, 2, 3, 4, 5, 6, 7, 8, 9, 10, 0] (L2 := [(0, va_rf (some l0)), (1, .int l1), (2, .int l2), (3, .int l3), (4, .int l4), (5, .int l5), (6, .int l6), (7, .int l7), (8, .int l8), (9, .int l9), (10, .int t0)]) rfl ?_
        exact t_X15_rumour_b73  hf
      · refine v_iconst (v := 1) dX15_rumour_69 (by decide) ?_
        refine v_goto (tgt := 74) dX15_rumour_70 (by decide) ?_
        refine v_sub [1, 2, 3, 4, 5, 6, 7, 8, 9, 10, 0] (L2 := [(0, va_rf (some l0)), (1, .int l1), (2, .int l2), (3, .int l3), (4, .int l4), (5, .int l5), (6, .int l6), (7, .int l7), (8, .int l8), (9, .int l9), (10, .int t0)]) rfl ?_
        exact t_X15_rumour_b74  hf
/-- LivesAheadModel.rumour(IIIIIIIII)I -/
def f_X15_rumour (σ : TH) (p0 : Nat) (p1 : Int32) (p2 : Int32) (p3 : Int32) (p4 : Int32) (p5 : Int32) (p6 : Int32) (p7 : Int32) (p8 : Int32) (p9 : Int32) : Option (Int32 × TH) :=
  gt_ (kd_ σ p0 = 17) <| lt_ (si_ σ 1600 p0 (0 : Int32)) fun s1 => if p4 = (-1 : Int32) then (f_X15_rumour_b36 s1 p0 p1 p2 p3 p4 p5 p6 p7 p8 p9 (0 : Int32)) else (if p6 = (-1 : Int32) then (f_X15_rumour_b36 s1 p0 p1 p2 p3 p4 p5 p6 p7 p8 p9 (1 : Int32)) else (if p8 = (-1 : Int32) then (f_X15_rumour_b36 s1 p0 p1 p2 p3 p4 p5 p6 p7 p8 p9 (2 : Int32)) else (f_X15_rumour_b36 s1 p0 p1 p2 p3 p4 p5 p6 p7 p8 p9 (3 : Int32))))
set_option maxHeartbeats 4000000 in
set_option maxRecDepth 100000 in
theorem c_X15_rumour {l : Launch} {D : va_G} {cy : Nat → ClassId} {ka : Nat → Nat} {σ z : TH} {p0 : Nat} {p1 : Int32} {p2 : Int32} {p3 : Int32} {p4 : Int32} {p5 : Int32} {p6 : Int32} {p7 : Int32} {p8 : Int32} {p9 : Int32} {r : Int32} (hf : f_X15_rumour σ p0 p1 p2 p3 p4 p5 p6 p7 p8 p9 = some (r, z)) : ct_ l D cy ka yX15_rumour 1 25 [va_rf (some p0), .int p1, .int p2, .int p3, .int p4, .int p5, .int p6, .int p7, .int p8, .int p9] σ (some (.int r)) z := by
  unfold f_X15_rumour at hf
  refine v_start (cc := cX15_rumour) (own := RX15) (maxL := 14) (ret := (some FieldType.int)) (nm := "rumour") (by decide +kernel) kw_2125 rfl rfl (by simp [lg_sl, va_rf_cat, cat_i, cat_l]) ?_
  refine v_eqL (L2 := [(0, va_rf (some p0)), (1, .int p1), (2, .int p2), (3, .int p3), (4, .int p4), (5, .int p5), (6, .int p6), (7, .int p7), (8, .int p8), (9, .int p9)]) (by simp [lv_args, va_rf_cat, cat_i, cat_l]) ?_
  refine v_aload_n (x := (some p0)) dX15_rumour_0 rfl 0 rfl ?_
  refine v_iconst (v := 0) dX15_rumour_1 (by decide) ?_
  obtain ⟨hk_p0, hf⟩ := gt_of hf
  refine v_puti2 cb_16 hk_p0 0 1600 rfl (by decide) rfl (lk_n kw_1457 rfl) (Or.inl rfl) rfl rfl hf dX15_rumour_2 (fun s1 hts1 hf => ?_)
  have hk_p0 := tk_ hts1 hk_p0
  refine v_iload (x := p4) dX15_rumour_5 4 rfl ?_
  refine v_iconst (v := (-1)) dX15_rumour_7 (by decide) ?_
  refine v_icmp_ne (tgt := 15) hf dX15_rumour_8 (by decide) (fun hq hf => ?_) (fun hq hf => ?_)
  · refine v_iconst (v := 0) dX15_rumour_11 (by decide) ?_
    refine v_goto (tgt := 36) dX15_rumour_12 (by decide) ?_
    refine v_sub [0, 1, 2, 3, 4, 5, 6, 7, 8, 9] (L2 := [(0, va_rf (some p0)), (1, .int p1), (2, .int p2), (3, .int p3), (4, .int p4), (5, .int p5), (6, .int p6), (7, .int p7), (8, .int p8), (9, .int p9)]) rfl ?_
    exact t_X15_rumour_b36  hf
  · refine v_iload (x := p6) dX15_rumour_15 6 rfl ?_
    refine v_iconst (v := (-1)) dX15_rumour_17 (by decide) ?_
    refine v_icmp_ne (tgt := 25) hf dX15_rumour_18 (by decide) (fun hq hf => ?_) (fun hq hf => ?_)
    · refine v_iconst (v := 1) dX15_rumour_21 (by decide) ?_
      refine v_goto (tgt := 36) dX15_rumour_22 (by decide) ?_
      refine v_sub [0, 1, 2, 3, 4, 5, 6, 7, 8, 9] (L2 := [(0, va_rf (some p0)), (1, .int p1), (2, .int p2), (3, .int p3), (4, .int p4), (5, .int p5), (6, .int p6), (7, .int p7), (8, .int p8), (9, .int p9)]) rfl ?_
      exact t_X15_rumour_b36  hf
    · refine v_iload (x := p8) dX15_rumour_25 8 rfl ?_
      refine v_iconst (v := (-1)) dX15_rumour_27 (by decide) ?_
      refine v_icmp_ne (tgt := 35) hf dX15_rumour_28 (by decide) (fun hq hf => ?_) (fun hq hf => ?_)
      · refine v_iconst (v := 2) dX15_rumour_31 (by decide) ?_
        refine v_goto (tgt := 36) dX15_rumour_32 (by decide) ?_
        refine v_sub [0, 1, 2, 3, 4, 5, 6, 7, 8, 9] (L2 := [(0, va_rf (some p0)), (1, .int p1), (2, .int p2), (3, .int p3), (4, .int p4), (5, .int p5), (6, .int p6), (7, .int p7), (8, .int p8), (9, .int p9)]) rfl ?_
        exact t_X15_rumour_b36  hf
      · refine v_iconst (v := 3) dX15_rumour_35 (by decide) ?_
        refine v_sub [0, 1, 2, 3, 4, 5, 6, 7, 8, 9] (L2 := [(0, va_rf (some p0)), (1, .int p1), (2, .int p2), (3, .int p3), (4, .int p4), (5, .int p5), (6, .int p6), (7, .int p7), (8, .int p8), (9, .int p9)]) rfl ?_
        exact t_X15_rumour_b36  hf
theorem dX15_said_0 : decode cX15_said 0 = .ok (.aload_n 0, 1) := by decide +kernel
theorem dX15_said_1 : decode cX15_said 1 = .ok (.iconst 0, 1) := by decide +kernel
theorem dX15_said_2 : decode cX15_said 2 = .ok (.putfield 1, 3) := by decide +kernel
theorem dX15_said_5 : decode cX15_said 5 = .ok (.aload_n 0, 1) := by decide +kernel
theorem dX15_said_6 : decode cX15_said 6 = .ok (.iload_n 1, 1) := by decide +kernel
theorem dX15_said_7 : decode cX15_said 7 = .ok (.invokevirtual 587, 3) := by decide +kernel
theorem dX15_said_10 : decode cX15_said 10 = .ok (.ifCond .eq 41, 3) := by decide +kernel
theorem dX15_said_13 : decode cX15_said 13 = .ok (.iload_n 2, 1) := by decide +kernel
theorem dX15_said_14 : decode cX15_said 14 = .ok (.invokestatic 250, 3) := by decide +kernel
theorem dX15_said_17 : decode cX15_said 17 = .ok (.ifCond .eq 34, 3) := by decide +kernel
theorem dX15_said_20 : decode cX15_said 20 = .ok (.aload_n 0, 1) := by decide +kernel
theorem dX15_said_21 : decode cX15_said 21 = .ok (.getfield 175, 3) := by decide +kernel
theorem dX15_said_24 : decode cX15_said 24 = .ok (.iload_n 1, 1) := by decide +kernel
theorem dX15_said_25 : decode cX15_said 25 = .ok (.aaload, 1) := by decide +kernel
theorem dX15_said_26 : decode cX15_said 26 = .ok (.getfield 583, 3) := by decide +kernel
theorem dX15_said_29 : decode cX15_said 29 = .ok (.iload_n 2, 1) := by decide +kernel
theorem dX15_said_30 : decode cX15_said 30 = .ok (.ishr, 1) := by decide +kernel
theorem dX15_said_31 : decode cX15_said 31 = .ok (.iconst 1, 1) := by decide +kernel
theorem dX15_said_32 : decode cX15_said 32 = .ok (.iand, 1) := by decide +kernel
theorem dX15_said_33 : decode cX15_said 33 = .ok (.iconst 1, 1) := by decide +kernel
theorem dX15_said_34 : decode cX15_said 34 = .ok (.if_icmp .ne 17, 3) := by decide +kernel
theorem dX15_said_37 : decode cX15_said 37 = .ok (.aload_n 0, 1) := by decide +kernel
theorem dX15_said_38 : decode cX15_said 38 = .ok (.getfield 175, 3) := by decide +kernel
theorem dX15_said_41 : decode cX15_said 41 = .ok (.iload_n 1, 1) := by decide +kernel
theorem dX15_said_42 : decode cX15_said 42 = .ok (.aaload, 1) := by decide +kernel
theorem dX15_said_43 : decode cX15_said 43 = .ok (.getfield 584, 3) := by decide +kernel
theorem dX15_said_46 : decode cX15_said 46 = .ok (.iload_n 2, 1) := by decide +kernel
theorem dX15_said_47 : decode cX15_said 47 = .ok (.iaload, 1) := by decide +kernel
theorem dX15_said_48 : decode cX15_said 48 = .ok (.goto 6, 3) := by decide +kernel
theorem dX15_said_51 : decode cX15_said 51 = .ok (.ldc_w 268, 3) := by decide +kernel
theorem dX15_said_54 : decode cX15_said 54 = .ok (.ireturn, 1) := by decide +kernel
def f_X15_said_b54 (σ : TH) (t0 : Int32) : Option (Int32 × TH) :=
  some (t0, σ)
set_option maxHeartbeats 4000000 in
set_option maxRecDepth 100000 in
theorem t_X15_said_b54 {l : Launch} {D : va_G} {cy : Nat → ClassId} {ka : Nat → Nat} {σ0 z : TH} {r : Int32}  {σ : TH} {t0 : Int32} (hf : f_X15_said_b54 σ t0 = some (r, z)) : v_ l D cy ka cX15_said RX15 3 (some FieldType.int) "said" 1 21 (qf_ D cy σ0 z (some (.int r))) σ0 z σ 54 [] [.int t0] := by
  unfold f_X15_said_b54 at hf
  exact v_iret hf dX15_said_54
def f_X15_said_b51 (σ : TH) : Option (Int32 × TH) :=
  f_X15_said_b54 σ (((-2147483648) : Int32))
set_option maxHeartbeats 4000000 in
set_option maxRecDepth 100000 in
theorem t_X15_said_b51 {l : Launch} {D : va_G} {cy : Nat → ClassId} {ka : Nat → Nat} {σ0 z : TH} {r : Int32}  {σ : TH}  (hf : f_X15_said_b51 σ  = some (r, z)) : v_ l D cy ka cX15_said RX15 3 (some FieldType.int) "said" 1 21 (qf_ D cy σ0 z (some (.int r))) σ0 z σ 51 [] [] := by
  unfold f_X15_said_b51 at hf
  refine v_ldcw (v := (-2147483648)) kw_1832 dX15_said_51 ?_
  refine v_sub [] (L2 := []) rfl ?_
  exact t_X15_said_b54  hf
/-- LivesAheadModel.said(II)I -/
def f_X15_said (σ : TH) (p0 : Nat) (p1 : Int32) (p2 : Int32) : Option (Int32 × TH) :=
  gt_ (kd_ σ p0 = 17) <| lt_ (si_ σ 1600 p0 (0 : Int32)) fun s1 => bd_ (f_X15_isEdition s1 p0 p1) fun x2 s3 => if x2 = 0 then (f_X15_said_b51 s3 ) else (bd_ (f_X15_isKind s3 p2) fun x4 s5 => if x4 = 0 then (f_X15_said_b51 s5 ) else (lt_ (fr_ s5 1682 p0) fun r6 => nn_ r6 fun a7 => gt_ (kd_ s5 a7 = 28) <| gt_ (¬ (p1 < 0 ∨ ln_ s5 a7 ≤ p1.toNatClampNeg)) <| lt_ (ar_ s5 a7 p1.toNatClampNeg) fun r8 => nn_ r8 fun a9 => gt_ (kd_ s5 a9 = 14) <| lt_ (fi_ s5 1306 a9) fun x10 => if ((x10 >>> (p2 &&& 31)) &&& (1 : Int32)) = (1 : Int32) then (lt_ (fr_ s5 1682 p0) fun r11 => nn_ r11 fun a12 => gt_ (kd_ s5 a12 = 28) <| gt_ (¬ (p1 < 0 ∨ ln_ s5 a12 ≤ p1.toNatClampNeg)) <| lt_ (ar_ s5 a12 p1.toNatClampNeg) fun r13 => nn_ r13 fun a14 => gt_ (kd_ s5 a14 = 14) <| lt_ (fr_ s5 1309 a14) fun r15 => nn_ r15 fun a16 => gt_ (kd_ s5 a16 = 20) <| gt_ (¬ (p2 < 0 ∨ ln_ s5 a16 ≤ p2.toNatClampNeg)) <| lt_ (ai_ s5 a16 p2.toNatClampNeg) fun x17 => f_X15_said_b54 s5 x17) else (f_X15_said_b51 s5 )))
set_option maxHeartbeats 4000000 in
set_option maxRecDepth 100000 in
theorem c_X15_said {l : Launch} {D : va_G} {cy : Nat → ClassId} {ka : Nat → Nat} {σ z : TH} {p0 : Nat} {p1 : Int32} {p2 : Int32} {r : Int32} (hf : f_X15_said σ p0 p1 p2 = some (r, z)) : ct_ l D cy ka yX15_said 1 21 [va_rf (some p0), .int p1, .int p2] σ (some (.int r)) z := by
  unfold f_X15_said at hf
  refine v_start (cc := cX15_said) (own := RX15) (maxL := 3) (ret := (some FieldType.int)) (nm := "said") (by decide +kernel) kw_2238 rfl rfl (by simp [lg_sl, va_rf_cat, cat_i, cat_l]) ?_
  refine v_eqL (L2 := [(0, va_rf (some p0)), (1, .int p1), (2, .int p2)]) (by simp [lv_args, va_rf_cat, cat_i, cat_l]) ?_
  refine v_aload_n (x := (some p0)) dX15_said_0 rfl 0 rfl ?_
  refine v_iconst (v := 0) dX15_said_1 (by decide) ?_
  obtain ⟨hk_p0, hf⟩ := gt_of hf
  refine v_puti2 cb_16 hk_p0 0 1600 rfl (by decide) rfl (lk_n kw_1457 rfl) (Or.inl rfl) rfl rfl hf dX15_said_2 (fun s1 hts1 hf => ?_)
  have hk_p0 := tk_ hts1 hk_p0
  refine v_aload_n (x := (some p0)) dX15_said_5 rfl 0 rfl ?_
  refine v_iload_n (x := p1) dX15_said_6 rfl 1 rfl ?_
  obtain ⟨x2, s3, hcs3, hf⟩ := bd_of hf
  have hts3 := c_X15_isEdition (l := l) (D := D) (cy := cy) (ka := ka) hcs3
  refine v_callV cb_16 hk_p0 (As := [.int p1]) (rest := []) hts3 yb_X15_isEdition kw_2219 kw_2221 kp_133 rfl ⟨Nat.le_of_ble_eq_true rfl, Nat.le_of_ble_eq_true rfl⟩ rfl (cat_len (Nat.le_of_ble_eq_true rfl)) dX15_said_7 ?_
  have hk_p0 := tk_ hts3.1 hk_p0
  show v_ l D cy ka cX15_said RX15 3 (some FieldType.int) "said" 1 21 (qf_ D cy σ z (some (.int r))) σ z _ 10 [(0, va_rf (some p0)), (1, .int p1), (2, .int p2)] [.int x2]
  refine v_if_eq (tgt := 51) hf dX15_said_10 (by decide) (fun hq hf => ?_) (fun hq hf => ?_)
  · refine v_sub [] (L2 := []) rfl ?_
    exact t_X15_said_b51  hf
  · refine v_iload_n (x := p2) dX15_said_13 rfl 2 rfl ?_
    obtain ⟨x4, s5, hcs5, hf⟩ := bd_of hf
    have hts5 := c_X15_isKind (l := l) (D := D) (cy := cy) (ka := ka) hcs5
    refine v_callS (As := [.int p2]) (rest := []) hts5 yb_X15_isKind kw_1813 kw_1814 rfl ⟨Nat.le_of_ble_eq_true rfl, Nat.le_of_ble_eq_true rfl⟩ rfl (cat_len (Nat.le_of_ble_eq_true rfl)) dX15_said_14 ?_
    have hk_p0 := tk_ hts5.1 hk_p0
    show v_ l D cy ka cX15_said RX15 3 (some FieldType.int) "said" 1 21 (qf_ D cy σ z (some (.int r))) σ z _ 17 [(0, va_rf (some p0)), (1, .int p1), (2, .int p2)] [.int x4]
    refine v_if_eq (tgt := 51) hf dX15_said_17 (by decide) (fun hq hf => ?_) (fun hq hf => ?_)
    · refine v_sub [] (L2 := []) rfl ?_
      exact t_X15_said_b51  hf
    · refine v_aload_n (x := (some p0)) dX15_said_20 rfl 0 rfl ?_
      refine v_getr cb_16 hk_p0 82 1682 rfl (by decide) rfl (lk_n kw_1539 rfl) hf dX15_said_21 (fun r6 hf => ?_)
      refine v_iload_n (x := p1) dX15_said_24 rfl 1 rfl ?_
      obtain ⟨a7, rfl, hf⟩ := nn_of hf
      obtain ⟨hk_a7, hf⟩ := gt_of hf
      refine v_aald 27 8 RX12 hk_a7 (by decide) rfl hf dX15_said_25 (fun r8 hf => ?_)
      obtain ⟨a9, rfl, hf⟩ := nn_of hf
      obtain ⟨hk_a9, hf⟩ := gt_of hf
      refine v_geti cb_13 hk_a9 6 1306 rfl (by decide) rfl (lk_N kw_2181 rfl) hf dX15_said_26 (fun x10 hf => ?_)
      refine v_iload_n (x := p2) dX15_said_29 rfl 2 rfl ?_
      refine v_ishr dX15_said_30 ?_
      refine v_iconst (v := 1) dX15_said_31 (by decide) ?_
      refine v_iand dX15_said_32 ?_
      refine v_iconst (v := 1) dX15_said_33 (by decide) ?_
      refine v_icmp_ne (tgt := 51) hf dX15_said_34 (by decide) (fun hq hf => ?_) (fun hq hf => ?_)
      · refine v_aload_n (x := (some p0)) dX15_said_37 rfl 0 rfl ?_
        refine v_getr cb_16 hk_p0 82 1682 rfl (by decide) rfl (lk_n kw_1539 rfl) hf dX15_said_38 (fun r11 hf => ?_)
        refine v_iload_n (x := p1) dX15_said_41 rfl 1 rfl ?_
        obtain ⟨a12, rfl, hf⟩ := nn_of hf
        obtain ⟨hk_a12, hf⟩ := gt_of hf
        refine v_aald 27 8 RX12 hk_a12 (by decide) rfl hf dX15_said_42 (fun r13 hf => ?_)
        obtain ⟨a14, rfl, hf⟩ := nn_of hf
        obtain ⟨hk_a14, hf⟩ := gt_of hf
        refine v_getr cb_13 hk_a14 9 1309 rfl (by decide) rfl (lk_N kw_2185 rfl) hf dX15_said_43 (fun r15 hf => ?_)
        refine v_iload_n (x := p2) dX15_said_46 rfl 2 rfl ?_
        obtain ⟨a16, rfl, hf⟩ := nn_of hf
        obtain ⟨hk_a16, hf⟩ := gt_of hf
        refine v_iald hk_a16 hf dX15_said_47 (fun x17 hf => ?_)
        refine v_goto (tgt := 54) dX15_said_48 (by decide) ?_
        refine v_sub [] (L2 := []) rfl ?_
        exact t_X15_said_b54  hf
      · refine v_sub [] (L2 := []) rfl ?_
        exact t_X15_said_b51  hf
theorem dX15_takes_0 : decode cX15_takes 0 = .ok (.aload_n 0, 1) := by decide +kernel
theorem dX15_takes_1 : decode cX15_takes 1 = .ok (.iconst 0, 1) := by decide +kernel
theorem dX15_takes_2 : decode cX15_takes 2 = .ok (.putfield 1, 3) := by decide +kernel
theorem dX15_takes_5 : decode cX15_takes 5 = .ok (.aload_n 0, 1) := by decide +kernel
theorem dX15_takes_6 : decode cX15_takes 6 = .ok (.getfield 185, 3) := by decide +kernel
theorem dX15_takes_9 : decode cX15_takes 9 = .ok (.ireturn, 1) := by decide +kernel
/-- LivesAheadModel.takes()I -/
def f_X15_takes (σ : TH) (p0 : Nat) : Option (Int32 × TH) :=
  gt_ (kd_ σ p0 = 17) <| lt_ (si_ σ 1600 p0 (0 : Int32)) fun s1 => lt_ (fi_ s1 1687 p0) fun x2 => some (x2, s1)
set_option maxHeartbeats 4000000 in
set_option maxRecDepth 100000 in
theorem c_X15_takes {l : Launch} {D : va_G} {cy : Nat → ClassId} {ka : Nat → Nat} {σ z : TH} {p0 : Nat} {r : Int32} (hf : f_X15_takes σ p0 = some (r, z)) : ct_ l D cy ka yX15_takes 0 0 [va_rf (some p0)] σ (some (.int r)) z := by
  unfold f_X15_takes at hf
  refine v_start (cc := cX15_takes) (own := RX15) (maxL := 1) (ret := (some FieldType.int)) (nm := "takes") (by decide +kernel) kw_2266 rfl rfl (by simp [lg_sl, va_rf_cat, cat_i, cat_l]) ?_
  refine v_eqL (L2 := [(0, va_rf (some p0))]) (by simp [lv_args, va_rf_cat, cat_i, cat_l]) ?_
  refine v_aload_n (x := (some p0)) dX15_takes_0 rfl 0 rfl ?_
  refine v_iconst (v := 0) dX15_takes_1 (by decide) ?_
  obtain ⟨hk_p0, hf⟩ := gt_of hf
  refine v_puti2 cb_16 hk_p0 0 1600 rfl (by decide) rfl (lk_n kw_1457 rfl) (Or.inl rfl) rfl rfl hf dX15_takes_2 (fun s1 hts1 hf => ?_)
  have hk_p0 := tk_ hts1 hk_p0
  refine v_aload_n (x := (some p0)) dX15_takes_5 rfl 0 rfl ?_
  refine v_geti cb_16 hk_p0 87 1687 rfl (by decide) rfl (lk_n kw_1544 rfl) hf dX15_takes_6 (fun x2 hf => ?_)
  exact v_iret hf dX15_takes_9
theorem dX15_thrown_0 : decode cX15_thrown 0 = .ok (.aload_n 0, 1) := by decide +kernel
theorem dX15_thrown_1 : decode cX15_thrown 1 = .ok (.getfield 1, 3) := by decide +kernel
theorem dX15_thrown_4 : decode cX15_thrown 4 = .ok (.ireturn, 1) := by decide +kernel
/-- LivesAheadModel.thrown()I -/
def f_X15_thrown (σ : TH) (p0 : Nat) : Option (Int32 × TH) :=
  gt_ (kd_ σ p0 = 17) <| lt_ (fi_ σ 1600 p0) fun x1 => some (x1, σ)
set_option maxHeartbeats 4000000 in
set_option maxRecDepth 100000 in
theorem c_X15_thrown {l : Launch} {D : va_G} {cy : Nat → ClassId} {ka : Nat → Nat} {σ z : TH} {p0 : Nat} {r : Int32} (hf : f_X15_thrown σ p0 = some (r, z)) : ct_ l D cy ka yX15_thrown 0 0 [va_rf (some p0)] σ (some (.int r)) z := by
  unfold f_X15_thrown at hf
  refine v_start (cc := cX15_thrown) (own := RX15) (maxL := 1) (ret := (some FieldType.int)) (nm := "thrown") (by decide +kernel) kw_1417 rfl rfl (by simp [lg_sl, va_rf_cat, cat_i, cat_l]) ?_
  refine v_eqL (L2 := [(0, va_rf (some p0))]) (by simp [lv_args, va_rf_cat, cat_i, cat_l]) ?_
  refine v_aload_n (x := (some p0)) dX15_thrown_0 rfl 0 rfl ?_
  obtain ⟨hk_p0, hf⟩ := gt_of hf
  refine v_geti cb_16 hk_p0 0 1600 rfl (by decide) rfl (lk_n kw_1457 rfl) hf dX15_thrown_1 (fun x1 hf => ?_)
  exact v_iret hf dX15_thrown_4
theorem dX15_trouble_0 : decode cX15_trouble 0 = .ok (.aload_n 0, 1) := by decide +kernel
theorem dX15_trouble_1 : decode cX15_trouble 1 = .ok (.iconst 0, 1) := by decide +kernel
theorem dX15_trouble_2 : decode cX15_trouble 2 = .ok (.putfield 1, 3) := by decide +kernel
theorem dX15_trouble_5 : decode cX15_trouble 5 = .ok (.aload_n 0, 1) := by decide +kernel
theorem dX15_trouble_6 : decode cX15_trouble 6 = .ok (.getfield 7, 3) := by decide +kernel
theorem dX15_trouble_9 : decode cX15_trouble 9 = .ok (.ireturn, 1) := by decide +kernel
/-- LivesAheadModel.trouble()I -/
def f_X15_trouble (σ : TH) (p0 : Nat) : Option (Int32 × TH) :=
  gt_ (kd_ σ p0 = 17) <| lt_ (si_ σ 1600 p0 (0 : Int32)) fun s1 => lt_ (fi_ s1 1601 p0) fun x2 => some (x2, s1)
set_option maxHeartbeats 4000000 in
set_option maxRecDepth 100000 in
theorem c_X15_trouble {l : Launch} {D : va_G} {cy : Nat → ClassId} {ka : Nat → Nat} {σ z : TH} {p0 : Nat} {r : Int32} (hf : f_X15_trouble σ p0 = some (r, z)) : ct_ l D cy ka yX15_trouble 0 0 [va_rf (some p0)] σ (some (.int r)) z := by
  unfold f_X15_trouble at hf
  refine v_start (cc := cX15_trouble) (own := RX15) (maxL := 1) (ret := (some FieldType.int)) (nm := "trouble") (by decide +kernel) kw_2292 rfl rfl (by simp [lg_sl, va_rf_cat, cat_i, cat_l]) ?_
  refine v_eqL (L2 := [(0, va_rf (some p0))]) (by simp [lv_args, va_rf_cat, cat_i, cat_l]) ?_
  refine v_aload_n (x := (some p0)) dX15_trouble_0 rfl 0 rfl ?_
  refine v_iconst (v := 0) dX15_trouble_1 (by decide) ?_
  obtain ⟨hk_p0, hf⟩ := gt_of hf
  refine v_puti2 cb_16 hk_p0 0 1600 rfl (by decide) rfl (lk_n kw_1457 rfl) (Or.inl rfl) rfl rfl hf dX15_trouble_2 (fun s1 hts1 hf => ?_)
  have hk_p0 := tk_ hts1 hk_p0
  refine v_aload_n (x := (some p0)) dX15_trouble_5 rfl 0 rfl ?_
  refine v_geti cb_16 hk_p0 1 1601 rfl (by decide) rfl (lk_n kw_1458 rfl) hf dX15_trouble_6 (fun x2 hf => ?_)
  exact v_iret hf dX15_trouble_9
theorem dX15_used_0 : decode cX15_used 0 = .ok (.aload_n 0, 1) := by decide +kernel
theorem dX15_used_1 : decode cX15_used 1 = .ok (.iconst 0, 1) := by decide +kernel
theorem dX15_used_2 : decode cX15_used 2 = .ok (.putfield 1, 3) := by decide +kernel
theorem dX15_used_5 : decode cX15_used 5 = .ok (.iload_n 1, 1) := by decide +kernel
theorem dX15_used_6 : decode cX15_used 6 = .ok (.ifCond .lt 20, 3) := by decide +kernel
theorem dX15_used_9 : decode cX15_used 9 = .ok (.iload_n 1, 1) := by decide +kernel
theorem dX15_used_10 : decode cX15_used 10 = .ok (.aload_n 0, 1) := by decide +kernel
theorem dX15_used_11 : decode cX15_used 11 = .ok (.getfield 559, 3) := by decide +kernel
theorem dX15_used_14 : decode cX15_used 14 = .ok (.if_icmp .ge 12, 3) := by decide +kernel
theorem dX15_used_17 : decode cX15_used 17 = .ok (.aload_n 0, 1) := by decide +kernel
theorem dX15_used_18 : decode cX15_used 18 = .ok (.getfield 158, 3) := by decide +kernel
theorem dX15_used_21 : decode cX15_used 21 = .ok (.iload_n 1, 1) := by decide +kernel
theorem dX15_used_22 : decode cX15_used 22 = .ok (.iaload, 1) := by decide +kernel
theorem dX15_used_23 : decode cX15_used 23 = .ok (.goto 4, 3) := by decide +kernel
theorem dX15_used_26 : decode cX15_used 26 = .ok (.iconst (-1), 1) := by decide +kernel
theorem dX15_used_27 : decode cX15_used 27 = .ok (.ireturn, 1) := by decide +kernel
def f_X15_used_b27 (σ : TH) (t0 : Int32) : Option (Int32 × TH) :=
  some (t0, σ)
set_option maxHeartbeats 4000000 in
set_option maxRecDepth 100000 in
theorem t_X15_used_b27 {l : Launch} {D : va_G} {cy : Nat → ClassId} {ka : Nat → Nat} {σ0 z : TH} {r : Int32}  {σ : TH} {t0 : Int32} (hf : f_X15_used_b27 σ t0 = some (r, z)) : v_ l D cy ka cX15_used RX15 2 (some FieldType.int) "used" 0 0 (qf_ D cy σ0 z (some (.int r))) σ0 z σ 27 [] [.int t0] := by
  unfold f_X15_used_b27 at hf
  exact v_iret hf dX15_used_27
def f_X15_used_b26 (σ : TH) : Option (Int32 × TH) :=
  f_X15_used_b27 σ (-1 : Int32)
set_option maxHeartbeats 4000000 in
set_option maxRecDepth 100000 in
theorem t_X15_used_b26 {l : Launch} {D : va_G} {cy : Nat → ClassId} {ka : Nat → Nat} {σ0 z : TH} {r : Int32}  {σ : TH}  (hf : f_X15_used_b26 σ  = some (r, z)) : v_ l D cy ka cX15_used RX15 2 (some FieldType.int) "used" 0 0 (qf_ D cy σ0 z (some (.int r))) σ0 z σ 26 [] [] := by
  unfold f_X15_used_b26 at hf
  refine v_iconst (v := (-1)) dX15_used_26 (by decide) ?_
  refine v_sub [] (L2 := []) rfl ?_
  exact t_X15_used_b27  hf
/-- LivesAheadModel.used(I)I -/
def f_X15_used (σ : TH) (p0 : Nat) (p1 : Int32) : Option (Int32 × TH) :=
  gt_ (kd_ σ p0 = 17) <| lt_ (si_ σ 1600 p0 (0 : Int32)) fun s1 => if p1 < 0 then (f_X15_used_b26 s1 ) else (lt_ (fi_ s1 1669 p0) fun x2 => if x2 ≤ p1 then (f_X15_used_b26 s1 ) else (lt_ (fr_ s1 1677 p0) fun r3 => nn_ r3 fun a4 => gt_ (kd_ s1 a4 = 20) <| gt_ (¬ (p1 < 0 ∨ ln_ s1 a4 ≤ p1.toNatClampNeg)) <| lt_ (ai_ s1 a4 p1.toNatClampNeg) fun x5 => f_X15_used_b27 s1 x5))
set_option maxHeartbeats 4000000 in
set_option maxRecDepth 100000 in
theorem c_X15_used {l : Launch} {D : va_G} {cy : Nat → ClassId} {ka : Nat → Nat} {σ z : TH} {p0 : Nat} {p1 : Int32} {r : Int32} (hf : f_X15_used σ p0 p1 = some (r, z)) : ct_ l D cy ka yX15_used 0 0 [va_rf (some p0), .int p1] σ (some (.int r)) z := by
  unfold f_X15_used at hf
  refine v_start (cc := cX15_used) (own := RX15) (maxL := 2) (ret := (some FieldType.int)) (nm := "used") (by decide +kernel) kw_2153 rfl rfl (by simp [lg_sl, va_rf_cat, cat_i, cat_l]) ?_
  refine v_eqL (L2 := [(0, va_rf (some p0)), (1, .int p1)]) (by simp [lv_args, va_rf_cat, cat_i, cat_l]) ?_
  refine v_aload_n (x := (some p0)) dX15_used_0 rfl 0 rfl ?_
  refine v_iconst (v := 0) dX15_used_1 (by decide) ?_
  obtain ⟨hk_p0, hf⟩ := gt_of hf
  refine v_puti2 cb_16 hk_p0 0 1600 rfl (by decide) rfl (lk_n kw_1457 rfl) (Or.inl rfl) rfl rfl hf dX15_used_2 (fun s1 hts1 hf => ?_)
  have hk_p0 := tk_ hts1 hk_p0
  refine v_iload_n (x := p1) dX15_used_5 rfl 1 rfl ?_
  refine v_if_lt (tgt := 26) hf dX15_used_6 (by decide) (fun hq hf => ?_) (fun hq hf => ?_)
  · refine v_sub [] (L2 := []) rfl ?_
    exact t_X15_used_b26  hf
  · refine v_iload_n (x := p1) dX15_used_9 rfl 1 rfl ?_
    refine v_aload_n (x := (some p0)) dX15_used_10 rfl 0 rfl ?_
    refine v_geti cb_16 hk_p0 69 1669 rfl (by decide) rfl (lk_n kw_1526 rfl) hf dX15_used_11 (fun x2 hf => ?_)
    refine v_icmp_ge (tgt := 26) hf dX15_used_14 (by decide) (fun hq hf => ?_) (fun hq hf => ?_)
    · refine v_sub [] (L2 := []) rfl ?_
      exact t_X15_used_b26  hf
    · refine v_aload_n (x := (some p0)) dX15_used_17 rfl 0 rfl ?_
      refine v_getr cb_16 hk_p0 77 1677 rfl (by decide) rfl (lk_n kw_1534 rfl) hf dX15_used_18 (fun r3 hf => ?_)
      refine v_iload_n (x := p1) dX15_used_21 rfl 1 rfl ?_
      obtain ⟨a4, rfl, hf⟩ := nn_of hf
      obtain ⟨hk_a4, hf⟩ := gt_of hf
      refine v_iald hk_a4 hf dX15_used_22 (fun x5 hf => ?_)
      refine v_goto (tgt := 27) dX15_used_23 (by decide) ?_
      refine v_sub [] (L2 := []) rfl ?_
      exact t_X15_used_b27  hf
theorem dX15_gainOf_0 : decode cX15_gainOf 0 = .ok (.aload_n 0, 1) := by decide +kernel
theorem dX15_gainOf_1 : decode cX15_gainOf 1 = .ok (.iload_n 1, 1) := by decide +kernel
theorem dX15_gainOf_2 : decode cX15_gainOf 2 = .ok (.aload_n 0, 1) := by decide +kernel
theorem dX15_gainOf_3 : decode cX15_gainOf 3 = .ok (.invokevirtual 230, 3) := by decide +kernel
theorem dX15_gainOf_6 : decode cX15_gainOf 6 = .ok (.invokevirtual 234, 3) := by decide +kernel
theorem dX15_gainOf_9 : decode cX15_gainOf 9 = .ok (.istore_n 2, 1) := by decide +kernel
theorem dX15_gainOf_10 : decode cX15_gainOf 10 = .ok (.iload_n 2, 1) := by decide +kernel
theorem dX15_gainOf_11 : decode cX15_gainOf 11 = .ok (.bipush 40, 2) := by decide +kernel
theorem dX15_gainOf_13 : decode cX15_gainOf 13 = .ok (.if_icmp .ge 7, 3) := by decide +kernel
theorem dX15_gainOf_16 : decode cX15_gainOf 16 = .ok (.iconst 1, 1) := by decide +kernel
theorem dX15_gainOf_17 : decode cX15_gainOf 17 = .ok (.goto 37, 3) := by decide +kernel
theorem dX15_gainOf_20 : decode cX15_gainOf 20 = .ok (.iload_n 2, 1) := by decide +kernel
theorem dX15_gainOf_21 : decode cX15_gainOf 21 = .ok (.bipush 60, 2) := by decide +kernel
theorem dX15_gainOf_23 : decode cX15_gainOf 23 = .ok (.if_icmp .ge 7, 3) := by decide +kernel
theorem dX15_gainOf_26 : decode cX15_gainOf 26 = .ok (.iconst 3, 1) := by decide +kernel
theorem dX15_gainOf_27 : decode cX15_gainOf 27 = .ok (.goto 27, 3) := by decide +kernel
theorem dX15_gainOf_30 : decode cX15_gainOf 30 = .ok (.iload_n 2, 1) := by decide +kernel
theorem dX15_gainOf_31 : decode cX15_gainOf 31 = .ok (.bipush 75, 2) := by decide +kernel
theorem dX15_gainOf_33 : decode cX15_gainOf 33 = .ok (.if_icmp .ge 8, 3) := by decide +kernel
theorem dX15_gainOf_36 : decode cX15_gainOf 36 = .ok (.bipush 10, 2) := by decide +kernel
theorem dX15_gainOf_38 : decode cX15_gainOf 38 = .ok (.goto 16, 3) := by decide +kernel
theorem dX15_gainOf_41 : decode cX15_gainOf 41 = .ok (.iload_n 2, 1) := by decide +kernel
theorem dX15_gainOf_42 : decode cX15_gainOf 42 = .ok (.bipush 85, 2) := by decide +kernel
theorem dX15_gainOf_44 : decode cX15_gainOf 44 = .ok (.if_icmp .ge 8, 3) := by decide +kernel
theorem dX15_gainOf_47 : decode cX15_gainOf 47 = .ok (.bipush 30, 2) := by decide +kernel
theorem dX15_gainOf_49 : decode cX15_gainOf 49 = .ok (.goto 5, 3) := by decide +kernel
theorem dX15_gainOf_52 : decode cX15_gainOf 52 = .ok (.bipush 80, 2) := by decide +kernel
theorem dX15_gainOf_54 : decode cX15_gainOf 54 = .ok (.istore_n 3, 1) := by decide +kernel
theorem dX15_gainOf_55 : decode cX15_gainOf 55 = .ok (.iload_n 3, 1) := by decide +kernel
theorem dX15_gainOf_56 : decode cX15_gainOf 56 = .ok (.aload_n 0, 1) := by decide +kernel
theorem dX15_gainOf_57 : decode cX15_gainOf 57 = .ok (.getfield 48, 3) := by decide +kernel
theorem dX15_gainOf_60 : decode cX15_gainOf 60 = .ok (.iload_n 1, 1) := by decide +kernel
theorem dX15_gainOf_61 : decode cX15_gainOf 61 = .ok (.baload, 1) := by decide +kernel
theorem dX15_gainOf_62 : decode cX15_gainOf 62 = .ok (.ifCond .eq 7, 3) := by decide +kernel
theorem dX15_gainOf_65 : decode cX15_gainOf 65 = .ok (.iconst 5, 1) := by decide +kernel
theorem dX15_gainOf_66 : decode cX15_gainOf 66 = .ok (.goto 4, 3) := by decide +kernel
theorem dX15_gainOf_69 : decode cX15_gainOf 69 = .ok (.iconst 1, 1) := by decide +kernel
theorem dX15_gainOf_70 : decode cX15_gainOf 70 = .ok (.imul, 1) := by decide +kernel
theorem dX15_gainOf_71 : decode cX15_gainOf 71 = .ok (.aload_n 0, 1) := by decide +kernel
theorem dX15_gainOf_72 : decode cX15_gainOf 72 = .ok (.getfield 29, 3) := by decide +kernel
theorem dX15_gainOf_75 : decode cX15_gainOf 75 = .ok (.iload_n 1, 1) := by decide +kernel
theorem dX15_gainOf_76 : decode cX15_gainOf 76 = .ok (.iaload, 1) := by decide +kernel
theorem dX15_gainOf_77 : decode cX15_gainOf 77 = .ok (.imul, 1) := by decide +kernel
theorem dX15_gainOf_78 : decode cX15_gainOf 78 = .ok (.aload_n 0, 1) := by decide +kernel
theorem dX15_gainOf_79 : decode cX15_gainOf 79 = .ok (.iload_n 1, 1) := by decide +kernel
theorem dX15_gainOf_80 : decode cX15_gainOf 80 = .ok (.aload_n 0, 1) := by decide +kernel
theorem dX15_gainOf_81 : decode cX15_gainOf 81 = .ok (.invokevirtual 230, 3) := by decide +kernel
theorem dX15_gainOf_84 : decode cX15_gainOf 84 = .ok (.invokevirtual 247, 3) := by decide +kernel
theorem dX15_gainOf_87 : decode cX15_gainOf 87 = .ok (.invokestatic 244, 3) := by decide +kernel
theorem dX15_gainOf_90 : decode cX15_gainOf 90 = .ok (.imul, 1) := by decide +kernel
theorem dX15_gainOf_91 : decode cX15_gainOf 91 = .ok (.ireturn, 1) := by decide +kernel
def f_X15_gainOf_b70 (σ : TH) (l0 : Nat) (l1 : Int32) (t0 : Int32) (t1 : Int32) : Option (Int32 × TH) :=
  gt_ (kd_ σ l0 = 17) <| lt_ (fr_ σ 1610 l0) fun r8 => nn_ r8 fun a9 => gt_ (kd_ σ a9 = 20) <| gt_ (¬ (l1 < 0 ∨ ln_ σ a9 ≤ l1.toNatClampNeg)) <| lt_ (ai_ σ a9 l1.toNatClampNeg) fun x10 => bd_ (f_X15_today σ l0) fun x11 s12 => bd_ (f_X15_staleOf s12 l0 l1 x11) fun x13 s14 => bd_ (f_X15_bits s14 x13) fun x15 s16 => some (((t1 * t0) * x10) * x15, s16)
set_option maxHeartbeats 4000000 in
set_option maxRecDepth 100000 in
theorem t_X15_gainOf_b70 {l : Launch} {D : va_G} {cy : Nat → ClassId} {ka : Nat → Nat} {σ0 z : TH} {r : Int32}  {σ : TH} {l0 : Nat} {l1 : Int32} {t0 : Int32} {t1 : Int32} (hf : f_X15_gainOf_b70 σ l0 l1 t0 t1 = some (r, z)) : v_ l D cy ka cX15_gainOf RX15 4 (some FieldType.int) "gainOf" 2 47 (qf_ D cy σ0 z (some (.int r))) σ0 z σ 70 [(0, va_rf (some l0)), (1, .int l1)] [.int t0, .int t1] := by
  unfold f_X15_gainOf_b70 at hf
  refine v_imul dX15_gainOf_70 ?_
  refine v_aload_n (x := (some l0)) dX15_gainOf_71 rfl 0 rfl ?_
  obtain ⟨hk_l0, hf⟩ := gt_of hf
  refine v_getr cb_16 hk_l0 10 1610 rfl (by decide) rfl (lk_n kw_1467 rfl) hf dX15_gainOf_72 (fun r8 hf => ?_)
  refine v_iload_n (x := l1) dX15_gainOf_75 rfl 1 rfl ?_
  obtain ⟨a9, rfl, hf⟩ := nn_of hf
  obtain ⟨hk_a9, hf⟩ := gt_of hf
  refine v_iald hk_a9 hf dX15_gainOf_76 (fun x10 hf => ?_)
  refine v_imul dX15_gainOf_77 ?_
  refine v_aload_n (x := (some l0)) dX15_gainOf_78 rfl 0 rfl ?_
  refine v_iload_n (x := l1) dX15_gainOf_79 rfl 1 rfl ?_
  refine v_aload_n (x := (some l0)) dX15_gainOf_80 rfl 0 rfl ?_
  obtain ⟨x11, s12, hcs12, hf⟩ := bd_of hf
  have hts12 := c_X15_today (l := l) (D := D) (cy := cy) (ka := ka) hcs12
  refine v_callV cb_16 hk_l0 (As := []) (rest := [.int l1, va_rf (some l0), .int ((t1 * t0) * x10)]) hts12 yb_X15_today kw_1774 kw_1776 kp_84 rfl ⟨Nat.le_of_ble_eq_true rfl, Nat.le_of_ble_eq_true rfl⟩ rfl (cat_len (Nat.le_of_ble_eq_true rfl)) dX15_gainOf_81 ?_
  have hk_l0 := tk_ hts12.1 hk_l0
  show v_ l D cy ka cX15_gainOf RX15 4 (some FieldType.int) "gainOf" 2 47 (qf_ D cy σ0 z (some (.int r))) σ0 z _ 84 [(0, va_rf (some l0)), (1, .int l1)] [.int x11, .int l1, va_rf (some l0), .int ((t1 * t0) * x10)]
  obtain ⟨x13, s14, hcs14, hf⟩ := bd_of hf
  have hts14 := c_X15_staleOf (l := l) (D := D) (cy := cy) (ka := ka) hcs14
  refine v_callV cb_16 hk_l0 (As := [.int l1, .int x11]) (rest := [.int ((t1 * t0) * x10)]) hts14 yb_X15_staleOf kw_1797 kw_1799 kp_89 rfl ⟨Nat.le_of_ble_eq_true rfl, Nat.le_of_ble_eq_true rfl⟩ rfl (cat_len (Nat.le_of_ble_eq_true rfl)) dX15_gainOf_84 ?_
  have hk_l0 := tk_ hts14.1 hk_l0
  show v_ l D cy ka cX15_gainOf RX15 4 (some FieldType.int) "gainOf" 2 47 (qf_ D cy σ0 z (some (.int r))) σ0 z _ 87 [(0, va_rf (some l0)), (1, .int l1)] [.int x13, .int ((t1 * t0) * x10)]
  obtain ⟨x15, s16, hcs16, hf⟩ := bd_of hf
  have hts16 := c_X15_bits (l := l) (D := D) (cy := cy) (ka := ka) hcs16
  refine v_callS (As := [.int x13]) (rest := [.int ((t1 * t0) * x10)]) hts16 yb_X15_bits kw_1794 kw_1795 rfl ⟨Nat.le_of_ble_eq_true rfl, Nat.le_of_ble_eq_true rfl⟩ rfl (cat_len (Nat.le_of_ble_eq_true rfl)) dX15_gainOf_87 ?_
  have hk_l0 := tk_ hts16.1 hk_l0
  show v_ l D cy ka cX15_gainOf RX15 4 (some FieldType.int) "gainOf" 2 47 (qf_ D cy σ0 z (some (.int r))) σ0 z _ 90 [(0, va_rf (some l0)), (1, .int l1)] [.int x15, .int ((t1 * t0) * x10)]
  refine v_imul dX15_gainOf_90 ?_
  exact v_iret hf dX15_gainOf_91
def f_X15_gainOf_b54 (σ : TH) (l0 : Nat) (l1 : Int32) (t0 : Int32) : Option (Int32 × TH) :=
  gt_ (kd_ σ l0 = 17) <| lt_ (fr_ σ 1616 l0) fun r5 => nn_ r5 fun a6 => gt_ (kd_ σ a6 = 22) <| gt_ (¬ (l1 < 0 ∨ ln_ σ a6 ≤ l1.toNatClampNeg)) <| lt_ (ai_ σ a6 l1.toNatClampNeg) fun x7 => if x7 = 0 then (f_X15_gainOf_b70 σ l0 l1 (1 : Int32) t0) else (f_X15_gainOf_b70 σ l0 l1 (5 : Int32) t0)
set_option maxHeartbeats 4000000 in
set_option maxRecDepth 100000 in
theorem t_X15_gainOf_b54 {l : Launch} {D : va_G} {cy : Nat → ClassId} {ka : Nat → Nat} {σ0 z : TH} {r : Int32}  {σ : TH} {l0 : Nat} {l1 : Int32} {t0 : Int32} (hf : f_X15_gainOf_b54 σ l0 l1 t0 = some (r, z)) : v_ l D cy ka cX15_gainOf RX15 4 (some FieldType.int) "gainOf" 2 47 (qf_ D cy σ0 z (some (.int r))) σ0 z σ 54 [(0, va_rf (some l0)), (1, .int l1)] [.int t0] := by
  unfold f_X15_gainOf_b54 at hf
  refine v_istore_n [(3, .int t0), (0, va_rf (some l0)), (1, .int l1)] dX15_gainOf_54 rfl (by decide) rfl ?_
  refine v_iload_n (x := t0) dX15_gainOf_55 rfl 0 rfl ?_
  refine v_aload_n (x := (some l0)) dX15_gainOf_56 rfl 1 rfl ?_
  obtain ⟨hk_l0, hf⟩ := gt_of hf
  refine v_getr cb_16 hk_l0 16 1616 rfl (by decide) rfl (lk_n kw_1473 rfl) hf dX15_gainOf_57 (fun r5 hf => ?_)
  refine v_iload_n (x := l1) dX15_gainOf_60 rfl 2 rfl ?_
  obtain ⟨a6, rfl, hf⟩ := nn_of hf
  obtain ⟨hk_a6, hf⟩ := gt_of hf
  refine v_zald hk_a6 hf dX15_gainOf_61 (fun x7 hf => ?_)
  refine v_if_eq (tgt := 69) hf dX15_gainOf_62 (by decide) (fun hq hf => ?_) (fun hq hf => ?_)
  · refine v_iconst (v := 1) dX15_gainOf_69 (by decide) ?_
    refine v_sub [1, 2] (L2 := [(0, va_rf (some l0)), (1, .int l1)]) rfl ?_
    exact t_X15_gainOf_b70  hf
  · refine v_iconst (v := 5) dX15_gainOf_65 (by decide) ?_
    refine v_goto (tgt := 70) dX15_gainOf_66 (by decide) ?_
    refine v_sub [1, 2] (L2 := [(0, va_rf (some l0)), (1, .int l1)]) rfl ?_
    exact t_X15_gainOf_b70  hf
/-- LivesAheadModel.gainOf(I)I -/
def f_X15_gainOf (σ : TH) (p0 : Nat) (p1 : Int32) : Option (Int32 × TH) :=
  gt_ (kd_ σ p0 = 17) <| bd_ (f_X15_today σ p0) fun x1 s2 => bd_ (f_X15_ageOn s2 p0 p1 x1) fun x3 s4 => if (40 : Int32) ≤ x3 then (if (60 : Int32) ≤ x3 then (if (75 : Int32) ≤ x3 then (if (85 : Int32) ≤ x3 then (f_X15_gainOf_b54 s4 p0 p1 (80 : Int32)) else (f_X15_gainOf_b54 s4 p0 p1 (30 : Int32))) else (f_X15_gainOf_b54 s4 p0 p1 (10 : Int32))) else (f_X15_gainOf_b54 s4 p0 p1 (3 : Int32))) else (f_X15_gainOf_b54 s4 p0 p1 (1 : Int32))
set_option maxHeartbeats 4000000 in
set_option maxRecDepth 100000 in
theorem c_X15_gainOf {l : Launch} {D : va_G} {cy : Nat → ClassId} {ka : Nat → Nat} {σ z : TH} {p0 : Nat} {p1 : Int32} {r : Int32} (hf : f_X15_gainOf σ p0 p1 = some (r, z)) : ct_ l D cy ka yX15_gainOf 2 47 [va_rf (some p0), .int p1] σ (some (.int r)) z := by
  unfold f_X15_gainOf at hf
  refine v_start (cc := cX15_gainOf) (own := RX15) (maxL := 4) (ret := (some FieldType.int)) (nm := "gainOf") (by decide +kernel) kw_2246 rfl rfl (by simp [lg_sl, va_rf_cat, cat_i, cat_l]) ?_
  refine v_eqL (L2 := [(0, va_rf (some p0)), (1, .int p1)]) (by simp [lv_args, va_rf_cat, cat_i, cat_l]) ?_
  refine v_aload_n (x := (some p0)) dX15_gainOf_0 rfl 0 rfl ?_
  refine v_iload_n (x := p1) dX15_gainOf_1 rfl 1 rfl ?_
  refine v_aload_n (x := (some p0)) dX15_gainOf_2 rfl 0 rfl ?_
  obtain ⟨hk_p0, hf⟩ := gt_of hf
  obtain ⟨x1, s2, hcs2, hf⟩ := bd_of hf
  have hts2 := c_X15_today (l := l) (D := D) (cy := cy) (ka := ka) hcs2
  refine v_callV cb_16 hk_p0 (As := []) (rest := [.int p1, va_rf (some p0)]) hts2 yb_X15_today kw_1774 kw_1776 kp_84 rfl ⟨Nat.le_of_ble_eq_true rfl, Nat.le_of_ble_eq_true rfl⟩ rfl (cat_len (Nat.le_of_ble_eq_true rfl)) dX15_gainOf_3 ?_
  have hk_p0 := tk_ hts2.1 hk_p0
  show v_ l D cy ka cX15_gainOf RX15 4 (some FieldType.int) "gainOf" 2 47 (qf_ D cy σ z (some (.int r))) σ z _ 6 [(0, va_rf (some p0)), (1, .int p1)] [.int x1, .int p1, va_rf (some p0)]
  obtain ⟨x3, s4, hcs4, hf⟩ := bd_of hf
  have hts4 := c_X15_ageOn (l := l) (D := D) (cy := cy) (ka := ka) hcs4
  refine v_callV cb_16 hk_p0 (As := [.int p1, .int x1]) (rest := []) hts4 yb_X15_ageOn kw_1778 kw_1780 kp_85 rfl ⟨Nat.le_of_ble_eq_true rfl, Nat.le_of_ble_eq_true rfl⟩ rfl (cat_len (Nat.le_of_ble_eq_true rfl)) dX15_gainOf_6 ?_
  have hk_p0 := tk_ hts4.1 hk_p0
  show v_ l D cy ka cX15_gainOf RX15 4 (some FieldType.int) "gainOf" 2 47 (qf_ D cy σ z (some (.int r))) σ z _ 9 [(0, va_rf (some p0)), (1, .int p1)] [.int x3]
  refine v_istore_n [(2, .int x3), (0, va_rf (some p0)), (1, .int p1)] dX15_gainOf_9 rfl (by decide) rfl ?_
  refine v_iload_n (x := x3) dX15_gainOf_10 rfl 0 rfl ?_
  refine v_bipush (v := 40) dX15_gainOf_11 (by decide) ?_
  refine v_icmp_ge (tgt := 20) hf dX15_gainOf_13 (by decide) (fun hq hf => ?_) (fun hq hf => ?_)
  · refine v_iload_n (x := x3) dX15_gainOf_20 rfl 0 rfl ?_
    refine v_bipush (v := 60) dX15_gainOf_21 (by decide) ?_
    refine v_icmp_ge (tgt := 30) hf dX15_gainOf_23 (by decide) (fun hq hf => ?_) (fun hq hf => ?_)
    · refine v_iload_n (x := x3) dX15_gainOf_30 rfl 0 rfl ?_
      refine v_bipush (v := 75) dX15_gainOf_31 (by decide) ?_
      refine v_icmp_ge (tgt := 41) hf dX15_gainOf_33 (by decide) (fun hq hf => ?_) (fun hq hf => ?_)
      · refine v_iload_n (x := x3) dX15_gainOf_41 rfl 0 rfl ?_
        refine v_bipush (v := 85) dX15_gainOf_42 (by decide) ?_
        refine v_icmp_ge (tgt := 52) hf dX15_gainOf_44 (by decide) (fun hq hf => ?_) (fun hq hf => ?_)
        · refine v_bipush (v := 80) dX15_gainOf_52 (by decide) ?_
          refine v_sub [1, 2] (L2 := [(0, va_rf (some p0)), (1, .int p1)]) rfl ?_
          exact t_X15_gainOf_b54  hf
        · refine v_bipush (v := 30) dX15_gainOf_47 (by decide) ?_
          refine v_goto (tgt := 54) dX15_gainOf_49 (by decide) ?_
          refine v_sub [1, 2] (L2 := [(0, va_rf (some p0)), (1, .int p1)]) rfl ?_
          exact t_X15_gainOf_b54  hf
      · refine v_bipush (v := 10) dX15_gainOf_36 (by decide) ?_
        refine v_goto (tgt := 54) dX15_gainOf_38 (by decide) ?_
        refine v_sub [1, 2] (L2 := [(0, va_rf (some p0)), (1, .int p1)]) rfl ?_
        exact t_X15_gainOf_b54  hf
    · refine v_iconst (v := 3) dX15_gainOf_26 (by decide) ?_
      refine v_goto (tgt := 54) dX15_gainOf_27 (by decide) ?_
      refine v_sub [1, 2] (L2 := [(0, va_rf (some p0)), (1, .int p1)]) rfl ?_
      exact t_X15_gainOf_b54  hf
  · refine v_iconst (v := 1) dX15_gainOf_16 (by decide) ?_
    refine v_goto (tgt := 54) dX15_gainOf_17 (by decide) ?_
    refine v_sub [1, 2] (L2 := [(0, va_rf (some p0)), (1, .int p1)]) rfl ?_
    exact t_X15_gainOf_b54  hf
theorem dX15_gains_0 : decode cX15_gains 0 = .ok (.aload_n 0, 1) := by decide +kernel
theorem dX15_gains_1 : decode cX15_gains 1 = .ok (.aload_n 0, 1) := by decide +kernel
theorem dX15_gains_2 : decode cX15_gains 2 = .ok (.getfield 179, 3) := by decide +kernel
theorem dX15_gains_5 : decode cX15_gains 5 = .ok (.iload_n 1, 1) := by decide +kernel
theorem dX15_gains_6 : decode cX15_gains 6 = .ok (.iaload, 1) := by decide +kernel
theorem dX15_gains_7 : decode cX15_gains 7 = .ok (.invokevirtual 606, 3) := by decide +kernel
theorem dX15_gains_10 : decode cX15_gains 10 = .ok (.ireturn, 1) := by decide +kernel
/-- LivesAheadModel.gains(I)I -/
def f_X15_gains (σ : TH) (p0 : Nat) (p1 : Int32) : Option (Int32 × TH) :=
  gt_ (kd_ σ p0 = 17) <| lt_ (fr_ σ 1683 p0) fun r1 => nn_ r1 fun a2 => gt_ (kd_ σ a2 = 20) <| gt_ (¬ (p1 < 0 ∨ ln_ σ a2 ≤ p1.toNatClampNeg)) <| lt_ (ai_ σ a2 p1.toNatClampNeg) fun x3 => bd_ (f_X15_gainOf σ p0 x3) fun x4 s5 => some (x4, s5)
set_option maxHeartbeats 4000000 in
set_option maxRecDepth 100000 in
theorem c_X15_gains {l : Launch} {D : va_G} {cy : Nat → ClassId} {ka : Nat → Nat} {σ z : TH} {p0 : Nat} {p1 : Int32} {r : Int32} (hf : f_X15_gains σ p0 p1 = some (r, z)) : ct_ l D cy ka yX15_gains 3 70 [va_rf (some p0), .int p1] σ (some (.int r)) z := by
  unfold f_X15_gains at hf
  refine v_start (cc := cX15_gains) (own := RX15) (maxL := 2) (ret := (some FieldType.int)) (nm := "gains") (by decide +kernel) kw_2250 rfl rfl (by simp [lg_sl, va_rf_cat, cat_i, cat_l]) ?_
  refine v_eqL (L2 := [(0, va_rf (some p0)), (1, .int p1)]) (by simp [lv_args, va_rf_cat, cat_i, cat_l]) ?_
  refine v_aload_n (x := (some p0)) dX15_gains_0 rfl 0 rfl ?_
  refine v_aload_n (x := (some p0)) dX15_gains_1 rfl 0 rfl ?_
  obtain ⟨hk_p0, hf⟩ := gt_of hf
  refine v_getr cb_16 hk_p0 83 1683 rfl (by decide) rfl (lk_n kw_1540 rfl) hf dX15_gains_2 (fun r1 hf => ?_)
  refine v_iload_n (x := p1) dX15_gains_5 rfl 1 rfl ?_
  obtain ⟨a2, rfl, hf⟩ := nn_of hf
  obtain ⟨hk_a2, hf⟩ := gt_of hf
  refine v_iald hk_a2 hf dX15_gains_6 (fun x3 hf => ?_)
  obtain ⟨x4, s5, hcs5, hf⟩ := bd_of hf
  have hts5 := c_X15_gainOf (l := l) (D := D) (cy := cy) (ka := ka) hcs5
  refine v_callV cb_16 hk_p0 (As := [.int x3]) (rest := []) hts5 yb_X15_gainOf kw_2243 kw_2245 kp_135 rfl ⟨Nat.le_of_ble_eq_true rfl, Nat.le_of_ble_eq_true rfl⟩ rfl (cat_len (Nat.le_of_ble_eq_true rfl)) dX15_gains_7 ?_
  have hk_p0 := tk_ hts5.1 hk_p0
  show v_ l D cy ka cX15_gains RX15 2 (some FieldType.int) "gains" 3 70 (qf_ D cy σ z (some (.int r))) σ z _ 10 [(0, va_rf (some p0)), (1, .int p1)] [.int x4]
  exact v_iret hf dX15_gains_10
theorem dX15_hoursOf_0 : decode cX15_hoursOf 0 = .ok (.iconst 1, 1) := by decide +kernel
theorem dX15_hoursOf_1 : decode cX15_hoursOf 1 = .ok (.aload_n 0, 1) := by decide +kernel
theorem dX15_hoursOf_2 : decode cX15_hoursOf 2 = .ok (.iload_n 1, 1) := by decide +kernel
theorem dX15_hoursOf_3 : decode cX15_hoursOf 3 = .ok (.aload_n 0, 1) := by decide +kernel
theorem dX15_hoursOf_4 : decode cX15_hoursOf 4 = .ok (.invokevirtual 230, 3) := by decide +kernel
theorem dX15_hoursOf_7 : decode cX15_hoursOf 7 = .ok (.invokevirtual 247, 3) := by decide +kernel
theorem dX15_hoursOf_10 : decode cX15_hoursOf 10 = .ok (.invokestatic 244, 3) := by decide +kernel
theorem dX15_hoursOf_13 : decode cX15_hoursOf 13 = .ok (.iconst 2, 1) := by decide +kernel
theorem dX15_hoursOf_14 : decode cX15_hoursOf 14 = .ok (.iadd, 1) := by decide +kernel
theorem dX15_hoursOf_15 : decode cX15_hoursOf 15 = .ok (.iconst 3, 1) := by decide +kernel
theorem dX15_hoursOf_16 : decode cX15_hoursOf 16 = .ok (.idiv, 1) := by decide +kernel
theorem dX15_hoursOf_17 : decode cX15_hoursOf 17 = .ok (.iadd, 1) := by decide +kernel
theorem dX15_hoursOf_18 : decode cX15_hoursOf 18 = .ok (.ireturn, 1) := by decide +kernel
/-- LivesAheadModel.hoursOf(I)I -/
def f_X15_hoursOf (σ : TH) (p0 : Nat) (p1 : Int32) : Option (Int32 × TH) :=
  gt_ (kd_ σ p0 = 17) <| bd_ (f_X15_today σ p0) fun x1 s2 => bd_ (f_X15_staleOf s2 p0 p1 x1) fun x3 s4 => bd_ (f_X15_bits s4 x3) fun x5 s6 => gt_ (¬ (3 : Int32) = 0) <| some ((1 : Int32) + ((x5 + (2 : Int32)) / (3 : Int32)), s6)
set_option maxHeartbeats 4000000 in
set_option maxRecDepth 100000 in
theorem c_X15_hoursOf {l : Launch} {D : va_G} {cy : Nat → ClassId} {ka : Nat → Nat} {σ z : TH} {p0 : Nat} {p1 : Int32} {r : Int32} (hf : f_X15_hoursOf σ p0 p1 = some (r, z)) : ct_ l D cy ka yX15_hoursOf 2 47 [va_rf (some p0), .int p1] σ (some (.int r)) z := by
  unfold f_X15_hoursOf at hf
  refine v_start (cc := cX15_hoursOf) (own := RX15) (maxL := 2) (ret := (some FieldType.int)) (nm := "hoursOf") (by decide +kernel) kw_2258 rfl rfl (by simp [lg_sl, va_rf_cat, cat_i, cat_l]) ?_
  refine v_eqL (L2 := [(0, va_rf (some p0)), (1, .int p1)]) (by simp [lv_args, va_rf_cat, cat_i, cat_l]) ?_
  refine v_iconst (v := 1) dX15_hoursOf_0 (by decide) ?_
  refine v_aload_n (x := (some p0)) dX15_hoursOf_1 rfl 0 rfl ?_
  refine v_iload_n (x := p1) dX15_hoursOf_2 rfl 1 rfl ?_
  refine v_aload_n (x := (some p0)) dX15_hoursOf_3 rfl 0 rfl ?_
  obtain ⟨hk_p0, hf⟩ := gt_of hf
  obtain ⟨x1, s2, hcs2, hf⟩ := bd_of hf
  have hts2 := c_X15_today (l := l) (D := D) (cy := cy) (ka := ka) hcs2
  refine v_callV cb_16 hk_p0 (As := []) (rest := [.int p1, va_rf (some p0), .int (1 : Int32)]) hts2 yb_X15_today kw_1774 kw_1776 kp_84 rfl ⟨Nat.le_of_ble_eq_true rfl, Nat.le_of_ble_eq_true rfl⟩ rfl (cat_len (Nat.le_of_ble_eq_true rfl)) dX15_hoursOf_4 ?_
  have hk_p0 := tk_ hts2.1 hk_p0
  show v_ l D cy ka cX15_hoursOf RX15 2 (some FieldType.int) "hoursOf" 2 47 (qf_ D cy σ z (some (.int r))) σ z _ 7 [(0, va_rf (some p0)), (1, .int p1)] [.int x1, .int p1, va_rf (some p0), .int (1 : Int32)]
  obtain ⟨x3, s4, hcs4, hf⟩ := bd_of hf
  have hts4 := c_X15_staleOf (l := l) (D := D) (cy := cy) (ka := ka) hcs4
  refine v_callV cb_16 hk_p0 (As := [.int p1, .int x1]) (rest := [.int (1 : Int32)]) hts4 yb_X15_staleOf kw_1797 kw_1799 kp_89 rfl ⟨Nat.le_of_ble_eq_true rfl, Nat.le_of_ble_eq_true rfl⟩ rfl (cat_len (Nat.le_of_ble_eq_true rfl)) dX15_hoursOf_7 ?_
  have hk_p0 := tk_ hts4.1 hk_p0
  show v_ l D cy ka cX15_hoursOf RX15 2 (some FieldType.int) "hoursOf" 2 47 (qf_ D cy σ z (some (.int r))) σ z _ 10 [(0, va_rf (some p0)), (1, .int p1)] [.int x3, .int (1 : Int32)]
  obtain ⟨x5, s6, hcs6, hf⟩ := bd_of hf
  have hts6 := c_X15_bits (l := l) (D := D) (cy := cy) (ka := ka) hcs6
  refine v_callS (As := [.int x3]) (rest := [.int (1 : Int32)]) hts6 yb_X15_bits kw_1794 kw_1795 rfl ⟨Nat.le_of_ble_eq_true rfl, Nat.le_of_ble_eq_true rfl⟩ rfl (cat_len (Nat.le_of_ble_eq_true rfl)) dX15_hoursOf_10 ?_
  have hk_p0 := tk_ hts6.1 hk_p0
  show v_ l D cy ka cX15_hoursOf RX15 2 (some FieldType.int) "hoursOf" 2 47 (qf_ D cy σ z (some (.int r))) σ z _ 13 [(0, va_rf (some p0)), (1, .int p1)] [.int x5, .int (1 : Int32)]
  refine v_iconst (v := 2) dX15_hoursOf_13 (by decide) ?_
  refine v_iadd dX15_hoursOf_14 ?_
  refine v_iconst (v := 3) dX15_hoursOf_15 (by decide) ?_
  refine v_idiv hf dX15_hoursOf_16 (fun hf => ?_)
  refine v_iadd dX15_hoursOf_17 ?_
  exact v_iret hf dX15_hoursOf_18
theorem dX15_times_0 : decode cX15_times 0 = .ok (.aload_n 0, 1) := by decide +kernel
theorem dX15_times_1 : decode cX15_times 1 = .ok (.aload_n 0, 1) := by decide +kernel
theorem dX15_times_2 : decode cX15_times 2 = .ok (.getfield 179, 3) := by decide +kernel
theorem dX15_times_5 : decode cX15_times 5 = .ok (.iload_n 1, 1) := by decide +kernel
theorem dX15_times_6 : decode cX15_times 6 = .ok (.iaload, 1) := by decide +kernel
theorem dX15_times_7 : decode cX15_times 7 = .ok (.invokevirtual 618, 3) := by decide +kernel
theorem dX15_times_10 : decode cX15_times 10 = .ok (.ireturn, 1) := by decide +kernel
/-- LivesAheadModel.times(I)I -/
def f_X15_times (σ : TH) (p0 : Nat) (p1 : Int32) : Option (Int32 × TH) :=
  gt_ (kd_ σ p0 = 17) <| lt_ (fr_ σ 1683 p0) fun r1 => nn_ r1 fun a2 => gt_ (kd_ σ a2 = 20) <| gt_ (¬ (p1 < 0 ∨ ln_ σ a2 ≤ p1.toNatClampNeg)) <| lt_ (ai_ σ a2 p1.toNatClampNeg) fun x3 => bd_ (f_X15_hoursOf σ p0 x3) fun x4 s5 => some (x4, s5)
set_option maxHeartbeats 4000000 in
set_option maxRecDepth 100000 in
theorem c_X15_times {l : Launch} {D : va_G} {cy : Nat → ClassId} {ka : Nat → Nat} {σ z : TH} {p0 : Nat} {p1 : Int32} {r : Int32} (hf : f_X15_times σ p0 p1 = some (r, z)) : ct_ l D cy ka yX15_times 3 68 [va_rf (some p0), .int p1] σ (some (.int r)) z := by
  unfold f_X15_times at hf
  refine v_start (cc := cX15_times) (own := RX15) (maxL := 2) (ret := (some FieldType.int)) (nm := "times") (by decide +kernel) kw_2254 rfl rfl (by simp [lg_sl, va_rf_cat, cat_i, cat_l]) ?_
  refine v_eqL (L2 := [(0, va_rf (some p0)), (1, .int p1)]) (by simp [lv_args, va_rf_cat, cat_i, cat_l]) ?_
  refine v_aload_n (x := (some p0)) dX15_times_0 rfl 0 rfl ?_
  refine v_aload_n (x := (some p0)) dX15_times_1 rfl 0 rfl ?_
  obtain ⟨hk_p0, hf⟩ := gt_of hf
  refine v_getr cb_16 hk_p0 83 1683 rfl (by decide) rfl (lk_n kw_1540 rfl) hf dX15_times_2 (fun r1 hf => ?_)
  refine v_iload_n (x := p1) dX15_times_5 rfl 1 rfl ?_
  obtain ⟨a2, rfl, hf⟩ := nn_of hf
  obtain ⟨hk_a2, hf⟩ := gt_of hf
  refine v_iald hk_a2 hf dX15_times_6 (fun x3 hf => ?_)
  obtain ⟨x4, s5, hcs5, hf⟩ := bd_of hf
  have hts5 := c_X15_hoursOf (l := l) (D := D) (cy := cy) (ka := ka) hcs5
  refine v_callV cb_16 hk_p0 (As := [.int x3]) (rest := []) hts5 yb_X15_hoursOf kw_2255 kw_2257 kp_138 rfl ⟨Nat.le_of_ble_eq_true rfl, Nat.le_of_ble_eq_true rfl⟩ rfl (cat_len (Nat.le_of_ble_eq_true rfl)) dX15_times_7 ?_
  have hk_p0 := tk_ hts5.1 hk_p0
  show v_ l D cy ka cX15_times RX15 2 (some FieldType.int) "times" 3 68 (qf_ D cy σ z (some (.int r))) σ z _ 10 [(0, va_rf (some p0)), (1, .int p1)] [.int x4]
  exact v_iret hf dX15_times_10
theorem dX15_week_0 : decode cX15_week 0 = .ok (.aload_n 0, 1) := by decide +kernel
theorem dX15_week_1 : decode cX15_week 1 = .ok (.iconst 0, 1) := by decide +kernel
theorem dX15_week_2 : decode cX15_week 2 = .ok (.putfield 1, 3) := by decide +kernel
theorem dX15_week_5 : decode cX15_week 5 = .ok (.aload_n 0, 1) := by decide +kernel
theorem dX15_week_6 : decode cX15_week 6 = .ok (.iload_n 1, 1) := by decide +kernel
theorem dX15_week_7 : decode cX15_week 7 = .ok (.invokevirtual 208, 3) := by decide +kernel
theorem dX15_week_10 : decode cX15_week 10 = .ok (.ifCond .ne 9, 3) := by decide +kernel
theorem dX15_week_13 : decode cX15_week 13 = .ok (.aload_n 0, 1) := by decide +kernel
theorem dX15_week_14 : decode cX15_week 14 = .ok (.iconst 1, 1) := by decide +kernel
theorem dX15_week_15 : decode cX15_week 15 = .ok (.invokevirtual 201, 3) := by decide +kernel
theorem dX15_week_18 : decode cX15_week 18 = .ok (.ireturn, 1) := by decide +kernel
theorem dX15_week_19 : decode cX15_week 19 = .ok (.aload_n 0, 1) := by decide +kernel
theorem dX15_week_20 : decode cX15_week 20 = .ok (.iconst 0, 1) := by decide +kernel
theorem dX15_week_21 : decode cX15_week 21 = .ok (.putfield 603, 3) := by decide +kernel
theorem dX15_week_24 : decode cX15_week 24 = .ok (.iconst 0, 1) := by decide +kernel
theorem dX15_week_25 : decode cX15_week 25 = .ok (.istore_n 2, 1) := by decide +kernel
theorem dX15_week_26 : decode cX15_week 26 = .ok (.iload_n 2, 1) := by decide +kernel
theorem dX15_week_27 : decode cX15_week 27 = .ok (.aload_n 0, 1) := by decide +kernel
theorem dX15_week_28 : decode cX15_week 28 = .ok (.getfield 191, 3) := by decide +kernel
theorem dX15_week_31 : decode cX15_week 31 = .ok (.if_icmp .ge 171, 3) := by decide +kernel
theorem dX15_week_34 : decode cX15_week 34 = .ok (.aload_n 0, 1) := by decide +kernel
theorem dX15_week_35 : decode cX15_week 35 = .ok (.getfield 32, 3) := by decide +kernel
theorem dX15_week_38 : decode cX15_week 38 = .ok (.iload_n 2, 1) := by decide +kernel
theorem dX15_week_39 : decode cX15_week 39 = .ok (.iaload, 1) := by decide +kernel
theorem dX15_week_40 : decode cX15_week 40 = .ok (.iload_n 1, 1) := by decide +kernel
theorem dX15_week_41 : decode cX15_week 41 = .ok (.if_icmp .ne 155, 3) := by decide +kernel
theorem dX15_week_44 : decode cX15_week 44 = .ok (.aload_n 0, 1) := by decide +kernel
theorem dX15_week_45 : decode cX15_week 45 = .ok (.getfield 45, 3) := by decide +kernel
theorem dX15_week_48 : decode cX15_week 48 = .ok (.iload_n 2, 1) := by decide +kernel
theorem dX15_week_49 : decode cX15_week 49 = .ok (.baload, 1) := by decide +kernel
theorem dX15_week_50 : decode cX15_week 50 = .ok (.ifCond .ne 146, 3) := by decide +kernel
theorem dX15_week_53 : decode cX15_week 53 = .ok (.aload_n 0, 1) := by decide +kernel
theorem dX15_week_54 : decode cX15_week 54 = .ok (.iload_n 2, 1) := by decide +kernel
theorem dX15_week_55 : decode cX15_week 55 = .ok (.aload_n 0, 1) := by decide +kernel
theorem dX15_week_56 : decode cX15_week 56 = .ok (.invokevirtual 230, 3) := by decide +kernel
theorem dX15_week_59 : decode cX15_week 59 = .ok (.invokevirtual 247, 3) := by decide +kernel
theorem dX15_week_62 : decode cX15_week 62 = .ok (.ifCond .ne 6, 3) := by decide +kernel
theorem dX15_week_65 : decode cX15_week 65 = .ok (.goto 131, 3) := by decide +kernel
theorem dX15_week_68 : decode cX15_week 68 = .ok (.iconst 0, 1) := by decide +kernel
theorem dX15_week_69 : decode cX15_week 69 = .ok (.istore_n 3, 1) := by decide +kernel
theorem dX15_week_70 : decode cX15_week 70 = .ok (.iconst 0, 1) := by decide +kernel
theorem dX15_week_71 : decode cX15_week 71 = .ok (.istore 4, 2) := by decide +kernel
theorem dX15_week_73 : decode cX15_week 73 = .ok (.iload 4, 2) := by decide +kernel
theorem dX15_week_75 : decode cX15_week 75 = .ok (.aload_n 0, 1) := by decide +kernel
theorem dX15_week_76 : decode cX15_week 76 = .ok (.getfield 191, 3) := by decide +kernel
theorem dX15_week_79 : decode cX15_week 79 = .ok (.if_icmp .ge 88, 3) := by decide +kernel
theorem dX15_week_82 : decode cX15_week 82 = .ok (.aload_n 0, 1) := by decide +kernel
theorem dX15_week_83 : decode cX15_week 83 = .ok (.getfield 32, 3) := by decide +kernel
theorem dX15_week_86 : decode cX15_week 86 = .ok (.iload 4, 2) := by decide +kernel
theorem dX15_week_88 : decode cX15_week 88 = .ok (.iaload, 1) := by decide +kernel
theorem dX15_week_89 : decode cX15_week 89 = .ok (.iload_n 1, 1) := by decide +kernel
theorem dX15_week_90 : decode cX15_week 90 = .ok (.if_icmp .ne 71, 3) := by decide +kernel
theorem dX15_week_93 : decode cX15_week 93 = .ok (.aload_n 0, 1) := by decide +kernel
theorem dX15_week_94 : decode cX15_week 94 = .ok (.getfield 45, 3) := by decide +kernel
theorem dX15_week_97 : decode cX15_week 97 = .ok (.iload 4, 2) := by decide +kernel
theorem dX15_week_99 : decode cX15_week 99 = .ok (.baload, 1) := by decide +kernel
theorem dX15_week_100 : decode cX15_week 100 = .ok (.ifCond .ne 61, 3) := by decide +kernel
theorem dX15_week_103 : decode cX15_week 103 = .ok (.aload_n 0, 1) := by decide +kernel
theorem dX15_week_104 : decode cX15_week 104 = .ok (.iload 4, 2) := by decide +kernel
theorem dX15_week_106 : decode cX15_week 106 = .ok (.aload_n 0, 1) := by decide +kernel
theorem dX15_week_107 : decode cX15_week 107 = .ok (.invokevirtual 230, 3) := by decide +kernel
theorem dX15_week_110 : decode cX15_week 110 = .ok (.invokevirtual 247, 3) := by decide +kernel
theorem dX15_week_113 : decode cX15_week 113 = .ok (.ifCond .ne 6, 3) := by decide +kernel
theorem dX15_week_116 : decode cX15_week 116 = .ok (.goto 45, 3) := by decide +kernel
theorem dX15_week_119 : decode cX15_week 119 = .ok (.iload_n 3, 1) := by decide +kernel
theorem dX15_week_120 : decode cX15_week 120 = .ok (.aload_n 0, 1) := by decide +kernel
theorem dX15_week_121 : decode cX15_week 121 = .ok (.iload 4, 2) := by decide +kernel
theorem dX15_week_123 : decode cX15_week 123 = .ok (.invokevirtual 606, 3) := by decide +kernel
theorem dX15_week_126 : decode cX15_week 126 = .ok (.aload_n 0, 1) := by decide +kernel
theorem dX15_week_127 : decode cX15_week 127 = .ok (.iload_n 2, 1) := by decide +kernel
theorem dX15_week_128 : decode cX15_week 128 = .ok (.invokevirtual 606, 3) := by decide +kernel
theorem dX15_week_131 : decode cX15_week 131 = .ok (.if_icmp .gt 23, 3) := by decide +kernel
theorem dX15_week_134 : decode cX15_week 134 = .ok (.aload_n 0, 1) := by decide +kernel
theorem dX15_week_135 : decode cX15_week 135 = .ok (.iload 4, 2) := by decide +kernel
theorem dX15_week_137 : decode cX15_week 137 = .ok (.invokevirtual 606, 3) := by decide +kernel
theorem dX15_week_140 : decode cX15_week 140 = .ok (.aload_n 0, 1) := by decide +kernel
theorem dX15_week_141 : decode cX15_week 141 = .ok (.iload_n 2, 1) := by decide +kernel
theorem dX15_week_142 : decode cX15_week 142 = .ok (.invokevirtual 606, 3) := by decide +kernel
theorem dX15_week_145 : decode cX15_week 145 = .ok (.if_icmp .ne 13, 3) := by decide +kernel
theorem dX15_week_148 : decode cX15_week 148 = .ok (.iload 4, 2) := by decide +kernel
theorem dX15_week_150 : decode cX15_week 150 = .ok (.iload_n 2, 1) := by decide +kernel
theorem dX15_week_151 : decode cX15_week 151 = .ok (.if_icmp .ge 7, 3) := by decide +kernel
theorem dX15_week_154 : decode cX15_week 154 = .ok (.iconst 1, 1) := by decide +kernel
theorem dX15_week_155 : decode cX15_week 155 = .ok (.goto 4, 3) := by decide +kernel
theorem dX15_week_158 : decode cX15_week 158 = .ok (.iconst 0, 1) := by decide +kernel
theorem dX15_week_159 : decode cX15_week 159 = .ok (.iadd, 1) := by decide +kernel
theorem dX15_week_160 : decode cX15_week 160 = .ok (.istore_n 3, 1) := by decide +kernel
theorem dX15_week_161 : decode cX15_week 161 = .ok (.iinc 4 1, 3) := by decide +kernel
theorem dX15_week_164 : decode cX15_week 164 = .ok (.goto (-91), 3) := by decide +kernel
theorem dX15_week_167 : decode cX15_week 167 = .ok (.iload_n 3, 1) := by decide +kernel
theorem dX15_week_168 : decode cX15_week 168 = .ok (.bipush 12, 2) := by decide +kernel
theorem dX15_week_170 : decode cX15_week 170 = .ok (.if_icmp .lt 6, 3) := by decide +kernel
theorem dX15_week_173 : decode cX15_week 173 = .ok (.goto 23, 3) := by decide +kernel
theorem dX15_week_176 : decode cX15_week 176 = .ok (.aload_n 0, 1) := by decide +kernel
theorem dX15_week_177 : decode cX15_week 177 = .ok (.getfield 179, 3) := by decide +kernel
theorem dX15_week_180 : decode cX15_week 180 = .ok (.aload_n 0, 1) := by decide +kernel
theorem dX15_week_181 : decode cX15_week 181 = .ok (.getfield 603, 3) := by decide +kernel
theorem dX15_week_184 : decode cX15_week 184 = .ok (.iload_n 2, 1) := by decide +kernel
theorem dX15_week_185 : decode cX15_week 185 = .ok (.iastore, 1) := by decide +kernel
theorem dX15_week_186 : decode cX15_week 186 = .ok (.aload_n 0, 1) := by decide +kernel
theorem dX15_week_187 : decode cX15_week 187 = .ok (.dup, 1) := by decide +kernel
theorem dX15_week_188 : decode cX15_week 188 = .ok (.getfield 603, 3) := by decide +kernel
theorem dX15_week_191 : decode cX15_week 191 = .ok (.iconst 1, 1) := by decide +kernel
theorem dX15_week_192 : decode cX15_week 192 = .ok (.iadd, 1) := by decide +kernel
theorem dX15_week_193 : decode cX15_week 193 = .ok (.putfield 603, 3) := by decide +kernel
theorem dX15_week_196 : decode cX15_week 196 = .ok (.iinc 2 1, 3) := by decide +kernel
theorem dX15_week_199 : decode cX15_week 199 = .ok (.goto (-173), 3) := by decide +kernel
theorem dX15_week_202 : decode cX15_week 202 = .ok (.iconst 0, 1) := by decide +kernel
theorem dX15_week_203 : decode cX15_week 203 = .ok (.istore_n 2, 1) := by decide +kernel
theorem dX15_week_204 : decode cX15_week 204 = .ok (.iconst 0, 1) := by decide +kernel
theorem dX15_week_205 : decode cX15_week 205 = .ok (.istore_n 3, 1) := by decide +kernel
theorem dX15_week_206 : decode cX15_week 206 = .ok (.iconst 0, 1) := by decide +kernel
theorem dX15_week_207 : decode cX15_week 207 = .ok (.istore 4, 2) := by decide +kernel
theorem dX15_week_209 : decode cX15_week 209 = .ok (.iconst 1, 1) := by decide +kernel
theorem dX15_week_210 : decode cX15_week 210 = .ok (.istore 5, 2) := by decide +kernel
theorem dX15_week_212 : decode cX15_week 212 = .ok (.iload 5, 2) := by decide +kernel
theorem dX15_week_214 : decode cX15_week 214 = .ok (.iconst 1, 1) := by decide +kernel
theorem dX15_week_215 : decode cX15_week 215 = .ok (.aload_n 0, 1) := by decide +kernel
theorem dX15_week_216 : decode cX15_week 216 = .ok (.getfield 603, 3) := by decide +kernel
theorem dX15_week_219 : decode cX15_week 219 = .ok (.ishl, 1) := by decide +kernel
theorem dX15_week_220 : decode cX15_week 220 = .ok (.if_icmp .ge 148, 3) := by decide +kernel
theorem dX15_week_223 : decode cX15_week 223 = .ok (.iconst 0, 1) := by decide +kernel
theorem dX15_week_224 : decode cX15_week 224 = .ok (.istore 6, 2) := by decide +kernel
theorem dX15_week_226 : decode cX15_week 226 = .ok (.iconst 0, 1) := by decide +kernel
theorem dX15_week_227 : decode cX15_week 227 = .ok (.istore 7, 2) := by decide +kernel
theorem dX15_week_229 : decode cX15_week 229 = .ok (.iconst 0, 1) := by decide +kernel
theorem dX15_week_230 : decode cX15_week 230 = .ok (.istore 8, 2) := by decide +kernel
theorem dX15_week_232 : decode cX15_week 232 = .ok (.iload 8, 2) := by decide +kernel
theorem dX15_week_234 : decode cX15_week 234 = .ok (.aload_n 0, 1) := by decide +kernel
theorem dX15_week_235 : decode cX15_week 235 = .ok (.getfield 603, 3) := by decide +kernel
theorem dX15_week_238 : decode cX15_week 238 = .ok (.if_icmp .ge 44, 3) := by decide +kernel
theorem dX15_week_241 : decode cX15_week 241 = .ok (.iload 5, 2) := by decide +kernel
theorem dX15_week_243 : decode cX15_week 243 = .ok (.iload 8, 2) := by decide +kernel
theorem dX15_week_245 : decode cX15_week 245 = .ok (.ishr, 1) := by decide +kernel
theorem dX15_week_246 : decode cX15_week 246 = .ok (.iconst 1, 1) := by decide +kernel
theorem dX15_week_247 : decode cX15_week 247 = .ok (.iand, 1) := by decide +kernel
theorem dX15_week_248 : decode cX15_week 248 = .ok (.ifCond .ne 6, 3) := by decide +kernel
theorem dX15_week_251 : decode cX15_week 251 = .ok (.goto 25, 3) := by decide +kernel
theorem dX15_week_254 : decode cX15_week 254 = .ok (.iload 6, 2) := by decide +kernel
theorem dX15_week_256 : decode cX15_week 256 = .ok (.aload_n 0, 1) := by decide +kernel
theorem dX15_week_257 : decode cX15_week 257 = .ok (.iload 8, 2) := by decide +kernel
theorem dX15_week_259 : decode cX15_week 259 = .ok (.invokevirtual 609, 3) := by decide +kernel
theorem dX15_week_262 : decode cX15_week 262 = .ok (.iadd, 1) := by decide +kernel
theorem dX15_week_263 : decode cX15_week 263 = .ok (.istore 6, 2) := by decide +kernel
theorem dX15_week_265 : decode cX15_week 265 = .ok (.iload 7, 2) := by decide +kernel
theorem dX15_week_267 : decode cX15_week 267 = .ok (.aload_n 0, 1) := by decide +kernel
theorem dX15_week_268 : decode cX15_week 268 = .ok (.iload 8, 2) := by decide +kernel
theorem dX15_week_270 : decode cX15_week 270 = .ok (.invokevirtual 612, 3) := by decide +kernel
theorem dX15_week_273 : decode cX15_week 273 = .ok (.iadd, 1) := by decide +kernel
theorem dX15_week_274 : decode cX15_week 274 = .ok (.istore 7, 2) := by decide +kernel
theorem dX15_week_276 : decode cX15_week 276 = .ok (.iinc 8 1, 3) := by decide +kernel
theorem dX15_week_279 : decode cX15_week 279 = .ok (.goto (-47), 3) := by decide +kernel
theorem dX15_week_282 : decode cX15_week 282 = .ok (.iload 5, 2) := by decide +kernel
theorem dX15_week_284 : decode cX15_week 284 = .ok (.iload_n 2, 1) := by decide +kernel
theorem dX15_week_285 : decode cX15_week 285 = .ok (.ixor, 1) := by decide +kernel
theorem dX15_week_286 : decode cX15_week 286 = .ok (.istore 8, 2) := by decide +kernel
theorem dX15_week_288 : decode cX15_week 288 = .ok (.iload 6, 2) := by decide +kernel
theorem dX15_week_290 : decode cX15_week 290 = .ok (.iload_n 3, 1) := by decide +kernel
theorem dX15_week_291 : decode cX15_week 291 = .ok (.if_icmp .gt 35, 3) := by decide +kernel
theorem dX15_week_294 : decode cX15_week 294 = .ok (.iload 6, 2) := by decide +kernel
theorem dX15_week_296 : decode cX15_week 296 = .ok (.iload_n 3, 1) := by decide +kernel
theorem dX15_week_297 : decode cX15_week 297 = .ok (.if_icmp .ne 33, 3) := by decide +kernel
theorem dX15_week_300 : decode cX15_week 300 = .ok (.iload 7, 2) := by decide +kernel
theorem dX15_week_302 : decode cX15_week 302 = .ok (.iload 4, 2) := by decide +kernel
theorem dX15_week_304 : decode cX15_week 304 = .ok (.if_icmp .lt 22, 3) := by decide +kernel
theorem dX15_week_307 : decode cX15_week 307 = .ok (.iload 7, 2) := by decide +kernel
theorem dX15_week_309 : decode cX15_week 309 = .ok (.iload 4, 2) := by decide +kernel
theorem dX15_week_311 : decode cX15_week 311 = .ok (.if_icmp .ne 19, 3) := by decide +kernel
theorem dX15_week_314 : decode cX15_week 314 = .ok (.iload 8, 2) := by decide +kernel
theorem dX15_week_316 : decode cX15_week 316 = .ok (.iload 8, 2) := by decide +kernel
theorem dX15_week_318 : decode cX15_week 318 = .ok (.ineg, 1) := by decide +kernel
theorem dX15_week_319 : decode cX15_week 319 = .ok (.iand, 1) := by decide +kernel
theorem dX15_week_320 : decode cX15_week 320 = .ok (.iload 5, 2) := by decide +kernel
theorem dX15_week_322 : decode cX15_week 322 = .ok (.iand, 1) := by decide +kernel
theorem dX15_week_323 : decode cX15_week 323 = .ok (.ifCond .eq 7, 3) := by decide +kernel
theorem dX15_week_326 : decode cX15_week 326 = .ok (.iconst 1, 1) := by decide +kernel
theorem dX15_week_327 : decode cX15_week 327 = .ok (.goto 4, 3) := by decide +kernel
theorem dX15_week_330 : decode cX15_week 330 = .ok (.iconst 0, 1) := by decide +kernel
theorem dX15_week_331 : decode cX15_week 331 = .ok (.istore 9, 2) := by decide +kernel
theorem dX15_week_333 : decode cX15_week 333 = .ok (.iload 7, 2) := by decide +kernel
theorem dX15_week_335 : decode cX15_week 335 = .ok (.aload_n 0, 1) := by decide +kernel
theorem dX15_week_336 : decode cX15_week 336 = .ok (.getfield 19, 3) := by decide +kernel
theorem dX15_week_339 : decode cX15_week 339 = .ok (.iload_n 1, 1) := by decide +kernel
theorem dX15_week_340 : decode cX15_week 340 = .ok (.iaload, 1) := by decide +kernel
theorem dX15_week_341 : decode cX15_week 341 = .ok (.if_icmp .gt 21, 3) := by decide +kernel
theorem dX15_week_344 : decode cX15_week 344 = .ok (.iload 9, 2) := by decide +kernel
theorem dX15_week_346 : decode cX15_week 346 = .ok (.ifCond .ne 6, 3) := by decide +kernel
theorem dX15_week_349 : decode cX15_week 349 = .ok (.goto 13, 3) := by decide +kernel
theorem dX15_week_352 : decode cX15_week 352 = .ok (.iload 5, 2) := by decide +kernel
theorem dX15_week_354 : decode cX15_week 354 = .ok (.istore_n 2, 1) := by decide +kernel
theorem dX15_week_355 : decode cX15_week 355 = .ok (.iload 6, 2) := by decide +kernel
theorem dX15_week_357 : decode cX15_week 357 = .ok (.istore_n 3, 1) := by decide +kernel
theorem dX15_week_358 : decode cX15_week 358 = .ok (.iload 7, 2) := by decide +kernel
theorem dX15_week_360 : decode cX15_week 360 = .ok (.istore 4, 2) := by decide +kernel
theorem dX15_week_362 : decode cX15_week 362 = .ok (.iinc 5 1, 3) := by decide +kernel
theorem dX15_week_365 : decode cX15_week 365 = .ok (.goto (-153), 3) := by decide +kernel
theorem dX15_week_368 : decode cX15_week 368 = .ok (.aload_n 0, 1) := by decide +kernel
theorem dX15_week_369 : decode cX15_week 369 = .ok (.iconst 0, 1) := by decide +kernel
theorem dX15_week_370 : decode cX15_week 370 = .ok (.putfield 615, 3) := by decide +kernel
theorem dX15_week_373 : decode cX15_week 373 = .ok (.iconst 0, 1) := by decide +kernel
theorem dX15_week_374 : decode cX15_week 374 = .ok (.istore 5, 2) := by decide +kernel
theorem dX15_week_376 : decode cX15_week 376 = .ok (.iload 5, 2) := by decide +kernel
theorem dX15_week_378 : decode cX15_week 378 = .ok (.aload_n 0, 1) := by decide +kernel
theorem dX15_week_379 : decode cX15_week 379 = .ok (.getfield 603, 3) := by decide +kernel
theorem dX15_week_382 : decode cX15_week 382 = .ok (.if_icmp .ge 47, 3) := by decide +kernel
theorem dX15_week_385 : decode cX15_week 385 = .ok (.iload_n 2, 1) := by decide +kernel
theorem dX15_week_386 : decode cX15_week 386 = .ok (.iload 5, 2) := by decide +kernel
theorem dX15_week_388 : decode cX15_week 388 = .ok (.ishr, 1) := by decide +kernel
theorem dX15_week_389 : decode cX15_week 389 = .ok (.iconst 1, 1) := by decide +kernel
theorem dX15_week_390 : decode cX15_week 390 = .ok (.iand, 1) := by decide +kernel
theorem dX15_week_391 : decode cX15_week 391 = .ok (.ifCond .ne 6, 3) := by decide +kernel
theorem dX15_week_394 : decode cX15_week 394 = .ok (.goto 29, 3) := by decide +kernel
theorem dX15_week_397 : decode cX15_week 397 = .ok (.aload_n 0, 1) := by decide +kernel
theorem dX15_week_398 : decode cX15_week 398 = .ok (.getfield 182, 3) := by decide +kernel
theorem dX15_week_401 : decode cX15_week 401 = .ok (.aload_n 0, 1) := by decide +kernel
theorem dX15_week_402 : decode cX15_week 402 = .ok (.getfield 615, 3) := by decide +kernel
theorem dX15_week_405 : decode cX15_week 405 = .ok (.aload_n 0, 1) := by decide +kernel
theorem dX15_week_406 : decode cX15_week 406 = .ok (.getfield 179, 3) := by decide +kernel
theorem dX15_week_409 : decode cX15_week 409 = .ok (.iload 5, 2) := by decide +kernel
theorem dX15_week_411 : decode cX15_week 411 = .ok (.iaload, 1) := by decide +kernel
theorem dX15_week_412 : decode cX15_week 412 = .ok (.iastore, 1) := by decide +kernel
theorem dX15_week_413 : decode cX15_week 413 = .ok (.aload_n 0, 1) := by decide +kernel
theorem dX15_week_414 : decode cX15_week 414 = .ok (.dup, 1) := by decide +kernel
theorem dX15_week_415 : decode cX15_week 415 = .ok (.getfield 615, 3) := by decide +kernel
theorem dX15_week_418 : decode cX15_week 418 = .ok (.iconst 1, 1) := by decide +kernel
theorem dX15_week_419 : decode cX15_week 419 = .ok (.iadd, 1) := by decide +kernel
theorem dX15_week_420 : decode cX15_week 420 = .ok (.putfield 615, 3) := by decide +kernel
theorem dX15_week_423 : decode cX15_week 423 = .ok (.iinc 5 1, 3) := by decide +kernel
theorem dX15_week_426 : decode cX15_week 426 = .ok (.goto (-50), 3) := by decide +kernel
theorem dX15_week_429 : decode cX15_week 429 = .ok (.aload_n 0, 1) := by decide +kernel
theorem dX15_week_430 : decode cX15_week 430 = .ok (.iload 4, 2) := by decide +kernel
theorem dX15_week_432 : decode cX15_week 432 = .ok (.putfield 185, 3) := by decide +kernel
theorem dX15_week_435 : decode cX15_week 435 = .ok (.aload_n 0, 1) := by decide +kernel
theorem dX15_week_436 : decode cX15_week 436 = .ok (.iload_n 3, 1) := by decide +kernel
theorem dX15_week_437 : decode cX15_week 437 = .ok (.invokevirtual 205, 3) := by decide +kernel
theorem dX15_week_440 : decode cX15_week 440 = .ok (.ireturn, 1) := by decide +kernel
def f_X15_week_b423 (rec_376 : TH → Nat → Int32 → Int32 → Int32 → Int32 → Option (Int32 × TH)) (σ : TH) (l0 : Nat) (l2 : Int32) (l3 : Int32) (l4 : Int32) (l5 : Int32) : Option (Int32 × TH) :=
  lt_ (l5 + 1) fun x14 => rec_376 σ l0 l2 l3 l4 x14
set_option maxHeartbeats 4000000 in
set_option maxRecDepth 100000 in
theorem t_X15_week_b423 {l : Launch} {D : va_G} {cy : Nat → ClassId} {ka : Nat → Nat} {σ0 z : TH} {r : Int32} {rec_376 : TH → Nat → Int32 → Int32 → Int32 → Int32 → Option (Int32 × TH)} (hrec_376 : ∀ (σ : TH) (l0 : Nat) (l2 : Int32) (l3 : Int32) (l4 : Int32) (l5 : Int32), rec_376 σ l0 l2 l3 l4 l5 = some (r, z) → v_ l D cy ka cX15_week RX15 10 (some FieldType.int) "week" 4 91 (qf_ D cy σ0 z (some (.int r))) σ0 z σ 376 [(0, va_rf (some l0)), (2, .int l2), (3, .int l3), (4, .int l4), (5, .int l5)] []) {σ : TH} {l0 : Nat} {l2 : Int32} {l3 : Int32} {l4 : Int32} {l5 : Int32} (hf : f_X15_week_b423 rec_376 σ l0 l2 l3 l4 l5 = some (r, z)) : v_ l D cy ka cX15_week RX15 10 (some FieldType.int) "week" 4 91 (qf_ D cy σ0 z (some (.int r))) σ0 z σ 423 [(0, va_rf (some l0)), (2, .int l2), (3, .int l3), (4, .int l4), (5, .int l5)] [] := by
  unfold f_X15_week_b423 at hf
  obtain ⟨x14, ex14⟩ : ∃ y : Int32, y = l5 + 1 := ⟨_, rfl⟩
  rw [lt_e, ← ex14] at hf
  refine v_iinc (v := x14) [(5, .int x14), (0, va_rf (some l0)), (2, .int l2), (3, .int l3), (4, .int l4)] dX15_week_423 4 rfl (by rw [ex14]; rfl) (by decide) rfl ?_
  refine v_goto (tgt := 376) dX15_week_426 (by decide) ?_
  refine v_sub [1, 2, 3, 4, 0] (L2 := [(0, va_rf (some l0)), (2, .int l2), (3, .int l3), (4, .int l4), (5, .int x14)]) rfl ?_
  exact hrec_376 _ _ _ _ _ _ hf
def f_X15_week_b376 : Nat → TH → Nat → Int32 → Int32 → Int32 → Int32 → Option (Int32 × TH)
  | 0, _, _, _, _, _, _ => none
  | n + 1, σ, l0, l2, l3, l4, l5 => gt_ (kd_ σ l0 = 17) <| lt_ (fi_ σ 1685 l0) fun x10 => if x10 ≤ l5 then (lt_ (si_ σ 1687 l0 l4) fun s11 => bd_ (f_X15_done s11 l0 l3) fun x12 s13 => some (x12, s13)) else (if ((l2 >>> (l5 &&& 31)) &&& (1 : Int32)) = 0 then (f_X15_week_b423 (f_X15_week_b376 n) σ l0 l2 l3 l4 l5) else (lt_ (fr_ σ 1684 l0) fun r15 => lt_ (fi_ σ 1686 l0) fun x16 => lt_ (fr_ σ 1683 l0) fun r17 => nn_ r17 fun a18 => gt_ (kd_ σ a18 = 20) <| gt_ (¬ (l5 < 0 ∨ ln_ σ a18 ≤ l5.toNatClampNeg)) <| lt_ (ai_ σ a18 l5.toNatClampNeg) fun x19 => nn_ r15 fun a20 => gt_ (kd_ σ a20 = 20) <| gt_ (¬ (x16 < 0 ∨ ln_ σ a20 ≤ x16.toNatClampNeg)) <| lt_ (sa_ σ a20 x16.toNatClampNeg x19) fun s21 => lt_ (fi_ s21 1686 l0) fun x22 => lt_ (si_ s21 1686 l0 (x22 + (1 : Int32))) fun s23 => f_X15_week_b423 (f_X15_week_b376 n) s23 l0 l2 l3 l4 l5))
set_option maxHeartbeats 4000000 in
set_option maxRecDepth 100000 in
theorem t_X15_week_b376 {l : Launch} {D : va_G} {cy : Nat → ClassId} {ka : Nat → Nat} {σ0 z : TH} {r : Int32}  : ∀ (n : Nat) (σ : TH) (l0 : Nat) (l2 : Int32) (l3 : Int32) (l4 : Int32) (l5 : Int32), f_X15_week_b376 n σ l0 l2 l3 l4 l5 = some (r, z) → v_ l D cy ka cX15_week RX15 10 (some FieldType.int) "week" 4 91 (qf_ D cy σ0 z (some (.int r))) σ0 z σ 376 [(0, va_rf (some l0)), (2, .int l2), (3, .int l3), (4, .int l4), (5, .int l5)] [] := by
  intro n
  induction n with
  | zero => intro σ l0 l2 l3 l4 l5 hf; unfold f_X15_week_b376 at hf; cases hf
  | succ n ih =>
    intro σ l0 l2 l3 l4 l5 hf
    unfold f_X15_week_b376 at hf
    have hrec_376 := ih
    refine v_iload (x := l5) dX15_week_376 4 rfl ?_
    refine v_aload_n (x := (some l0)) dX15_week_378 rfl 0 rfl ?_
    obtain ⟨hk_l0, hf⟩ := gt_of hf
    refine v_geti cb_16 hk_l0 85 1685 rfl (by decide) rfl (lk_n kw_1542 rfl) hf dX15_week_379 (fun x10 hf => ?_)
    refine v_icmp_ge (tgt := 429) hf dX15_week_382 (by decide) (fun hq hf => ?_) (fun hq hf => ?_)
    · refine v_aload_n (x := (some l0)) dX15_week_429 rfl 0 rfl ?_
      refine v_iload (x := l4) dX15_week_430 3 rfl ?_
      refine v_puti2 cb_16 hk_l0 87 1687 rfl (by decide) rfl (lk_n kw_1544 rfl) (Or.inl rfl) rfl rfl hf dX15_week_432 (fun s11 hts11 hf => ?_)
      have hk_l0 := tk_ hts11 hk_l0
      refine v_aload_n (x := (some l0)) dX15_week_435 rfl 0 rfl ?_
      refine v_iload_n (x := l3) dX15_week_436 rfl 2 rfl ?_
      obtain ⟨x12, s13, hcs13, hf⟩ := bd_of hf
      have hts13 := c_X15_done (l := l) (D := D) (cy := cy) (ka := ka) hcs13
      refine v_callV cb_16 hk_l0 (As := [.int l3]) (rest := []) hts13 yb_X15_done kw_1733 kw_1735 kp_78 rfl ⟨Nat.le_of_ble_eq_true rfl, Nat.le_of_ble_eq_true rfl⟩ rfl (cat_len (Nat.le_of_ble_eq_true rfl)) dX15_week_437 ?_
      have hk_l0 := tk_ hts13.1 hk_l0
      show v_ l D cy ka cX15_week RX15 10 (some FieldType.int) "week" 4 91 (qf_ D cy σ0 z (some (.int r))) σ0 z _ 440 [(0, va_rf (some l0)), (2, .int l2), (3, .int l3), (4, .int l4), (5, .int l5)] [.int x12]
      exact v_iret hf dX15_week_440
    · refine v_iload_n (x := l2) dX15_week_385 rfl 1 rfl ?_
      refine v_iload (x := l5) dX15_week_386 4 rfl ?_
      refine v_ishr dX15_week_388 ?_
      refine v_iconst (v := 1) dX15_week_389 (by decide) ?_
      refine v_iand dX15_week_390 ?_
      refine v_if_ne (tgt := 397) hf dX15_week_391 (by decide) (fun hq hf => ?_) (fun hq hf => ?_)
      · refine v_goto (tgt := 423) dX15_week_394 (by decide) ?_
        refine v_sub [0, 1, 2, 3, 4] (L2 := [(0, va_rf (some l0)), (2, .int l2), (3, .int l3), (4, .int l4), (5, .int l5)]) rfl ?_
        exact t_X15_week_b423 hrec_376 hf
      · refine v_aload_n (x := (some l0)) dX15_week_397 rfl 0 rfl ?_
        refine v_getr cb_16 hk_l0 84 1684 rfl (by decide) rfl (lk_n kw_1541 rfl) hf dX15_week_398 (fun r15 hf => ?_)
        refine v_aload_n (x := (some l0)) dX15_week_401 rfl 0 rfl ?_
        refine v_geti cb_16 hk_l0 86 1686 rfl (by decide) rfl (lk_n kw_1543 rfl) hf dX15_week_402 (fun x16 hf => ?_)
        refine v_aload_n (x := (some l0)) dX15_week_405 rfl 0 rfl ?_
        refine v_getr cb_16 hk_l0 83 1683 rfl (by decide) rfl (lk_n kw_1540 rfl) hf dX15_week_406 (fun r17 hf => ?_)
        refine v_iload (x := l5) dX15_week_409 4 rfl ?_
        obtain ⟨a18, rfl, hf⟩ := nn_of hf
        obtain ⟨hk_a18, hf⟩ := gt_of hf
        refine v_iald hk_a18 hf dX15_week_411 (fun x19 hf => ?_)
        obtain ⟨a20, rfl, hf⟩ := nn_of hf
        obtain ⟨hk_a20, hf⟩ := gt_of hf
        refine v_iast2 hk_a20 hf dX15_week_412 (fun s21 hts21 hf => ?_)
        have hk_l0 := tk_ hts21 hk_l0
        refine v_aload_n (x := (some l0)) dX15_week_413 rfl 0 rfl ?_
        refine v_dup dX15_week_414 (va_rf_cat _) ?_
        refine v_geti cb_16 hk_l0 86 1686 rfl (by decide) rfl (lk_n kw_1543 rfl) hf dX15_week_415 (fun x22 hf => ?_)
        refine v_iconst (v := 1) dX15_week_418 (by decide) ?_
        refine v_iadd dX15_week_419 ?_
        refine v_puti2 cb_16 hk_l0 86 1686 rfl (by decide) rfl (lk_n kw_1543 rfl) (Or.inl rfl) rfl rfl hf dX15_week_420 (fun s23 hts23 hf => ?_)
        have hk_l0 := tk_ hts23 hk_l0
        refine v_sub [0, 1, 2, 3, 4] (L2 := [(0, va_rf (some l0)), (2, .int l2), (3, .int l3), (4, .int l4), (5, .int l5)]) rfl ?_
        exact t_X15_week_b423 hrec_376 hf
def f_X15_week_b362 (rec_212 : TH → Nat → Int32 → Int32 → Int32 → Int32 → Int32 → Option (Int32 × TH)) (σ : TH) (l0 : Nat) (l1 : Int32) (l2 : Int32) (l3 : Int32) (l4 : Int32) (l5 : Int32) : Option (Int32 × TH) :=
  lt_ (l5 + 1) fun x29 => rec_212 σ l0 l1 l2 l3 l4 x29
set_option maxHeartbeats 4000000 in
set_option maxRecDepth 100000 in
theorem t_X15_week_b362 {l : Launch} {D : va_G} {cy : Nat → ClassId} {ka : Nat → Nat} {σ0 z : TH} {r : Int32} {rec_212 : TH → Nat → Int32 → Int32 → Int32 → Int32 → Int32 → Option (Int32 × TH)} (hrec_212 : ∀ (σ : TH) (l0 : Nat) (l1 : Int32) (l2 : Int32) (l3 : Int32) (l4 : Int32) (l5 : Int32), rec_212 σ l0 l1 l2 l3 l4 l5 = some (r, z) → v_ l D cy ka cX15_week RX15 10 (some FieldType.int) "week" 4 91 (qf_ D cy σ0 z (some (.int r))) σ0 z σ 212 [(0, va_rf (some l0)), (1, .int l1), (2, .int l2), (3, .int l3), (4, .int l4), (5, .int l5)] []) {σ : TH} {l0 : Nat} {l1 : Int32} {l2 : Int32} {l3 : Int32} {l4 : Int32} {l5 : Int32} (hf : f_X15_week_b362 rec_212 σ l0 l1 l2 l3 l4 l5 = some (r, z)) : v_ l D cy ka cX15_week RX15 10 (some FieldType.int) "week" 4 91 (qf_ D cy σ0 z (some (.int r))) σ0 z σ 362 [(0, va_rf (some l0)), (1, .int l1), (2, .int l2), (3, .int l3), (4, .int l4), (5, .int l5)] [] := by
  unfold f_X15_week_b362 at hf
  obtain ⟨x29, ex29⟩ : ∃ y : Int32, y = l5 + 1 := ⟨_, rfl⟩
  rw [lt_e, ← ex29] at hf
  refine v_iinc (v := x29) [(5, .int x29), (0, va_rf (some l0)), (1, .int l1), (2, .int l2), (3, .int l3), (4, .int l4)] dX15_week_362 5 rfl (by rw [ex29]; rfl) (by decide) rfl ?_
  refine v_goto (tgt := 212) dX15_week_365 (by decide) ?_
  refine v_sub [1, 2, 3, 4, 5, 0] (L2 := [(0, va_rf (some l0)), (1, .int l1), (2, .int l2), (3, .int l3), (4, .int l4), (5, .int x29)]) rfl ?_
  exact hrec_212 _ _ _ _ _ _ _ hf
def f_X15_week_b331 (rec_212 : TH → Nat → Int32 → Int32 → Int32 → Int32 → Int32 → Option (Int32 × TH)) (σ : TH) (l0 : Nat) (l1 : Int32) (l2 : Int32) (l3 : Int32) (l4 : Int32) (l5 : Int32) (l6 : Int32) (l7 : Int32) (t0 : Int32) : Option (Int32 × TH) :=
  gt_ (kd_ σ l0 = 17) <| lt_ (fr_ σ 1607 l0) fun r26 => nn_ r26 fun a27 => gt_ (kd_ σ a27 = 20) <| gt_ (¬ (l1 < 0 ∨ ln_ σ a27 ≤ l1.toNatClampNeg)) <| lt_ (ai_ σ a27 l1.toNatClampNeg) fun x28 => if x28 < l7 then (f_X15_week_b362 rec_212 σ l0 l1 l2 l3 l4 l5) else (if t0 = 0 then (f_X15_week_b362 rec_212 σ l0 l1 l2 l3 l4 l5) else (f_X15_week_b362 rec_212 σ l0 l1 l5 l6 l7 l5))
set_option maxHeartbeats 4000000 in
set_option maxRecDepth 100000 in
theorem t_X15_week_b331 {l : Launch} {D : va_G} {cy : Nat → ClassId} {ka : Nat → Nat} {σ0 z : TH} {r : Int32} {rec_212 : TH → Nat → Int32 → Int32 → Int32 → Int32 → Int32 → Option (Int32 × TH)} (hrec_212 : ∀ (σ : TH) (l0 : Nat) (l1 : Int32) (l2 : Int32) (l3 : Int32) (l4 : Int32) (l5 : Int32), rec_212 σ l0 l1 l2 l3 l4 l5 = some (r, z) → v_ l D cy ka cX15_week RX15 10 (some FieldType.int) "week" 4 91 (qf_ D cy σ0 z (some (.int r))) σ0 z σ 212 [(0, va_rf (some l0)), (1, .int l1), (2, .int l2), (3, .int l3), (4, .int l4), (5, .int l5)] []) {σ : TH} {l0 : Nat} {l1 : Int32} {l2 : Int32} {l3 : Int32} {l4 : Int32} {l5 : Int32} {l6 : Int32} {l7 : Int32} {t0 : Int32} (hf : f_X15_week_b331 rec_212 σ l0 l1 l2 l3 l4 l5 l6 l7 t0 = some (r, z)) : v_ l D cy ka cX15_week RX15 10 (some FieldType.int) "week" 4 91 (qf_ D cy σ0 z (some (.int r))) σ0 z σ 331 [(0, va_rf (some l0)), (1, .int l1), (2, .int l2), (3, .int l3), (4, .int l4), (5, .int l5), (6, .int l6), (7, .int l7)] [.int t0] := by
  unfold f_X15_week_b331 at hf
  refine v_istore [(9, .int t0), (0, va_rf (some l0)), (1, .int l1), (2, .int l2), (3, .int l3), (4, .int l4), (5, .int l5), (6, .int l6), (7, .int l7)] dX15_week_331 (by decide) rfl ?_
  refine v_iload (x := l7) dX15_week_333 8 rfl ?_
  refine v_aload_n (x := (some l0)) dX15_week_335 rfl 1 rfl ?_
  obtain ⟨hk_l0, hf⟩ := gt_of hf
  refine v_getr cb_16 hk_l0 7 1607 rfl (by decide) rfl (lk_n kw_1464 rfl) hf dX15_week_336 (fun r26 hf => ?_)
  refine v_iload_n (x := l1) dX15_week_339 rfl 2 rfl ?_
  obtain ⟨a27, rfl, hf⟩ := nn_of hf
  obtain ⟨hk_a27, hf⟩ := gt_of hf
  refine v_iald hk_a27 hf dX15_week_340 (fun x28 hf => ?_)
  refine v_icmp_gt (tgt := 362) hf dX15_week_341 (by decide) (fun hq hf => ?_) (fun hq hf => ?_)
  · refine v_sub [1, 2, 3, 4, 5, 6] (L2 := [(0, va_rf (some l0)), (1, .int l1), (2, .int l2), (3, .int l3), (4, .int l4), (5, .int l5)]) rfl ?_
    exact t_X15_week_b362 hrec_212 hf
  · refine v_iload (x := t0) dX15_week_344 0 rfl ?_
    refine v_if_ne (tgt := 352) hf dX15_week_346 (by decide) (fun hq hf => ?_) (fun hq hf => ?_)
    · refine v_goto (tgt := 362) dX15_week_349 (by decide) ?_
      refine v_sub [1, 2, 3, 4, 5, 6] (L2 := [(0, va_rf (some l0)), (1, .int l1), (2, .int l2), (3, .int l3), (4, .int l4), (5, .int l5)]) rfl ?_
      exact t_X15_week_b362 hrec_212 hf
    · refine v_iload (x := l5) dX15_week_352 6 rfl ?_
      refine v_istore_n [(2, .int l5), (9, .int t0), (0, va_rf (some l0)), (1, .int l1), (3, .int l3), (4, .int l4), (5, .int l5), (6, .int l6), (7, .int l7)] dX15_week_354 rfl (by decide) rfl ?_
      refine v_iload (x := l6) dX15_week_355 7 rfl ?_
      refine v_istore_n [(3, .int l6), (2, .int l5), (9, .int t0), (0, va_rf (some l0)), (1, .int l1), (4, .int l4), (5, .int l5), (6, .int l6), (7, .int l7)] dX15_week_357 rfl (by decide) rfl ?_
      refine v_iload (x := l7) dX15_week_358 8 rfl ?_
      refine v_istore [(4, .int l7), (3, .int l6), (2, .int l5), (9, .int t0), (0, va_rf (some l0)), (1, .int l1), (5, .int l5), (6, .int l6), (7, .int l7)] dX15_week_360 (by decide) rfl ?_
      refine v_sub [4, 5, 2, 1, 0, 6] (L2 := [(0, va_rf (some l0)), (1, .int l1), (2, .int l5), (3, .int l6), (4, .int l7), (5, .int l5)]) rfl ?_
      exact t_X15_week_b362 hrec_212 hf
def f_X15_week_b326 (rec_212 : TH → Nat → Int32 → Int32 → Int32 → Int32 → Int32 → Option (Int32 × TH)) (σ : TH) (l0 : Nat) (l1 : Int32) (l2 : Int32) (l3 : Int32) (l4 : Int32) (l5 : Int32) (l6 : Int32) (l7 : Int32) : Option (Int32 × TH) :=
  f_X15_week_b331 rec_212 σ l0 l1 l2 l3 l4 l5 l6 l7 (1 : Int32)
set_option maxHeartbeats 4000000 in
set_option maxRecDepth 100000 in
theorem t_X15_week_b326 {l : Launch} {D : va_G} {cy : Nat → ClassId} {ka : Nat → Nat} {σ0 z : TH} {r : Int32} {rec_212 : TH → Nat → Int32 → Int32 → Int32 → Int32 → Int32 → Option (Int32 × TH)} (hrec_212 : ∀ (σ : TH) (l0 : Nat) (l1 : Int32) (l2 : Int32) (l3 : Int32) (l4 : Int32) (l5 : Int32), rec_212 σ l0 l1 l2 l3 l4 l5 = some (r, z) → v_ l D cy ka cX15_week RX15 10 (some FieldType.int) "week" 4 91 (qf_ D cy σ0 z (some (.int r))) σ0 z σ 212 [(0, va_rf (some l0)), (1, .int l1), (2, .int l2), (3, .int l3), (4, .int l4), (5, .int l5)] []) {σ : TH} {l0 : Nat} {l1 : Int32} {l2 : Int32} {l3 : Int32} {l4 : Int32} {l5 : Int32} {l6 : Int32} {l7 : Int32} (hf : f_X15_week_b326 rec_212 σ l0 l1 l2 l3 l4 l5 l6 l7 = some (r, z)) : v_ l D cy ka cX15_week RX15 10 (some FieldType.int) "week" 4 91 (qf_ D cy σ0 z (some (.int r))) σ0 z σ 326 [(0, va_rf (some l0)), (1, .int l1), (2, .int l2), (3, .int l3), (4, .int l4), (5, .int l5), (6, .int l6), (7, .int l7)] [] := by
  unfold f_X15_week_b326 at hf
  refine v_iconst (v := 1) dX15_week_326 (by decide) ?_
  refine v_goto (tgt := 331) dX15_week_327 (by decide) ?_
  refine v_sub [0, 1, 2, 3, 4, 5, 6, 7] (L2 := [(0, va_rf (some l0)), (1, .int l1), (2, .int l2), (3, .int l3), (4, .int l4), (5, .int l5), (6, .int l6), (7, .int l7)]) rfl ?_
  exact t_X15_week_b331 hrec_212 hf
def f_X15_week_b330 (rec_212 : TH → Nat → Int32 → Int32 → Int32 → Int32 → Int32 → Option (Int32 × TH)) (σ : TH) (l0 : Nat) (l1 : Int32) (l2 : Int32) (l3 : Int32) (l4 : Int32) (l5 : Int32) (l6 : Int32) (l7 : Int32) : Option (Int32 × TH) :=
  f_X15_week_b331 rec_212 σ l0 l1 l2 l3 l4 l5 l6 l7 (0 : Int32)
set_option maxHeartbeats 4000000 in
set_option maxRecDepth 100000 in
theorem t_X15_week_b330 {l : Launch} {D : va_G} {cy : Nat → ClassId} {ka : Nat → Nat} {σ0 z : TH} {r : Int32} {rec_212 : TH → Nat → Int32 → Int32 → Int32 → Int32 → Int32 → Option (Int32 × TH)} (hrec_212 : ∀ (σ : TH) (l0 : Nat) (l1 : Int32) (l2 : Int32) (l3 : Int32) (l4 : Int32) (l5 : Int32), rec_212 σ l0 l1 l2 l3 l4 l5 = some (r, z) → v_ l D cy ka cX15_week RX15 10 (some FieldType.int) "week" 4 91 (qf_ D cy σ0 z (some (.int r))) σ0 z σ 212 [(0, va_rf (some l0)), (1, .int l1), (2, .int l2), (3, .int l3), (4, .int l4), (5, .int l5)] []) {σ : TH} {l0 : Nat} {l1 : Int32} {l2 : Int32} {l3 : Int32} {l4 : Int32} {l5 : Int32} {l6 : Int32} {l7 : Int32} (hf : f_X15_week_b330 rec_212 σ l0 l1 l2 l3 l4 l5 l6 l7 = some (r, z)) : v_ l D cy ka cX15_week RX15 10 (some FieldType.int) "week" 4 91 (qf_ D cy σ0 z (some (.int r))) σ0 z σ 330 [(0, va_rf (some l0)), (1, .int l1), (2, .int l2), (3, .int l3), (4, .int l4), (5, .int l5), (6, .int l6), (7, .int l7)] [] := by
  unfold f_X15_week_b330 at hf
  refine v_iconst (v := 0) dX15_week_330 (by decide) ?_
  refine v_sub [0, 1, 2, 3, 4, 5, 6, 7] (L2 := [(0, va_rf (some l0)), (1, .int l1), (2, .int l2), (3, .int l3), (4, .int l4), (5, .int l5), (6, .int l6), (7, .int l7)]) rfl ?_
  exact t_X15_week_b331 hrec_212 hf
def f_X15_week_b276 (rec_232 : TH → Nat → Int32 → Int32 → Int32 → Int32 → Int32 → Int32 → Int32 → Int32 → Option (Int32 × TH)) (σ : TH) (l0 : Nat) (l1 : Int32) (l2 : Int32) (l3 : Int32) (l4 : Int32) (l5 : Int32) (l6 : Int32) (l7 : Int32) (l8 : Int32) : Option (Int32 × TH) :=
  lt_ (l8 + 1) fun x30 => rec_232 σ l0 l1 l2 l3 l4 l5 l6 l7 x30
set_option maxHeartbeats 4000000 in
set_option maxRecDepth 100000 in
theorem t_X15_week_b276 {l : Launch} {D : va_G} {cy : Nat → ClassId} {ka : Nat → Nat} {σ0 z : TH} {r : Int32} {rec_232 : TH → Nat → Int32 → Int32 → Int32 → Int32 → Int32 → Int32 → Int32 → Int32 → Option (Int32 × TH)} (hrec_232 : ∀ (σ : TH) (l0 : Nat) (l1 : Int32) (l2 : Int32) (l3 : Int32) (l4 : Int32) (l5 : Int32) (l6 : Int32) (l7 : Int32) (l8 : Int32), rec_232 σ l0 l1 l2 l3 l4 l5 l6 l7 l8 = some (r, z) → v_ l D cy ka cX15_week RX15 10 (some FieldType.int) "week" 4 91 (qf_ D cy σ0 z (some (.int r))) σ0 z σ 232 [(0, va_rf (some l0)), (1, .int l1), (2, .int l2), (3, .int l3), (4, .int l4), (5, .int l5), (6, .int l6), (7, .int l7), (8, .int l8)] []) {σ : TH} {l0 : Nat} {l1 : Int32} {l2 : Int32} {l3 : Int32} {l4 : Int32} {l5 : Int32} {l6 : Int32} {l7 : Int32} {l8 : Int32} (hf : f_X15_week_b276 rec_232 σ l0 l1 l2 l3 l4 l5 l6 l7 l8 = some (r, z)) : v_ l D cy ka cX15_week RX15 10 (some FieldType.int) "week" 4 91 (qf_ D cy σ0 z (some (.int r))) σ0 z σ 276 [(0, va_rf (some l0)), (1, .int l1), (2, .int l2), (3, .int l3), (4, .int l4), (5, .int l5), (6, .int l6), (7, .int l7), (8, .int l8)] [] := by
  unfold f_X15_week_b276 at hf
  obtain ⟨x30, ex30⟩ : ∃ y : Int32, y = l8 + 1 := ⟨_, rfl⟩
  rw [lt_e, ← ex30] at hf
  refine v_iinc (v := x30) [(8, .int x30), (0, va_rf (some l0)), (1, .int l1), (2, .int l2), (3, .int l3), (4, .int l4), (5, .int l5), (6, .int l6), (7, .int l7)] dX15_week_276 8 rfl (by rw [ex30]; rfl) (by decide) rfl ?_
  refine v_goto (tgt := 232) dX15_week_279 (by decide) ?_
  refine v_sub [1, 2, 3, 4, 5, 6, 7, 8, 0] (L2 := [(0, va_rf (some l0)), (1, .int l1), (2, .int l2), (3, .int l3), (4, .int l4), (5, .int l5), (6, .int l6), (7, .int l7), (8, .int x30)]) rfl ?_
  exact hrec_232 _ _ _ _ _ _ _ _ _ _ hf
def f_X15_week_b232 (rec_212 : TH → Nat → Int32 → Int32 → Int32 → Int32 → Int32 → Option (Int32 × TH)) : Nat → TH → Nat → Int32 → Int32 → Int32 → Int32 → Int32 → Int32 → Int32 → Int32 → Option (Int32 × TH)
  | 0, _, _, _, _, _, _, _, _, _, _ => none
  | n + 1, σ, l0, l1, l2, l3, l4, l5, l6, l7, l8 => gt_ (kd_ σ l0 = 17) <| lt_ (fi_ σ 1685 l0) fun x24 => if x24 ≤ l8 then (lt_ (l5 ^^^ l2) fun x25 => if l3 < l6 then (f_X15_week_b326 rec_212 σ l0 l1 l2 l3 l4 l5 l6 l7) else (if l6 = l3 then (if l7 < l4 then (f_X15_week_b326 rec_212 σ l0 l1 l2 l3 l4 l5 l6 l7) else (if l7 = l4 then (if ((x25 &&& (-x25)) &&& l5) = 0 then (f_X15_week_b330 rec_212 σ l0 l1 l2 l3 l4 l5 l6 l7) else (f_X15_week_b326 rec_212 σ l0 l1 l2 l3 l4 l5 l6 l7)) else (f_X15_week_b330 rec_212 σ l0 l1 l2 l3 l4 l5 l6 l7))) else (f_X15_week_b330 rec_212 σ l0 l1 l2 l3 l4 l5 l6 l7))) else (if ((l5 >>> (l8 &&& 31)) &&& (1 : Int32)) = 0 then (f_X15_week_b276 (f_X15_week_b232 rec_212 n) σ l0 l1 l2 l3 l4 l5 l6 l7 l8) else (bd_ (f_X15_gains σ l0 l8) fun x31 s32 => lt_ (l6 + x31) fun x33 => bd_ (f_X15_times s32 l0 l8) fun x34 s35 => lt_ (l7 + x34) fun x36 => f_X15_week_b276 (f_X15_week_b232 rec_212 n) s35 l0 l1 l2 l3 l4 l5 x33 x36 l8))
set_option maxHeartbeats 4000000 in
set_option maxRecDepth 100000 in
theorem t_X15_week_b232 {l : Launch} {D : va_G} {cy : Nat → ClassId} {ka : Nat → Nat} {σ0 z : TH} {r : Int32} {rec_212 : TH → Nat → Int32 → Int32 → Int32 → Int32 → Int32 → Option (Int32 × TH)} (hrec_212 : ∀ (σ : TH) (l0 : Nat) (l1 : Int32) (l2 : Int32) (l3 : Int32) (l4 : Int32) (l5 : Int32), rec_212 σ l0 l1 l2 l3 l4 l5 = some (r, z) → v_ l D cy ka cX15_week RX15 10 (some FieldType.int) "week" 4 91 (qf_ D cy σ0 z (some (.int r))) σ0 z σ 212 [(0, va_rf (some l0)), (1, .int l1), (2, .int l2), (3, .int l3), (4, .int l4), (5, .int l5)] []) : ∀ (n : Nat) (σ : TH) (l0 : Nat) (l1 : Int32) (l2 : Int32) (l3 : Int32) (l4 : Int32) (l5 : Int32) (l6 : Int32) (l7 : Int32) (l8 : Int32), f_X15_week_b232 rec_212 n σ l0 l1 l2 l3 l4 l5 l6 l7 l8 = some (r, z) → v_ l D cy ka cX15_week RX15 10 (some FieldType.int) "week" 4 91 (qf_ D cy σ0 z (some (.int r))) σ0 z σ 232 [(0, va_rf (some l0)), (1, .int l1), (2, .int l2), (3, .int l3), (4, .int l4), (5, .int l5), (6, .int l6), (7, .int l7), (8, .int l8)] [] := by
  intro n
  induction n with
  | zero => intro σ l0 l1 l2 l3 l4 l5 l6 l7 l8 hf; unfold f_X15_week_b232 at hf; cases hf
  | succ n ih =>
    intro σ l0 l1 l2 l3 l4 l5 l6 l7 l8 hf
    unfold f_X15_week_b232 at hf
    have hrec_232 := ih
    refine v_iload (x := l8) dX15_week_232 8 rfl ?_
    refine v_aload_n (x := (some l0)) dX15_week_234 rfl 0 rfl ?_
    obtain ⟨hk_l0, hf⟩ := gt_of hf
    refine v_geti cb_16 hk_l0 85 1685 rfl (by decide) rfl (lk_n kw_1542 rfl) hf dX15_week_235 (fun x24 hf => ?_)
    refine v_icmp_ge (tgt := 282) hf dX15_week_238 (by decide) (fun hq hf => ?_) (fun hq hf => ?_)
    · refine v_iload (x := l5) dX15_week_282 5 rfl ?_
      refine v_iload_n (x := l2) dX15_week_284 rfl 2 rfl ?_
      refine v_ixor dX15_week_285 ?_
      obtain ⟨x25, ex25⟩ : ∃ y : Int32, y = l5 ^^^ l2 := ⟨_, rfl⟩
      rw [lt_e, ← ex25] at hf
      rw [← ex25]
      refine v_istore [(8, .int x25), (0, va_rf (some l0)), (1, .int l1), (2, .int l2), (3, .int l3), (4, .int l4), (5, .int l5), (6, .int l6), (7, .int l7)] dX15_week_286 (by decide) rfl ?_
      refine v_iload (x := l6) dX15_week_288 7 rfl ?_
      refine v_iload_n (x := l3) dX15_week_290 rfl 4 rfl ?_
      refine v_icmp_gt (tgt := 326) hf dX15_week_291 (by decide) (fun hq hf => ?_) (fun hq hf => ?_)
      · refine v_sub [1, 2, 3, 4, 5, 6, 7, 8] (L2 := [(0, va_rf (some l0)), (1, .int l1), (2, .int l2), (3, .int l3), (4, .int l4), (5, .int l5), (6, .int l6), (7, .int l7)]) rfl ?_
        exact t_X15_week_b326 hrec_212 hf
      · refine v_iload (x := l6) dX15_week_294 7 rfl ?_
        refine v_iload_n (x := l3) dX15_week_296 rfl 4 rfl ?_
        refine v_icmp_ne (tgt := 330) hf dX15_week_297 (by decide) (fun hq hf => ?_) (fun hq hf => ?_)
        · refine v_iload (x := l7) dX15_week_300 8 rfl ?_
          refine v_iload (x := l4) dX15_week_302 5 rfl ?_
          refine v_icmp_lt (tgt := 326) hf dX15_week_304 (by decide) (fun hq hf => ?_) (fun hq hf => ?_)
          · refine v_sub [1, 2, 3, 4, 5, 6, 7, 8] (L2 := [(0, va_rf (some l0)), (1, .int l1), (2, .int l2), (3, .int l3), (4, .int l4), (5, .int l5), (6, .int l6), (7, .int l7)]) rfl ?_
            exact t_X15_week_b326 hrec_212 hf
          · refine v_iload (x := l7) dX15_week_307 8 rfl ?_
            refine v_iload (x := l4) dX15_week_309 5 rfl ?_
            refine v_icmp_ne (tgt := 330) hf dX15_week_311 (by decide) (fun hq hf => ?_) (fun hq hf => ?_)
            · refine v_iload (x := x25) dX15_week_314 0 rfl ?_
              refine v_iload (x := x25) dX15_week_316 0 rfl ?_
              refine v_ineg dX15_week_318 ?_
              refine v_iand dX15_week_319 ?_
              refine v_iload (x := l5) dX15_week_320 6 rfl ?_
              refine v_iand dX15_week_322 ?_
              refine v_if_eq (tgt := 330) hf dX15_week_323 (by decide) (fun hq hf => ?_) (fun hq hf => ?_)
              · refine v_sub [1, 2, 3, 4, 5, 6, 7, 8] (L2 := [(0, va_rf (some l0)), (1, .int l1), (2, .int l2), (3, .int l3), (4, .int l4), (5, .int l5), (6, .int l6), (7, .int l7)]) rfl ?_
                exact t_X15_week_b330 hrec_212 hf
              · refine v_sub [1, 2, 3, 4, 5, 6, 7, 8] (L2 := [(0, va_rf (some l0)), (1, .int l1), (2, .int l2), (3, .int l3), (4, .int l4), (5, .int l5), (6, .int l6), (7, .int l7)]) rfl ?_
                exact t_X15_week_b326 hrec_212 hf
            · refine v_sub [1, 2, 3, 4, 5, 6, 7, 8] (L2 := [(0, va_rf (some l0)), (1, .int l1), (2, .int l2), (3, .int l3), (4, .int l4), (5, .int l5), (6, .int l6), (7, .int l7)]) rfl ?_
              exact t_X15_week_b330 hrec_212 hf
        · refine v_sub [1, 2, 3, 4, 5, 6, 7, 8] (L2 := [(0, va_rf (some l0)), (1, .int l1), (2, .int l2), (3, .int l3), (4, .int l4), (5, .int l5), (6, .int l6), (7, .int l7)]) rfl ?_
          exact t_X15_week_b330 hrec_212 hf
    · refine v_iload (x := l5) dX15_week_241 5 rfl ?_
      refine v_iload (x := l8) dX15_week_243 8 rfl ?_
      refine v_ishr dX15_week_245 ?_
      refine v_iconst (v := 1) dX15_week_246 (by decide) ?_
      refine v_iand dX15_week_247 ?_
      refine v_if_ne (tgt := 254) hf dX15_week_248 (by decide) (fun hq hf => ?_) (fun hq hf => ?_)
      · refine v_goto (tgt := 276) dX15_week_251 (by decide) ?_
        refine v_sub [0, 1, 2, 3, 4, 5, 6, 7, 8] (L2 := [(0, va_rf (some l0)), (1, .int l1), (2, .int l2), (3, .int l3), (4, .int l4), (5, .int l5), (6, .int l6), (7, .int l7), (8, .int l8)]) rfl ?_
        exact t_X15_week_b276 hrec_232 hf
      · refine v_iload (x := l6) dX15_week_254 6 rfl ?_
        refine v_aload_n (x := (some l0)) dX15_week_256 rfl 0 rfl ?_
        refine v_iload (x := l8) dX15_week_257 8 rfl ?_
        obtain ⟨x31, s32, hcs32, hf⟩ := bd_of hf
        have hts32 := c_X15_gains (l := l) (D := D) (cy := cy) (ka := ka) hcs32
        refine v_callV cb_16 hk_l0 (As := [.int l8]) (rest := [.int l6]) hts32 yb_X15_gains kw_2247 kw_2249 kp_136 rfl ⟨Nat.le_of_ble_eq_true rfl, Nat.le_of_ble_eq_true rfl⟩ rfl (cat_len (Nat.le_of_ble_eq_true rfl)) dX15_week_259 ?_
        have hk_l0 := tk_ hts32.1 hk_l0
        show v_ l D cy ka cX15_week RX15 10 (some FieldType.int) "week" 4 91 (qf_ D cy σ0 z (some (.int r))) σ0 z _ 262 [(0, va_rf (some l0)), (1, .int l1), (2, .int l2), (3, .int l3), (4, .int l4), (5, .int l5), (6, .int l6), (7, .int l7), (8, .int l8)] [.int x31, .int l6]
        refine v_iadd dX15_week_262 ?_
        obtain ⟨x33, ex33⟩ : ∃ y : Int32, y = l6 + x31 := ⟨_, rfl⟩
        rw [lt_e, ← ex33] at hf
        rw [← ex33]
        refine v_istore [(6, .int x33), (0, va_rf (some l0)), (1, .int l1), (2, .int l2), (3, .int l3), (4, .int l4), (5, .int l5), (7, .int l7), (8, .int l8)] dX15_week_263 (by decide) rfl ?_
        refine v_iload (x := l7) dX15_week_265 7 rfl ?_
        refine v_aload_n (x := (some l0)) dX15_week_267 rfl 1 rfl ?_
        refine v_iload (x := l8) dX15_week_268 8 rfl ?_
        obtain ⟨x34, s35, hcs35, hf⟩ := bd_of hf
        have hts35 := c_X15_times (l := l) (D := D) (cy := cy) (ka := ka) hcs35
        refine v_callV cb_16 hk_l0 (As := [.int l8]) (rest := [.int l7]) hts35 yb_X15_times kw_2251 kw_2253 kp_137 rfl ⟨Nat.le_of_ble_eq_true rfl, Nat.le_of_ble_eq_true rfl⟩ rfl (cat_len (Nat.le_of_ble_eq_true rfl)) dX15_week_270 ?_
        have hk_l0 := tk_ hts35.1 hk_l0
        show v_ l D cy ka cX15_week RX15 10 (some FieldType.int) "week" 4 91 (qf_ D cy σ0 z (some (.int r))) σ0 z _ 273 [(6, .int x33), (0, va_rf (some l0)), (1, .int l1), (2, .int l2), (3, .int l3), (4, .int l4), (5, .int l5), (7, .int l7), (8, .int l8)] [.int x34, .int l7]
        refine v_iadd dX15_week_273 ?_
        obtain ⟨x36, ex36⟩ : ∃ y : Int32, y = l7 + x34 := ⟨_, rfl⟩
        rw [lt_e, ← ex36] at hf
        rw [← ex36]
        refine v_istore [(7, .int x36), (6, .int x33), (0, va_rf (some l0)), (1, .int l1), (2, .int l2), (3, .int l3), (4, .int l4), (5, .int l5), (8, .int l8)] dX15_week_274 (by decide) rfl ?_
        refine v_sub [2, 3, 4, 5, 6, 7, 1, 0, 8] (L2 := [(0, va_rf (some l0)), (1, .int l1), (2, .int l2), (3, .int l3), (4, .int l4), (5, .int l5), (6, .int x33), (7, .int x36), (8, .int l8)]) rfl ?_
        exact t_X15_week_b276 hrec_232 hf
def f_X15_week_b212 : Nat → TH → Nat → Int32 → Int32 → Int32 → Int32 → Int32 → Option (Int32 × TH)
  | 0, _, _, _, _, _, _, _ => none
  | n + 1, σ, l0, l1, l2, l3, l4, l5 => gt_ (kd_ σ l0 = 17) <| lt_ (fi_ σ 1685 l0) fun x8 => if ((1 : Int32) <<< (x8 &&& 31)) ≤ l5 then (lt_ (si_ σ 1686 l0 (0 : Int32)) fun s9 => f_X15_week_b376 fu_ s9 l0 l2 l3 l4 (0 : Int32)) else (f_X15_week_b232 (f_X15_week_b212 n) fu_ σ l0 l1 l2 l3 l4 l5 (0 : Int32) (0 : Int32) (0 : Int32))
set_option maxHeartbeats 4000000 in
set_option maxRecDepth 100000 in
theorem t_X15_week_b212 {l : Launch} {D : va_G} {cy : Nat → ClassId} {ka : Nat → Nat} {σ0 z : TH} {r : Int32}  : ∀ (n : Nat) (σ : TH) (l0 : Nat) (l1 : Int32) (l2 : Int32) (l3 : Int32) (l4 : Int32) (l5 : Int32), f_X15_week_b212 n σ l0 l1 l2 l3 l4 l5 = some (r, z) → v_ l D cy ka cX15_week RX15 10 (some FieldType.int) "week" 4 91 (qf_ D cy σ0 z (some (.int r))) σ0 z σ 212 [(0, va_rf (some l0)), (1, .int l1), (2, .int l2), (3, .int l3), (4, .int l4), (5, .int l5)] [] := by
  intro n
  induction n with
  | zero => intro σ l0 l1 l2 l3 l4 l5 hf; unfold f_X15_week_b212 at hf; cases hf
  | succ n ih =>
    intro σ l0 l1 l2 l3 l4 l5 hf
    unfold f_X15_week_b212 at hf
    have hrec_212 := ih
    refine v_iload (x := l5) dX15_week_212 5 rfl ?_
    refine v_iconst (v := 1) dX15_week_214 (by decide) ?_
    refine v_aload_n (x := (some l0)) dX15_week_215 rfl 0 rfl ?_
    obtain ⟨hk_l0, hf⟩ := gt_of hf
    refine v_geti cb_16 hk_l0 85 1685 rfl (by decide) rfl (lk_n kw_1542 rfl) hf dX15_week_216 (fun x8 hf => ?_)
    refine v_ishl dX15_week_219 ?_
    refine v_icmp_ge (tgt := 368) hf dX15_week_220 (by decide) (fun hq hf => ?_) (fun hq hf => ?_)
    · refine v_aload_n (x := (some l0)) dX15_week_368 rfl 0 rfl ?_
      refine v_iconst (v := 0) dX15_week_369 (by decide) ?_
      refine v_puti2 cb_16 hk_l0 86 1686 rfl (by decide) rfl (lk_n kw_1543 rfl) (Or.inl rfl) rfl rfl hf dX15_week_370 (fun s9 hts9 hf => ?_)
      have hk_l0 := tk_ hts9 hk_l0
      refine v_iconst (v := 0) dX15_week_373 (by decide) ?_
      refine v_istore [(5, .int (0 : Int32)), (0, va_rf (some l0)), (1, .int l1), (2, .int l2), (3, .int l3), (4, .int l4)] dX15_week_374 (by decide) rfl ?_
      refine v_sub [1, 3, 4, 5, 0] (L2 := [(0, va_rf (some l0)), (2, .int l2), (3, .int l3), (4, .int l4), (5, .int (0 : Int32))]) rfl ?_
      exact t_X15_week_b376  _ _ _ _ _ _ _ hf
    · refine v_iconst (v := 0) dX15_week_223 (by decide) ?_
      refine v_istore [(6, .int (0 : Int32)), (0, va_rf (some l0)), (1, .int l1), (2, .int l2), (3, .int l3), (4, .int l4), (5, .int l5)] dX15_week_224 (by decide) rfl ?_
      refine v_iconst (v := 0) dX15_week_226 (by decide) ?_
      refine v_istore [(7, .int (0 : Int32)), (6, .int (0 : Int32)), (0, va_rf (some l0)), (1, .int l1), (2, .int l2), (3, .int l3), (4, .int l4), (5, .int l5)] dX15_week_227 (by decide) rfl ?_
      refine v_iconst (v := 0) dX15_week_229 (by decide) ?_
      refine v_istore [(8, .int (0 : Int32)), (7, .int (0 : Int32)), (6, .int (0 : Int32)), (0, va_rf (some l0)), (1, .int l1), (2, .int l2), (3, .int l3), (4, .int l4), (5, .int l5)] dX15_week_230 (by decide) rfl ?_
      refine v_sub [3, 4, 5, 6, 7, 8, 2, 1, 0] (L2 := [(0, va_rf (some l0)), (1, .int l1), (2, .int l2), (3, .int l3), (4, .int l4), (5, .int l5), (6, .int (0 : Int32)), (7, .int (0 : Int32)), (8, .int (0 : Int32))]) rfl ?_
      exact t_X15_week_b232 hrec_212 _ _ _ _ _ _ _ _ _ _ _ hf
def f_X15_week_b196 (rec_26 : TH → Nat → Int32 → Int32 → Option (Int32 × TH)) (σ : TH) (l0 : Nat) (l1 : Int32) (l2 : Int32) : Option (Int32 × TH) :=
  lt_ (l2 + 1) fun x47 => rec_26 σ l0 l1 x47
set_option maxHeartbeats 4000000 in
set_option maxRecDepth 100000 in
theorem t_X15_week_b196 {l : Launch} {D : va_G} {cy : Nat → ClassId} {ka : Nat → Nat} {σ0 z : TH} {r : Int32} {rec_26 : TH → Nat → Int32 → Int32 → Option (Int32 × TH)} (hrec_26 : ∀ (σ : TH) (l0 : Nat) (l1 : Int32) (l2 : Int32), rec_26 σ l0 l1 l2 = some (r, z) → v_ l D cy ka cX15_week RX15 10 (some FieldType.int) "week" 4 91 (qf_ D cy σ0 z (some (.int r))) σ0 z σ 26 [(0, va_rf (some l0)), (1, .int l1), (2, .int l2)] []) {σ : TH} {l0 : Nat} {l1 : Int32} {l2 : Int32} (hf : f_X15_week_b196 rec_26 σ l0 l1 l2 = some (r, z)) : v_ l D cy ka cX15_week RX15 10 (some FieldType.int) "week" 4 91 (qf_ D cy σ0 z (some (.int r))) σ0 z σ 196 [(0, va_rf (some l0)), (1, .int l1), (2, .int l2)] [] := by
  unfold f_X15_week_b196 at hf
  obtain ⟨x47, ex47⟩ : ∃ y : Int32, y = l2 + 1 := ⟨_, rfl⟩
  rw [lt_e, ← ex47] at hf
  refine v_iinc (v := x47) [(2, .int x47), (0, va_rf (some l0)), (1, .int l1)] dX15_week_196 2 rfl (by rw [ex47]; rfl) (by decide) rfl ?_
  refine v_goto (tgt := 26) dX15_week_199 (by decide) ?_
  refine v_sub [1, 2, 0] (L2 := [(0, va_rf (some l0)), (1, .int l1), (2, .int x47)]) rfl ?_
  exact hrec_26 _ _ _ _ hf
def f_X15_week_b161 (rec_73 : TH → Nat → Int32 → Int32 → Int32 → Int32 → Option (Int32 × TH)) (σ : TH) (l0 : Nat) (l1 : Int32) (l2 : Int32) (l3 : Int32) (l4 : Int32) : Option (Int32 × TH) :=
  lt_ (l4 + 1) fun x65 => rec_73 σ l0 l1 l2 l3 x65
set_option maxHeartbeats 4000000 in
set_option maxRecDepth 100000 in
theorem t_X15_week_b161 {l : Launch} {D : va_G} {cy : Nat → ClassId} {ka : Nat → Nat} {σ0 z : TH} {r : Int32} {rec_73 : TH → Nat → Int32 → Int32 → Int32 → Int32 → Option (Int32 × TH)} (hrec_73 : ∀ (σ : TH) (l0 : Nat) (l1 : Int32) (l2 : Int32) (l3 : Int32) (l4 : Int32), rec_73 σ l0 l1 l2 l3 l4 = some (r, z) → v_ l D cy ka cX15_week RX15 10 (some FieldType.int) "week" 4 91 (qf_ D cy σ0 z (some (.int r))) σ0 z σ 73 [(0, va_rf (some l0)), (1, .int l1), (2, .int l2), (3, .int l3), (4, .int l4)] []) {σ : TH} {l0 : Nat} {l1 : Int32} {l2 : Int32} {l3 : Int32} {l4 : Int32} (hf : f_X15_week_b161 rec_73 σ l0 l1 l2 l3 l4 = some (r, z)) : v_ l D cy ka cX15_week RX15 10 (some FieldType.int) "week" 4 91 (qf_ D cy σ0 z (some (.int r))) σ0 z σ 161 [(0, va_rf (some l0)), (1, .int l1), (2, .int l2), (3, .int l3), (4, .int l4)] [] := by
  unfold f_X15_week_b161 at hf
  obtain ⟨x65, ex65⟩ : ∃ y : Int32, y = l4 + 1 := ⟨_, rfl⟩
  rw [lt_e, ← ex65] at hf
  refine v_iinc (v := x65) [(4, .int x65), (0, va_rf (some l0)), (1, .int l1), (2, .int l2), (3, .int l3)] dX15_week_161 4 rfl (by rw [ex65]; rfl) (by decide) rfl ?_
  refine v_goto (tgt := 73) dX15_week_164 (by decide) ?_
  refine v_sub [1, 2, 3, 4, 0] (L2 := [(0, va_rf (some l0)), (1, .int l1), (2, .int l2), (3, .int l3), (4, .int x65)]) rfl ?_
  exact hrec_73 _ _ _ _ _ _ hf
def f_X15_week_b159 (rec_73 : TH → Nat → Int32 → Int32 → Int32 → Int32 → Option (Int32 × TH)) (σ : TH) (l0 : Nat) (l1 : Int32) (l2 : Int32) (l4 : Int32) (t0 : Int32) (t1 : Int32) : Option (Int32 × TH) :=
  lt_ (t1 + t0) fun x70 => f_X15_week_b161 rec_73 σ l0 l1 l2 x70 l4
set_option maxHeartbeats 4000000 in
set_option maxRecDepth 100000 in
theorem t_X15_week_b159 {l : Launch} {D : va_G} {cy : Nat → ClassId} {ka : Nat → Nat} {σ0 z : TH} {r : Int32} {rec_73 : TH → Nat → Int32 → Int32 → Int32 → Int32 → Option (Int32 × TH)} (hrec_73 : ∀ (σ : TH) (l0 : Nat) (l1 : Int32) (l2 : Int32) (l3 : Int32) (l4 : Int32), rec_73 σ l0 l1 l2 l3 l4 = some (r, z) → v_ l D cy ka cX15_week RX15 10 (some FieldType.int) "week" 4 91 (qf_ D cy σ0 z (some (.int r))) σ0 z σ 73 [(0, va_rf (some l0)), (1, .int l1), (2, .int l2), (3, .int l3), (4, .int l4)] []) {σ : TH} {l0 : Nat} {l1 : Int32} {l2 : Int32} {l4 : Int32} {t0 : Int32} {t1 : Int32} (hf : f_X15_week_b159 rec_73 σ l0 l1 l2 l4 t0 t1 = some (r, z)) : v_ l D cy ka cX15_week RX15 10 (some FieldType.int) "week" 4 91 (qf_ D cy σ0 z (some (.int r))) σ0 z σ 159 [(0, va_rf (some l0)), (1, .int l1), (2, .int l2), (4, .int l4)] [.int t0, .int t1] := by
  unfold f_X15_week_b159 at hf
  refine v_iadd dX15_week_159 ?_
  obtain ⟨x70, ex70⟩ : ∃ y : Int32, y = t1 + t0 := ⟨_, rfl⟩
  rw [lt_e, ← ex70] at hf
  rw [← ex70]
  refine v_istore_n [(3, .int x70), (0, va_rf (some l0)), (1, .int l1), (2, .int l2), (4, .int l4)] dX15_week_160 rfl (by decide) rfl ?_
  refine v_sub [1, 2, 3, 0, 4] (L2 := [(0, va_rf (some l0)), (1, .int l1), (2, .int l2), (3, .int x70), (4, .int l4)]) rfl ?_
  exact t_X15_week_b161 hrec_73 hf
def f_X15_week_b154 (rec_73 : TH → Nat → Int32 → Int32 → Int32 → Int32 → Option (Int32 × TH)) (σ : TH) (l0 : Nat) (l1 : Int32) (l2 : Int32) (l4 : Int32) (t0 : Int32) : Option (Int32 × TH) :=
  f_X15_week_b159 rec_73 σ l0 l1 l2 l4 (1 : Int32) t0
set_option maxHeartbeats 4000000 in
set_option maxRecDepth 100000 in
theorem t_X15_week_b154 {l : Launch} {D : va_G} {cy : Nat → ClassId} {ka : Nat → Nat} {σ0 z : TH} {r : Int32} {rec_73 : TH → Nat → Int32 → Int32 → Int32 → Int32 → Option (Int32 × TH)} (hrec_73 : ∀ (σ : TH) (l0 : Nat) (l1 : Int32) (l2 : Int32) (l3 : Int32) (l4 : Int32), rec_73 σ l0 l1 l2 l3 l4 = some (r, z) → v_ l D cy ka cX15_week RX15 10 (some FieldType.int) "week" 4 91 (qf_ D cy σ0 z (some (.int r))) σ0 z σ 73 [(0, va_rf (some l0)), (1, .int l1), (2, .int l2), (3, .int l3), (4, .int l4)] []) {σ : TH} {l0 : Nat} {l1 : Int32} {l2 : Int32} {l4 : Int32} {t0 : Int32} (hf : f_X15_week_b154 rec_73 σ l0 l1 l2 l4 t0 = some (r, z)) : v_ l D cy ka cX15_week RX15 10 (some FieldType.int) "week" 4 91 (qf_ D cy σ0 z (some (.int r))) σ0 z σ 154 [(0, va_rf (some l0)), (1, .int l1), (2, .int l2), (4, .int l4)] [.int t0] := by
  unfold f_X15_week_b154 at hf
  refine v_iconst (v := 1) dX15_week_154 (by decide) ?_
  refine v_goto (tgt := 159) dX15_week_155 (by decide) ?_
  refine v_sub [0, 1, 2, 3] (L2 := [(0, va_rf (some l0)), (1, .int l1), (2, .int l2), (4, .int l4)]) rfl ?_
  exact t_X15_week_b159 hrec_73 hf
def f_X15_week_b158 (rec_73 : TH → Nat → Int32 → Int32 → Int32 → Int32 → Option (Int32 × TH)) (σ : TH) (l0 : Nat) (l1 : Int32) (l2 : Int32) (l4 : Int32) (t0 : Int32) : Option (Int32 × TH) :=
  f_X15_week_b159 rec_73 σ l0 l1 l2 l4 (0 : Int32) t0
set_option maxHeartbeats 4000000 in
set_option maxRecDepth 100000 in
theorem t_X15_week_b158 {l : Launch} {D : va_G} {cy : Nat → ClassId} {ka : Nat → Nat} {σ0 z : TH} {r : Int32} {rec_73 : TH → Nat → Int32 → Int32 → Int32 → Int32 → Option (Int32 × TH)} (hrec_73 : ∀ (σ : TH) (l0 : Nat) (l1 : Int32) (l2 : Int32) (l3 : Int32) (l4 : Int32), rec_73 σ l0 l1 l2 l3 l4 = some (r, z) → v_ l D cy ka cX15_week RX15 10 (some FieldType.int) "week" 4 91 (qf_ D cy σ0 z (some (.int r))) σ0 z σ 73 [(0, va_rf (some l0)), (1, .int l1), (2, .int l2), (3, .int l3), (4, .int l4)] []) {σ : TH} {l0 : Nat} {l1 : Int32} {l2 : Int32} {l4 : Int32} {t0 : Int32} (hf : f_X15_week_b158 rec_73 σ l0 l1 l2 l4 t0 = some (r, z)) : v_ l D cy ka cX15_week RX15 10 (some FieldType.int) "week" 4 91 (qf_ D cy σ0 z (some (.int r))) σ0 z σ 158 [(0, va_rf (some l0)), (1, .int l1), (2, .int l2), (4, .int l4)] [.int t0] := by
  unfold f_X15_week_b158 at hf
  refine v_iconst (v := 0) dX15_week_158 (by decide) ?_
  refine v_sub [0, 1, 2, 3] (L2 := [(0, va_rf (some l0)), (1, .int l1), (2, .int l2), (4, .int l4)]) rfl ?_
  exact t_X15_week_b159 hrec_73 hf
def f_X15_week_b73 (rec_26 : TH → Nat → Int32 → Int32 → Option (Int32 × TH)) : Nat → TH → Nat → Int32 → Int32 → Int32 → Int32 → Option (Int32 × TH)
  | 0, _, _, _, _, _, _ => none
  | n + 1, σ, l0, l1, l2, l3, l4 => gt_ (kd_ σ l0 = 17) <| lt_ (fi_ σ 1605 l0) fun x48 => if x48 ≤ l4 then (if l3 < (12 : Int32) then (lt_ (fr_ σ 1683 l0) fun r49 => lt_ (fi_ σ 1685 l0) fun x50 => nn_ r49 fun a51 => gt_ (kd_ σ a51 = 20) <| gt_ (¬ (x50 < 0 ∨ ln_ σ a51 ≤ x50.toNatClampNeg)) <| lt_ (sa_ σ a51 x50.toNatClampNeg l2) fun s52 => lt_ (fi_ s52 1685 l0) fun x53 => lt_ (si_ s52 1685 l0 (x53 + (1 : Int32))) fun s54 => f_X15_week_b196 rec_26 s54 l0 l1 l2) else (f_X15_week_b196 rec_26 σ l0 l1 l2)) else (lt_ (fr_ σ 1611 l0) fun r55 => nn_ r55 fun a56 => gt_ (kd_ σ a56 = 20) <| gt_ (¬ (l4 < 0 ∨ ln_ σ a56 ≤ l4.toNatClampNeg)) <| lt_ (ai_ σ a56 l4.toNatClampNeg) fun x57 => if x57 = l1 then (lt_ (fr_ σ 1615 l0) fun r58 => nn_ r58 fun a59 => gt_ (kd_ σ a59 = 22) <| gt_ (¬ (l4 < 0 ∨ ln_ σ a59 ≤ l4.toNatClampNeg)) <| lt_ (ai_ σ a59 l4.toNatClampNeg) fun x60 => if x60 = 0 then (bd_ (f_X15_today σ l0) fun x61 s62 => bd_ (f_X15_staleOf s62 l0 l4 x61) fun x63 s64 => if x63 = 0 then (f_X15_week_b161 (f_X15_week_b73 rec_26 n) s64 l0 l1 l2 l3 l4) else (bd_ (f_X15_gainOf s64 l0 l4) fun x66 s67 => bd_ (f_X15_gainOf s67 l0 l2) fun x68 s69 => if x68 < x66 then (f_X15_week_b154 (f_X15_week_b73 rec_26 n) s69 l0 l1 l2 l4 l3) else (bd_ (f_X15_gainOf s69 l0 l4) fun x71 s72 => bd_ (f_X15_gainOf s72 l0 l2) fun x73 s74 => if x71 = x73 then (if l2 ≤ l4 then (f_X15_week_b158 (f_X15_week_b73 rec_26 n) s74 l0 l1 l2 l4 l3) else (f_X15_week_b154 (f_X15_week_b73 rec_26 n) s74 l0 l1 l2 l4 l3)) else (f_X15_week_b158 (f_X15_week_b73 rec_26 n) s74 l0 l1 l2 l4 l3)))) else (f_X15_week_b161 (f_X15_week_b73 rec_26 n) σ l0 l1 l2 l3 l4)) else (f_X15_week_b161 (f_X15_week_b73 rec_26 n) σ l0 l1 l2 l3 l4))
set_option maxHeartbeats 4000000 in
set_option maxRecDepth 100000 in
theorem t_X15_week_b73 {l : Launch} {D : va_G} {cy : Nat → ClassId} {ka : Nat → Nat} {σ0 z : TH} {r : Int32} {rec_26 : TH → Nat → Int32 → Int32 → Option (Int32 × TH)} (hrec_26 : ∀ (σ : TH) (l0 : Nat) (l1 : Int32) (l2 : Int32), rec_26 σ l0 l1 l2 = some (r, z) → v_ l D cy ka cX15_week RX15 10 (some FieldType.int) "week" 4 91 (qf_ D cy σ0 z (some (.int r))) σ0 z σ 26 [(0, va_rf (some l0)), (1, .int l1), (2, .int l2)] []) : ∀ (n : Nat) (σ : TH) (l0 : Nat) (l1 : Int32) (l2 : Int32) (l3 : Int32) (l4 : Int32), f_X15_week_b73 rec_26 n σ l0 l1 l2 l3 l4 = some (r, z) → v_ l D cy ka cX15_week RX15 10 (some FieldType.int) "week" 4 91 (qf_ D cy σ0 z (some (.int r))) σ0 z σ 73 [(0, va_rf (some l0)), (1, .int l1), (2, .int l2), (3, .int l3), (4, .int l4)] [] := by
  intro n
  induction n with
  | zero => intro σ l0 l1 l2 l3 l4 hf; unfold f_X15_week_b73 at hf; cases hf
  | succ n ih =>
    intro σ l0 l1 l2 l3 l4 hf
    unfold f_X15_week_b73 at hf
    have hrec_73 := ih
    refine v_iload (x := l4) dX15_week_73 4 rfl ?_
    refine v_aload_n (x := (some l0)) dX15_week_75 rfl 0 rfl ?_
    obtain ⟨hk_l0, hf⟩ := gt_of hf
    refine v_geti cb_16 hk_l0 5 1605 rfl (by decide) rfl (lk_n kw_1462 rfl) hf dX15_week_76 (fun x48 hf => ?_)
    refine v_icmp_ge (tgt := 167) hf dX15_week_79 (by decide) (fun hq hf => ?_) (fun hq hf => ?_)
    · refine v_iload_n (x := l3) dX15_week_167 rfl 3 rfl ?_
      refine v_bipush (v := 12) dX15_week_168 (by decide) ?_
      refine v_icmp_lt (tgt := 176) hf dX15_week_170 (by decide) (fun hq hf => ?_) (fun hq hf => ?_)
      · refine v_aload_n (x := (some l0)) dX15_week_176 rfl 0 rfl ?_
        refine v_getr cb_16 hk_l0 83 1683 rfl (by decide) rfl (lk_n kw_1540 rfl) hf dX15_week_177 (fun r49 hf => ?_)
        refine v_aload_n (x := (some l0)) dX15_week_180 rfl 0 rfl ?_
        refine v_geti cb_16 hk_l0 85 1685 rfl (by decide) rfl (lk_n kw_1542 rfl) hf dX15_week_181 (fun x50 hf => ?_)
        refine v_iload_n (x := l2) dX15_week_184 rfl 2 rfl ?_
        obtain ⟨a51, rfl, hf⟩ := nn_of hf
        obtain ⟨hk_a51, hf⟩ := gt_of hf
        refine v_iast2 hk_a51 hf dX15_week_185 (fun s52 hts52 hf => ?_)
        have hk_l0 := tk_ hts52 hk_l0
        refine v_aload_n (x := (some l0)) dX15_week_186 rfl 0 rfl ?_
        refine v_dup dX15_week_187 (va_rf_cat _) ?_
        refine v_geti cb_16 hk_l0 85 1685 rfl (by decide) rfl (lk_n kw_1542 rfl) hf dX15_week_188 (fun x53 hf => ?_)
        refine v_iconst (v := 1) dX15_week_191 (by decide) ?_
        refine v_iadd dX15_week_192 ?_
        refine v_puti2 cb_16 hk_l0 85 1685 rfl (by decide) rfl (lk_n kw_1542 rfl) (Or.inl rfl) rfl rfl hf dX15_week_193 (fun s54 hts54 hf => ?_)
        have hk_l0 := tk_ hts54 hk_l0
        refine v_sub [0, 1, 2] (L2 := [(0, va_rf (some l0)), (1, .int l1), (2, .int l2)]) rfl ?_
        exact t_X15_week_b196 hrec_26 hf
      · refine v_goto (tgt := 196) dX15_week_173 (by decide) ?_
        refine v_sub [0, 1, 2] (L2 := [(0, va_rf (some l0)), (1, .int l1), (2, .int l2)]) rfl ?_
        exact t_X15_week_b196 hrec_26 hf
    · refine v_aload_n (x := (some l0)) dX15_week_82 rfl 0 rfl ?_
      refine v_getr cb_16 hk_l0 11 1611 rfl (by decide) rfl (lk_n kw_1468 rfl) hf dX15_week_83 (fun r55 hf => ?_)
      refine v_iload (x := l4) dX15_week_86 4 rfl ?_
      obtain ⟨a56, rfl, hf⟩ := nn_of hf
      obtain ⟨hk_a56, hf⟩ := gt_of hf
      refine v_iald hk_a56 hf dX15_week_88 (fun x57 hf => ?_)
      refine v_iload_n (x := l1) dX15_week_89 rfl 1 rfl ?_
      refine v_icmp_ne (tgt := 161) hf dX15_week_90 (by decide) (fun hq hf => ?_) (fun hq hf => ?_)
      · refine v_aload_n (x := (some l0)) dX15_week_93 rfl 0 rfl ?_
        refine v_getr cb_16 hk_l0 15 1615 rfl (by decide) rfl (lk_n kw_1472 rfl) hf dX15_week_94 (fun r58 hf => ?_)
        refine v_iload (x := l4) dX15_week_97 4 rfl ?_
        obtain ⟨a59, rfl, hf⟩ := nn_of hf
        obtain ⟨hk_a59, hf⟩ := gt_of hf
        refine v_zald hk_a59 hf dX15_week_99 (fun x60 hf => ?_)
        refine v_if_ne (tgt := 161) hf dX15_week_100 (by decide) (fun hq hf => ?_) (fun hq hf => ?_)
        · refine v_aload_n (x := (some l0)) dX15_week_103 rfl 0 rfl ?_
          refine v_iload (x := l4) dX15_week_104 4 rfl ?_
          refine v_aload_n (x := (some l0)) dX15_week_106 rfl 0 rfl ?_
          obtain ⟨x61, s62, hcs62, hf⟩ := bd_of hf
          have hts62 := c_X15_today (l := l) (D := D) (cy := cy) (ka := ka) hcs62
          refine v_callV cb_16 hk_l0 (As := []) (rest := [.int l4, va_rf (some l0)]) hts62 yb_X15_today kw_1774 kw_1776 kp_84 rfl ⟨Nat.le_of_ble_eq_true rfl, Nat.le_of_ble_eq_true rfl⟩ rfl (cat_len (Nat.le_of_ble_eq_true rfl)) dX15_week_107 ?_
          have hk_l0 := tk_ hts62.1 hk_l0
          show v_ l D cy ka cX15_week RX15 10 (some FieldType.int) "week" 4 91 (qf_ D cy σ0 z (some (.int r))) σ0 z _ 110 [(0, va_rf (some l0)), (1, .int l1), (2, .int l2), (3, .int l3), (4, .int l4)] [.int x61, .int l4, va_rf (some l0)]
          obtain ⟨x63, s64, hcs64, hf⟩ := bd_of hf
          have hts64 := c_X15_staleOf (l := l) (D := D) (cy := cy) (ka := ka) hcs64
          refine v_callV cb_16 hk_l0 (As := [.int l4, .int x61]) (rest := []) hts64 yb_X15_staleOf kw_1797 kw_1799 kp_89 rfl ⟨Nat.le_of_ble_eq_true rfl, Nat.le_of_ble_eq_true rfl⟩ rfl (cat_len (Nat.le_of_ble_eq_true rfl)) dX15_week_110 ?_
          have hk_l0 := tk_ hts64.1 hk_l0
          show v_ l D cy ka cX15_week RX15 10 (some FieldType.int) "week" 4 91 (qf_ D cy σ0 z (some (.int r))) σ0 z _ 113 [(0, va_rf (some l0)), (1, .int l1), (2, .int l2), (3, .int l3), (4, .int l4)] [.int x63]
          refine v_if_ne (tgt := 119) hf dX15_week_113 (by decide) (fun hq hf => ?_) (fun hq hf => ?_)
          · refine v_goto (tgt := 161) dX15_week_116 (by decide) ?_
            refine v_sub [0, 1, 2, 3, 4] (L2 := [(0, va_rf (some l0)), (1, .int l1), (2, .int l2), (3, .int l3), (4, .int l4)]) rfl ?_
            exact t_X15_week_b161 hrec_73 hf
          · refine v_iload_n (x := l3) dX15_week_119 rfl 3 rfl ?_
            refine v_aload_n (x := (some l0)) dX15_week_120 rfl 0 rfl ?_
            refine v_iload (x := l4) dX15_week_121 4 rfl ?_
            obtain ⟨x66, s67, hcs67, hf⟩ := bd_of hf
            have hts67 := c_X15_gainOf (l := l) (D := D) (cy := cy) (ka := ka) hcs67
            refine v_callV cb_16 hk_l0 (As := [.int l4]) (rest := [.int l3]) hts67 yb_X15_gainOf kw_2243 kw_2245 kp_135 rfl ⟨Nat.le_of_ble_eq_true rfl, Nat.le_of_ble_eq_true rfl⟩ rfl (cat_len (Nat.le_of_ble_eq_true rfl)) dX15_week_123 ?_
            have hk_l0 := tk_ hts67.1 hk_l0
            show v_ l D cy ka cX15_week RX15 10 (some FieldType.int) "week" 4 91 (qf_ D cy σ0 z (some (.int r))) σ0 z _ 126 [(0, va_rf (some l0)), (1, .int l1), (2, .int l2), (3, .int l3), (4, .int l4)] [.int x66, .int l3]
            refine v_aload_n (x := (some l0)) dX15_week_126 rfl 0 rfl ?_
            refine v_iload_n (x := l2) dX15_week_127 rfl 2 rfl ?_
            obtain ⟨x68, s69, hcs69, hf⟩ := bd_of hf
            have hts69 := c_X15_gainOf (l := l) (D := D) (cy := cy) (ka := ka) hcs69
            refine v_callV cb_16 hk_l0 (As := [.int l2]) (rest := [.int x66, .int l3]) hts69 yb_X15_gainOf kw_2243 kw_2245 kp_135 rfl ⟨Nat.le_of_ble_eq_true rfl, Nat.le_of_ble_eq_true rfl⟩ rfl (cat_len (Nat.le_of_ble_eq_true rfl)) dX15_week_128 ?_
            have hk_l0 := tk_ hts69.1 hk_l0
            show v_ l D cy ka cX15_week RX15 10 (some FieldType.int) "week" 4 91 (qf_ D cy σ0 z (some (.int r))) σ0 z _ 131 [(0, va_rf (some l0)), (1, .int l1), (2, .int l2), (3, .int l3), (4, .int l4)] [.int x68, .int x66, .int l3]
            refine v_icmp_gt (tgt := 154) hf dX15_week_131 (by decide) (fun hq hf => ?_) (fun hq hf => ?_)
            · refine v_sub [0, 1, 2, 4] (L2 := [(0, va_rf (some l0)), (1, .int l1), (2, .int l2), (4, .int l4)]) rfl ?_
              exact t_X15_week_b154 hrec_73 hf
            · refine v_aload_n (x := (some l0)) dX15_week_134 rfl 0 rfl ?_
              refine v_iload (x := l4) dX15_week_135 4 rfl ?_
              obtain ⟨x71, s72, hcs72, hf⟩ := bd_of hf
              have hts72 := c_X15_gainOf (l := l) (D := D) (cy := cy) (ka := ka) hcs72
              refine v_callV cb_16 hk_l0 (As := [.int l4]) (rest := [.int l3]) hts72 yb_X15_gainOf kw_2243 kw_2245 kp_135 rfl ⟨Nat.le_of_ble_eq_true rfl, Nat.le_of_ble_eq_true rfl⟩ rfl (cat_len (Nat.le_of_ble_eq_true rfl)) dX15_week_137 ?_
              have hk_l0 := tk_ hts72.1 hk_l0
              show v_ l D cy ka cX15_week RX15 10 (some FieldType.int) "week" 4 91 (qf_ D cy σ0 z (some (.int r))) σ0 z _ 140 [(0, va_rf (some l0)), (1, .int l1), (2, .int l2), (3, .int l3), (4, .int l4)] [.int x71, .int l3]
              refine v_aload_n (x := (some l0)) dX15_week_140 rfl 0 rfl ?_
              refine v_iload_n (x := l2) dX15_week_141 rfl 2 rfl ?_
              obtain ⟨x73, s74, hcs74, hf⟩ := bd_of hf
              have hts74 := c_X15_gainOf (l := l) (D := D) (cy := cy) (ka := ka) hcs74
              refine v_callV cb_16 hk_l0 (As := [.int l2]) (rest := [.int x71, .int l3]) hts74 yb_X15_gainOf kw_2243 kw_2245 kp_135 rfl ⟨Nat.le_of_ble_eq_true rfl, Nat.le_of_ble_eq_true rfl⟩ rfl (cat_len (Nat.le_of_ble_eq_true rfl)) dX15_week_142 ?_
              have hk_l0 := tk_ hts74.1 hk_l0
              show v_ l D cy ka cX15_week RX15 10 (some FieldType.int) "week" 4 91 (qf_ D cy σ0 z (some (.int r))) σ0 z _ 145 [(0, va_rf (some l0)), (1, .int l1), (2, .int l2), (3, .int l3), (4, .int l4)] [.int x73, .int x71, .int l3]
              refine v_icmp_ne (tgt := 158) hf dX15_week_145 (by decide) (fun hq hf => ?_) (fun hq hf => ?_)
              · refine v_iload (x := l4) dX15_week_148 4 rfl ?_
                refine v_iload_n (x := l2) dX15_week_150 rfl 2 rfl ?_
                refine v_icmp_ge (tgt := 158) hf dX15_week_151 (by decide) (fun hq hf => ?_) (fun hq hf => ?_)
                · refine v_sub [0, 1, 2, 4] (L2 := [(0, va_rf (some l0)), (1, .int l1), (2, .int l2), (4, .int l4)]) rfl ?_
                  exact t_X15_week_b158 hrec_73 hf
                · refine v_sub [0, 1, 2, 4] (L2 := [(0, va_rf (some l0)), (1, .int l1), (2, .int l2), (4, .int l4)]) rfl ?_
                  exact t_X15_week_b154 hrec_73 hf
              · refine v_sub [0, 1, 2, 4] (L2 := [(0, va_rf (some l0)), (1, .int l1), (2, .int l2), (4, .int l4)]) rfl ?_
                exact t_X15_week_b158 hrec_73 hf
        · refine v_sub [0, 1, 2, 3, 4] (L2 := [(0, va_rf (some l0)), (1, .int l1), (2, .int l2), (3, .int l3), (4, .int l4)]) rfl ?_
          exact t_X15_week_b161 hrec_73 hf
      · refine v_sub [0, 1, 2, 3, 4] (L2 := [(0, va_rf (some l0)), (1, .int l1), (2, .int l2), (3, .int l3), (4, .int l4)]) rfl ?_
        exact t_X15_week_b161 hrec_73 hf
def f_X15_week_b26 : Nat → TH → Nat → Int32 → Int32 → Option (Int32 × TH)
  | 0, _, _, _, _ => none
  | n + 1, σ, l0, l1, l2 => gt_ (kd_ σ l0 = 17) <| lt_ (fi_ σ 1605 l0) fun x7 => if x7 ≤ l2 then (f_X15_week_b212 fu_ σ l0 l1 (0 : Int32) (0 : Int32) (0 : Int32) (1 : Int32)) else (lt_ (fr_ σ 1611 l0) fun r37 => nn_ r37 fun a38 => gt_ (kd_ σ a38 = 20) <| gt_ (¬ (l2 < 0 ∨ ln_ σ a38 ≤ l2.toNatClampNeg)) <| lt_ (ai_ σ a38 l2.toNatClampNeg) fun x39 => if x39 = l1 then (lt_ (fr_ σ 1615 l0) fun r40 => nn_ r40 fun a41 => gt_ (kd_ σ a41 = 22) <| gt_ (¬ (l2 < 0 ∨ ln_ σ a41 ≤ l2.toNatClampNeg)) <| lt_ (ai_ σ a41 l2.toNatClampNeg) fun x42 => if x42 = 0 then (bd_ (f_X15_today σ l0) fun x43 s44 => bd_ (f_X15_staleOf s44 l0 l2 x43) fun x45 s46 => if x45 = 0 then (f_X15_week_b196 (f_X15_week_b26 n) s46 l0 l1 l2) else (f_X15_week_b73 (f_X15_week_b26 n) fu_ s46 l0 l1 l2 (0 : Int32) (0 : Int32))) else (f_X15_week_b196 (f_X15_week_b26 n) σ l0 l1 l2)) else (f_X15_week_b196 (f_X15_week_b26 n) σ l0 l1 l2))
set_option maxHeartbeats 4000000 in
set_option maxRecDepth 100000 in
theorem t_X15_week_b26 {l : Launch} {D : va_G} {cy : Nat → ClassId} {ka : Nat → Nat} {σ0 z : TH} {r : Int32}  : ∀ (n : Nat) (σ : TH) (l0 : Nat) (l1 : Int32) (l2 : Int32), f_X15_week_b26 n σ l0 l1 l2 = some (r, z) → v_ l D cy ka cX15_week RX15 10 (some FieldType.int) "week" 4 91 (qf_ D cy σ0 z (some (.int r))) σ0 z σ 26 [(0, va_rf (some l0)), (1, .int l1), (2, .int l2)] [] := by
  intro n
  induction n with
  | zero => intro σ l0 l1 l2 hf; unfold f_X15_week_b26 at hf; cases hf
  | succ n ih =>
    intro σ l0 l1 l2 hf
    unfold f_X15_week_b26 at hf
    have hrec_26 := ih
    refine v_iload_n (x := l2) dX15_week_26 rfl 2 rfl ?_
    refine v_aload_n (x := (some l0)) dX15_week_27 rfl 0 rfl ?_
    obtain ⟨hk_l0, hf⟩ := gt_of hf
    refine v_geti cb_16 hk_l0 5 1605 rfl (by decide) rfl (lk_n kw_1462 rfl) hf dX15_week_28 (fun x7 hf => ?_)
    refine v_icmp_ge (tgt := 202) hf dX15_week_31 (by decide) (fun hq hf => ?_) (fun hq hf => ?_)
    · refine v_iconst (v := 0) dX15_week_202 (by decide) ?_
      refine v_istore_n [(2, .int (0 : Int32)), (0, va_rf (some l0)), (1, .int l1)] dX15_week_203 rfl (by decide) rfl ?_
      refine v_iconst (v := 0) dX15_week_204 (by decide) ?_
      refine v_istore_n [(3, .int (0 : Int32)), (2, .int (0 : Int32)), (0, va_rf (some l0)), (1, .int l1)] dX15_week_205 rfl (by decide) rfl ?_
      refine v_iconst (v := 0) dX15_week_206 (by decide) ?_
      refine v_istore [(4, .int (0 : Int32)), (3, .int (0 : Int32)), (2, .int (0 : Int32)), (0, va_rf (some l0)), (1, .int l1)] dX15_week_207 (by decide) rfl ?_
      refine v_iconst (v := 1) dX15_week_209 (by decide) ?_
      refine v_istore [(5, .int (1 : Int32)), (4, .int (0 : Int32)), (3, .int (0 : Int32)), (2, .int (0 : Int32)), (0, va_rf (some l0)), (1, .int l1)] dX15_week_210 (by decide) rfl ?_
      refine v_sub [4, 5, 3, 2, 1, 0] (L2 := [(0, va_rf (some l0)), (1, .int l1), (2, .int (0 : Int32)), (3, .int (0 : Int32)), (4, .int (0 : Int32)), (5, .int (1 : Int32))]) rfl ?_
      exact t_X15_week_b212  _ _ _ _ _ _ _ _ hf
    · refine v_aload_n (x := (some l0)) dX15_week_34 rfl 0 rfl ?_
      refine v_getr cb_16 hk_l0 11 1611 rfl (by decide) rfl (lk_n kw_1468 rfl) hf dX15_week_35 (fun r37 hf => ?_)
      refine v_iload_n (x := l2) dX15_week_38 rfl 2 rfl ?_
      obtain ⟨a38, rfl, hf⟩ := nn_of hf
      obtain ⟨hk_a38, hf⟩ := gt_of hf
      refine v_iald hk_a38 hf dX15_week_39 (fun x39 hf => ?_)
      refine v_iload_n (x := l1) dX15_week_40 rfl 1 rfl ?_
      refine v_icmp_ne (tgt := 196) hf dX15_week_41 (by decide) (fun hq hf => ?_) (fun hq hf => ?_)
      · refine v_aload_n (x := (some l0)) dX15_week_44 rfl 0 rfl ?_
        refine v_getr cb_16 hk_l0 15 1615 rfl (by decide) rfl (lk_n kw_1472 rfl) hf dX15_week_45 (fun r40 hf => ?_)
        refine v_iload_n (x := l2) dX15_week_48 rfl 2 rfl ?_
        obtain ⟨a41, rfl, hf⟩ := nn_of hf
        obtain ⟨hk_a41, hf⟩ := gt_of hf
        refine v_zald hk_a41 hf dX15_week_49 (fun x42 hf => ?_)
        refine v_if_ne (tgt := 196) hf dX15_week_50 (by decide) (fun hq hf => ?_) (fun hq hf => ?_)
        · refine v_aload_n (x := (some l0)) dX15_week_53 rfl 0 rfl ?_
          refine v_iload_n (x := l2) dX15_week_54 rfl 2 rfl ?_
          refine v_aload_n (x := (some l0)) dX15_week_55 rfl 0 rfl ?_
          obtain ⟨x43, s44, hcs44, hf⟩ := bd_of hf
          have hts44 := c_X15_today (l := l) (D := D) (cy := cy) (ka := ka) hcs44
          refine v_callV cb_16 hk_l0 (As := []) (rest := [.int l2, va_rf (some l0)]) hts44 yb_X15_today kw_1774 kw_1776 kp_84 rfl ⟨Nat.le_of_ble_eq_true rfl, Nat.le_of_ble_eq_true rfl⟩ rfl (cat_len (Nat.le_of_ble_eq_true rfl)) dX15_week_56 ?_
          have hk_l0 := tk_ hts44.1 hk_l0
          show v_ l D cy ka cX15_week RX15 10 (some FieldType.int) "week" 4 91 (qf_ D cy σ0 z (some (.int r))) σ0 z _ 59 [(0, va_rf (some l0)), (1, .int l1), (2, .int l2)] [.int x43, .int l2, va_rf (some l0)]
          obtain ⟨x45, s46, hcs46, hf⟩ := bd_of hf
          have hts46 := c_X15_staleOf (l := l) (D := D) (cy := cy) (ka := ka) hcs46
          refine v_callV cb_16 hk_l0 (As := [.int l2, .int x43]) (rest := []) hts46 yb_X15_staleOf kw_1797 kw_1799 kp_89 rfl ⟨Nat.le_of_ble_eq_true rfl, Nat.le_of_ble_eq_true rfl⟩ rfl (cat_len (Nat.le_of_ble_eq_true rfl)) dX15_week_59 ?_
          have hk_l0 := tk_ hts46.1 hk_l0
          show v_ l D cy ka cX15_week RX15 10 (some FieldType.int) "week" 4 91 (qf_ D cy σ0 z (some (.int r))) σ0 z _ 62 [(0, va_rf (some l0)), (1, .int l1), (2, .int l2)] [.int x45]
          refine v_if_ne (tgt := 68) hf dX15_week_62 (by decide) (fun hq hf => ?_) (fun hq hf => ?_)
          · refine v_goto (tgt := 196) dX15_week_65 (by decide) ?_
            refine v_sub [0, 1, 2] (L2 := [(0, va_rf (some l0)), (1, .int l1), (2, .int l2)]) rfl ?_
            exact t_X15_week_b196 hrec_26 hf
          · refine v_iconst (v := 0) dX15_week_68 (by decide) ?_
            refine v_istore_n [(3, .int (0 : Int32)), (0, va_rf (some l0)), (1, .int l1), (2, .int l2)] dX15_week_69 rfl (by decide) rfl ?_
            refine v_iconst (v := 0) dX15_week_70 (by decide) ?_
            refine v_istore [(4, .int (0 : Int32)), (3, .int (0 : Int32)), (0, va_rf (some l0)), (1, .int l1), (2, .int l2)] dX15_week_71 (by decide) rfl ?_
            refine v_sub [2, 3, 4, 1, 0] (L2 := [(0, va_rf (some l0)), (1, .int l1), (2, .int l2), (3, .int (0 : Int32)), (4, .int (0 : Int32))]) rfl ?_
            exact t_X15_week_b73 hrec_26 _ _ _ _ _ _ _ hf
        · refine v_sub [0, 1, 2] (L2 := [(0, va_rf (some l0)), (1, .int l1), (2, .int l2)]) rfl ?_
          exact t_X15_week_b196 hrec_26 hf
      · refine v_sub [0, 1, 2] (L2 := [(0, va_rf (some l0)), (1, .int l1), (2, .int l2)]) rfl ?_
        exact t_X15_week_b196 hrec_26 hf
/-- LivesAheadModel.week(I)I -/
def f_X15_week (σ : TH) (p0 : Nat) (p1 : Int32) : Option (Int32 × TH) :=
  gt_ (kd_ σ p0 = 17) <| lt_ (si_ σ 1600 p0 (0 : Int32)) fun s1 => bd_ (f_X15_isLiving s1 p0 p1) fun x2 s3 => if x2 = 0 then (bd_ (f_X15_refused s3 p0 (1 : Int32)) fun x4 s5 => some (x4, s5)) else (lt_ (si_ s3 1685 p0 (0 : Int32)) fun s6 => f_X15_week_b26 fu_ s6 p0 p1 (0 : Int32))
set_option maxHeartbeats 4000000 in
set_option maxRecDepth 100000 in
theorem c_X15_week {l : Launch} {D : va_G} {cy : Nat → ClassId} {ka : Nat → Nat} {σ z : TH} {p0 : Nat} {p1 : Int32} {r : Int32} (hf : f_X15_week σ p0 p1 = some (r, z)) : ct_ l D cy ka yX15_week 4 91 [va_rf (some p0), .int p1] σ (some (.int r)) z := by
  unfold f_X15_week at hf
  refine v_start (cc := cX15_week) (own := RX15) (maxL := 10) (ret := (some FieldType.int)) (nm := "week") (by decide +kernel) kw_2242 rfl rfl (by simp [lg_sl, va_rf_cat, cat_i, cat_l]) ?_
  refine v_eqL (L2 := [(0, va_rf (some p0)), (1, .int p1)]) (by simp [lv_args, va_rf_cat, cat_i, cat_l]) ?_
  refine v_aload_n (x := (some p0)) dX15_week_0 rfl 0 rfl ?_
  refine v_iconst (v := 0) dX15_week_1 (by decide) ?_
  obtain ⟨hk_p0, hf⟩ := gt_of hf
  refine v_puti2 cb_16 hk_p0 0 1600 rfl (by decide) rfl (lk_n kw_1457 rfl) (Or.inl rfl) rfl rfl hf dX15_week_2 (fun s1 hts1 hf => ?_)
  have hk_p0 := tk_ hts1 hk_p0
  refine v_aload_n (x := (some p0)) dX15_week_5 rfl 0 rfl ?_
  refine v_iload_n (x := p1) dX15_week_6 rfl 1 rfl ?_
  obtain ⟨x2, s3, hcs3, hf⟩ := bd_of hf
  have hts3 := c_X15_isLiving (l := l) (D := D) (cy := cy) (ka := ka) hcs3
  refine v_callV cb_16 hk_p0 (As := [.int p1]) (rest := []) hts3 yb_X15_isLiving kw_1741 kw_1743 kp_79 rfl ⟨Nat.le_of_ble_eq_true rfl, Nat.le_of_ble_eq_true rfl⟩ rfl (cat_len (Nat.le_of_ble_eq_true rfl)) dX15_week_7 ?_
  have hk_p0 := tk_ hts3.1 hk_p0
  show v_ l D cy ka cX15_week RX15 10 (some FieldType.int) "week" 4 91 (qf_ D cy σ z (some (.int r))) σ z _ 10 [(0, va_rf (some p0)), (1, .int p1)] [.int x2]
  refine v_if_ne (tgt := 19) hf dX15_week_10 (by decide) (fun hq hf => ?_) (fun hq hf => ?_)
  · refine v_aload_n (x := (some p0)) dX15_week_13 rfl 0 rfl ?_
    refine v_iconst (v := 1) dX15_week_14 (by decide) ?_
    obtain ⟨x4, s5, hcs5, hf⟩ := bd_of hf
    have hts5 := c_X15_refused (l := l) (D := D) (cy := cy) (ka := ka) hcs5
    refine v_callV cb_16 hk_p0 (As := [.int (1 : Int32)]) (rest := []) hts5 yb_X15_refused kw_1729 kw_1731 kp_77 rfl ⟨Nat.le_of_ble_eq_true rfl, Nat.le_of_ble_eq_true rfl⟩ rfl (cat_len (Nat.le_of_ble_eq_true rfl)) dX15_week_15 ?_
    have hk_p0 := tk_ hts5.1 hk_p0
    show v_ l D cy ka cX15_week RX15 10 (some FieldType.int) "week" 4 91 (qf_ D cy σ z (some (.int r))) σ z _ 18 [(0, va_rf (some p0)), (1, .int p1)] [.int x4]
    exact v_iret hf dX15_week_18
  · refine v_aload_n (x := (some p0)) dX15_week_19 rfl 0 rfl ?_
    refine v_iconst (v := 0) dX15_week_20 (by decide) ?_
    refine v_puti2 cb_16 hk_p0 85 1685 rfl (by decide) rfl (lk_n kw_1542 rfl) (Or.inl rfl) rfl rfl hf dX15_week_21 (fun s6 hts6 hf => ?_)
    have hk_p0 := tk_ hts6 hk_p0
    refine v_iconst (v := 0) dX15_week_24 (by decide) ?_
    refine v_istore_n [(2, .int (0 : Int32)), (0, va_rf (some p0)), (1, .int p1)] dX15_week_25 rfl (by decide) rfl ?_
    refine v_sub [1, 2, 0] (L2 := [(0, va_rf (some p0)), (1, .int p1), (2, .int (0 : Int32))]) rfl ?_
    exact t_X15_week_b26  _ _ _ _ _ hf
theorem dX15_where_0 : decode cX15_where 0 = .ok (.aload_n 0, 1) := by decide +kernel
theorem dX15_where_1 : decode cX15_where 1 = .ok (.iconst 0, 1) := by decide +kernel
theorem dX15_where_2 : decode cX15_where 2 = .ok (.putfield 1, 3) := by decide +kernel
theorem dX15_where_5 : decode cX15_where 5 = .ok (.aload_n 0, 1) := by decide +kernel
theorem dX15_where_6 : decode cX15_where 6 = .ok (.getfield 10, 3) := by decide +kernel
theorem dX15_where_9 : decode cX15_where 9 = .ok (.ireturn, 1) := by decide +kernel
/-- LivesAheadModel.where()I -/
def f_X15_where (σ : TH) (p0 : Nat) : Option (Int32 × TH) :=
  gt_ (kd_ σ p0 = 17) <| lt_ (si_ σ 1600 p0 (0 : Int32)) fun s1 => lt_ (fi_ s1 1602 p0) fun x2 => some (x2, s1)
set_option maxHeartbeats 4000000 in
set_option maxRecDepth 100000 in
theorem c_X15_where {l : Launch} {D : va_G} {cy : Nat → ClassId} {ka : Nat → Nat} {σ z : TH} {p0 : Nat} {r : Int32} (hf : f_X15_where σ p0 = some (r, z)) : ct_ l D cy ka yX15_where 0 0 [va_rf (some p0)] σ (some (.int r)) z := by
  unfold f_X15_where at hf
  refine v_start (cc := cX15_where) (own := RX15) (maxL := 1) (ret := (some FieldType.int)) (nm := "where") (by decide +kernel) kw_2069 rfl rfl (by simp [lg_sl, va_rf_cat, cat_i, cat_l]) ?_
  refine v_eqL (L2 := [(0, va_rf (some p0))]) (by simp [lv_args, va_rf_cat, cat_i, cat_l]) ?_
  refine v_aload_n (x := (some p0)) dX15_where_0 rfl 0 rfl ?_
  refine v_iconst (v := 0) dX15_where_1 (by decide) ?_
  obtain ⟨hk_p0, hf⟩ := gt_of hf
  refine v_puti2 cb_16 hk_p0 0 1600 rfl (by decide) rfl (lk_n kw_1457 rfl) (Or.inl rfl) rfl rfl hf dX15_where_2 (fun s1 hts1 hf => ?_)
  have hk_p0 := tk_ hts1 hk_p0
  refine v_aload_n (x := (some p0)) dX15_where_5 rfl 0 rfl ?_
  refine v_geti cb_16 hk_p0 2 1602 rfl (by decide) rfl (lk_n kw_1459 rfl) hf dX15_where_6 (fun x2 hf => ?_)
  exact v_iret hf dX15_where_9
theorem dX15_withdraw_0 : decode cX15_withdraw 0 = .ok (.aload_n 0, 1) := by decide +kernel
theorem dX15_withdraw_1 : decode cX15_withdraw 1 = .ok (.iconst 0, 1) := by decide +kernel
theorem dX15_withdraw_2 : decode cX15_withdraw 2 = .ok (.putfield 1, 3) := by decide +kernel
theorem dX15_withdraw_5 : decode cX15_withdraw 5 = .ok (.iload_n 1, 1) := by decide +kernel
theorem dX15_withdraw_6 : decode cX15_withdraw 6 = .ok (.ifCond .lt 11, 3) := by decide +kernel
theorem dX15_withdraw_9 : decode cX15_withdraw 9 = .ok (.iload_n 1, 1) := by decide +kernel
theorem dX15_withdraw_10 : decode cX15_withdraw 10 = .ok (.aload_n 0, 1) := by decide +kernel
theorem dX15_withdraw_11 : decode cX15_withdraw 11 = .ok (.getfield 540, 3) := by decide +kernel
theorem dX15_withdraw_14 : decode cX15_withdraw 14 = .ok (.if_icmp .lt 9, 3) := by decide +kernel
theorem dX15_withdraw_17 : decode cX15_withdraw 17 = .ok (.aload_n 0, 1) := by decide +kernel
theorem dX15_withdraw_18 : decode cX15_withdraw 18 = .ok (.iconst 1, 1) := by decide +kernel
theorem dX15_withdraw_19 : decode cX15_withdraw 19 = .ok (.invokevirtual 212, 3) := by decide +kernel
theorem dX15_withdraw_22 : decode cX15_withdraw 22 = .ok (.ireturn, 1) := by decide +kernel
theorem dX15_withdraw_23 : decode cX15_withdraw 23 = .ok (.aload_n 0, 1) := by decide +kernel
theorem dX15_withdraw_24 : decode cX15_withdraw 24 = .ok (.getfield 140, 3) := by decide +kernel
theorem dX15_withdraw_27 : decode cX15_withdraw 27 = .ok (.iload_n 1, 1) := by decide +kernel
theorem dX15_withdraw_28 : decode cX15_withdraw 28 = .ok (.baload, 1) := by decide +kernel
theorem dX15_withdraw_29 : decode cX15_withdraw 29 = .ok (.ifCond .eq 9, 3) := by decide +kernel
theorem dX15_withdraw_32 : decode cX15_withdraw 32 = .ok (.aload_n 0, 1) := by decide +kernel
theorem dX15_withdraw_33 : decode cX15_withdraw 33 = .ok (.iconst 5, 1) := by decide +kernel
theorem dX15_withdraw_34 : decode cX15_withdraw 34 = .ok (.invokevirtual 212, 3) := by decide +kernel
theorem dX15_withdraw_37 : decode cX15_withdraw 37 = .ok (.ireturn, 1) := by decide +kernel
theorem dX15_withdraw_38 : decode cX15_withdraw 38 = .ok (.aload_n 0, 1) := by decide +kernel
theorem dX15_withdraw_39 : decode cX15_withdraw 39 = .ok (.getfield 140, 3) := by decide +kernel
theorem dX15_withdraw_42 : decode cX15_withdraw 42 = .ok (.iload_n 1, 1) := by decide +kernel
theorem dX15_withdraw_43 : decode cX15_withdraw 43 = .ok (.iconst 1, 1) := by decide +kernel
theorem dX15_withdraw_44 : decode cX15_withdraw 44 = .ok (.bastore, 1) := by decide +kernel
theorem dX15_withdraw_45 : decode cX15_withdraw 45 = .ok (.aload_n 0, 1) := by decide +kernel
theorem dX15_withdraw_46 : decode cX15_withdraw 46 = .ok (.invokevirtual 215, 3) := by decide +kernel
theorem dX15_withdraw_49 : decode cX15_withdraw 49 = .ok (.ireturn, 1) := by decide +kernel
def f_X15_withdraw_b17 (σ : TH) (l0 : Nat) : Option (Int32 × TH) :=
  gt_ (kd_ σ l0 = 17) <| bd_ (f_X15_denied σ l0 (1 : Int32)) fun x2 s3 => gt_ (x2 = 0 ∨ x2 = 1) <| some (x2, s3)
set_option maxHeartbeats 4000000 in
set_option maxRecDepth 100000 in
theorem t_X15_withdraw_b17 {l : Launch} {D : va_G} {cy : Nat → ClassId} {ka : Nat → Nat} {σ0 z : TH} {r : Int32}  {σ : TH} {l0 : Nat} (hf : f_X15_withdraw_b17 σ l0 = some (r, z)) : v_ l D cy ka cX15_withdraw RX15 2 (some FieldType.boolean) "withdraw" 1 21 (qf_ D cy σ0 z (some (.int r))) σ0 z σ 17 [(0, va_rf (some l0))] [] := by
  unfold f_X15_withdraw_b17 at hf
  refine v_aload_n (x := (some l0)) dX15_withdraw_17 rfl 0 rfl ?_
  refine v_iconst (v := 1) dX15_withdraw_18 (by decide) ?_
  obtain ⟨hk_l0, hf⟩ := gt_of hf
  obtain ⟨x2, s3, hcs3, hf⟩ := bd_of hf
  have hts3 := c_X15_denied (l := l) (D := D) (cy := cy) (ka := ka) hcs3
  refine v_callV cb_16 hk_l0 (As := [.int (1 : Int32)]) (rest := []) hts3 yb_X15_denied kw_1745 kw_1747 kp_80 rfl ⟨Nat.le_of_ble_eq_true rfl, Nat.le_of_ble_eq_true rfl⟩ rfl (cat_len (Nat.le_of_ble_eq_true rfl)) dX15_withdraw_19 ?_
  have hk_l0 := tk_ hts3.1 hk_l0
  show v_ l D cy ka cX15_withdraw RX15 2 (some FieldType.boolean) "withdraw" 1 21 (qf_ D cy σ0 z (some (.int r))) σ0 z _ 22 [(0, va_rf (some l0))] [.int x2]
  obtain ⟨hb9, hf⟩ := gt_of hf
  exact v_zret hf (nz_ hb9) dX15_withdraw_22
/-- LivesAheadModel.withdraw(I)Z -/
def f_X15_withdraw (σ : TH) (p0 : Nat) (p1 : Int32) : Option (Int32 × TH) :=
  gt_ (kd_ σ p0 = 17) <| lt_ (si_ σ 1600 p0 (0 : Int32)) fun s1 => if p1 < 0 then (f_X15_withdraw_b17 s1 p0) else (lt_ (fi_ s1 1659 p0) fun x4 => if p1 < x4 then (lt_ (fr_ s1 1668 p0) fun r5 => nn_ r5 fun a6 => gt_ (kd_ s1 a6 = 22) <| gt_ (¬ (p1 < 0 ∨ ln_ s1 a6 ≤ p1.toNatClampNeg)) <| lt_ (ai_ s1 a6 p1.toNatClampNeg) fun x7 => if x7 = 0 then (lt_ (fr_ s1 1668 p0) fun r8 => nn_ r8 fun a9 => gt_ (kd_ s1 a9 = 22) <| gt_ (¬ (p1 < 0 ∨ ln_ s1 a9 ≤ p1.toNatClampNeg)) <| lt_ (sa_ s1 a9 p1.toNatClampNeg (vp_nar .boolean (1 : Int32))) fun s10 => bd_ (f_X15_granted s10 p0) fun x11 s12 => gt_ (x11 = 0 ∨ x11 = 1) <| some (x11, s12)) else (bd_ (f_X15_denied s1 p0 (5 : Int32)) fun x13 s14 => gt_ (x13 = 0 ∨ x13 = 1) <| some (x13, s14))) else (f_X15_withdraw_b17 s1 p0))
set_option maxHeartbeats 4000000 in
set_option maxRecDepth 100000 in
theorem c_X15_withdraw {l : Launch} {D : va_G} {cy : Nat → ClassId} {ka : Nat → Nat} {σ z : TH} {p0 : Nat} {p1 : Int32} {r : Int32} (hf : f_X15_withdraw σ p0 p1 = some (r, z)) : ct_ l D cy ka yX15_withdraw 1 21 [va_rf (some p0), .int p1] σ (some (.int r)) z := by
  unfold f_X15_withdraw at hf
  refine v_start (cc := cX15_withdraw) (own := RX15) (maxL := 2) (ret := (some FieldType.boolean)) (nm := "withdraw") (by decide +kernel) kw_2133 rfl rfl (by simp [lg_sl, va_rf_cat, cat_i, cat_l]) ?_
  refine v_eqL (L2 := [(0, va_rf (some p0)), (1, .int p1)]) (by simp [lv_args, va_rf_cat, cat_i, cat_l]) ?_
  refine v_aload_n (x := (some p0)) dX15_withdraw_0 rfl 0 rfl ?_
  refine v_iconst (v := 0) dX15_withdraw_1 (by decide) ?_
  obtain ⟨hk_p0, hf⟩ := gt_of hf
  refine v_puti2 cb_16 hk_p0 0 1600 rfl (by decide) rfl (lk_n kw_1457 rfl) (Or.inl rfl) rfl rfl hf dX15_withdraw_2 (fun s1 hts1 hf => ?_)
  have hk_p0 := tk_ hts1 hk_p0
  refine v_iload_n (x := p1) dX15_withdraw_5 rfl 1 rfl ?_
  refine v_if_lt (tgt := 17) hf dX15_withdraw_6 (by decide) (fun hq hf => ?_) (fun hq hf => ?_)
  · refine v_sub [0] (L2 := [(0, va_rf (some p0))]) rfl ?_
    exact t_X15_withdraw_b17  hf
  · refine v_iload_n (x := p1) dX15_withdraw_9 rfl 1 rfl ?_
    refine v_aload_n (x := (some p0)) dX15_withdraw_10 rfl 0 rfl ?_
    refine v_geti cb_16 hk_p0 59 1659 rfl (by decide) rfl (lk_n kw_1516 rfl) hf dX15_withdraw_11 (fun x4 hf => ?_)
    refine v_icmp_lt (tgt := 23) hf dX15_withdraw_14 (by decide) (fun hq hf => ?_) (fun hq hf => ?_)
    · refine v_aload_n (x := (some p0)) dX15_withdraw_23 rfl 0 rfl ?_
      refine v_getr cb_16 hk_p0 68 1668 rfl (by decide) rfl (lk_n kw_1525 rfl) hf dX15_withdraw_24 (fun r5 hf => ?_)
      refine v_iload_n (x := p1) dX15_withdraw_27 rfl 1 rfl ?_
      obtain ⟨a6, rfl, hf⟩ := nn_of hf
      obtain ⟨hk_a6, hf⟩ := gt_of hf
      refine v_zald hk_a6 hf dX15_withdraw_28 (fun x7 hf => ?_)
      refine v_if_eq (tgt := 38) hf dX15_withdraw_29 (by decide) (fun hq hf => ?_) (fun hq hf => ?_)
      · refine v_aload_n (x := (some p0)) dX15_withdraw_38 rfl 0 rfl ?_
        refine v_getr cb_16 hk_p0 68 1668 rfl (by decide) rfl (lk_n kw_1525 rfl) hf dX15_withdraw_39 (fun r8 hf => ?_)
        refine v_iload_n (x := p1) dX15_withdraw_42 rfl 1 rfl ?_
        refine v_iconst (v := 1) dX15_withdraw_43 (by decide) ?_
        obtain ⟨a9, rfl, hf⟩ := nn_of hf
        obtain ⟨hk_a9, hf⟩ := gt_of hf
        refine v_zast2 hk_a9 hf dX15_withdraw_44 (fun s10 hts10 hf => ?_)
        have hk_p0 := tk_ hts10 hk_p0
        refine v_aload_n (x := (some p0)) dX15_withdraw_45 rfl 0 rfl ?_
        obtain ⟨x11, s12, hcs12, hf⟩ := bd_of hf
        have hts12 := c_X15_granted (l := l) (D := D) (cy := cy) (ka := ka) hcs12
        refine v_callV cb_16 hk_p0 (As := []) (rest := []) hts12 yb_X15_granted kw_1749 kw_1751 kp_81 rfl ⟨Nat.le_of_ble_eq_true rfl, Nat.le_of_ble_eq_true rfl⟩ rfl (cat_len (Nat.le_of_ble_eq_true rfl)) dX15_withdraw_46 ?_
        have hk_p0 := tk_ hts12.1 hk_p0
        show v_ l D cy ka cX15_withdraw RX15 2 (some FieldType.boolean) "withdraw" 1 21 (qf_ D cy σ z (some (.int r))) σ z _ 49 [(0, va_rf (some p0)), (1, .int p1)] [.int x11]
        obtain ⟨hb9, hf⟩ := gt_of hf
        exact v_zret hf (nz_ hb9) dX15_withdraw_49
      · refine v_aload_n (x := (some p0)) dX15_withdraw_32 rfl 0 rfl ?_
        refine v_iconst (v := 5) dX15_withdraw_33 (by decide) ?_
        obtain ⟨x13, s14, hcs14, hf⟩ := bd_of hf
        have hts14 := c_X15_denied (l := l) (D := D) (cy := cy) (ka := ka) hcs14
        refine v_callV cb_16 hk_p0 (As := [.int (5 : Int32)]) (rest := []) hts14 yb_X15_denied kw_1745 kw_1747 kp_80 rfl ⟨Nat.le_of_ble_eq_true rfl, Nat.le_of_ble_eq_true rfl⟩ rfl (cat_len (Nat.le_of_ble_eq_true rfl)) dX15_withdraw_34 ?_
        have hk_p0 := tk_ hts14.1 hk_p0
        show v_ l D cy ka cX15_withdraw RX15 2 (some FieldType.boolean) "withdraw" 1 21 (qf_ D cy σ z (some (.int r))) σ z _ 37 [(0, va_rf (some p0)), (1, .int p1)] [.int x13]
        obtain ⟨hb9, hf⟩ := gt_of hf
        exact v_zret hf (nz_ hb9) dX15_withdraw_37
    · refine v_sub [0] (L2 := [(0, va_rf (some p0))]) rfl ?_
      exact t_X15_withdraw_b17  hf
