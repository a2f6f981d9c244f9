/-! Functions over the typed heap and contracts, by wip/gen/gen.py: X15_bury X15_denied X15_granted X15_isKind X15_check X15_isEdition X15_wrongOf X15_correct X15_deads X15_living X15_count X15_at X15_isMarked X15_byteAt X15_is X15_isDigit X15_isLetter X15_isMark -/
theorem dX15_bury_0 : decode cX15_bury 0 = .ok (.aload_n 0, 1) := by decide +kernel
theorem dX15_bury_1 : decode cX15_bury 1 = .ok (.iconst 0, 1) := by decide +kernel
theorem dX15_bury_2 : decode cX15_bury 2 = .ok (.putfield 1, 3) := by decide +kernel
theorem dX15_bury_5 : decode cX15_bury 5 = .ok (.aload_n 0, 1) := by decide +kernel
theorem dX15_bury_6 : decode cX15_bury 6 = .ok (.iload_n 1, 1) := by decide +kernel
theorem dX15_bury_7 : decode cX15_bury 7 = .ok (.invokevirtual 208, 3) := by decide +kernel
theorem dX15_bury_10 : decode cX15_bury 10 = .ok (.ifCond .ne 9, 3) := by decide +kernel
theorem dX15_bury_13 : decode cX15_bury 13 = .ok (.aload_n 0, 1) := by decide +kernel
theorem dX15_bury_14 : decode cX15_bury 14 = .ok (.iconst 1, 1) := by decide +kernel
theorem dX15_bury_15 : decode cX15_bury 15 = .ok (.invokevirtual 201, 3) := by decide +kernel
theorem dX15_bury_18 : decode cX15_bury 18 = .ok (.ireturn, 1) := by decide +kernel
theorem dX15_bury_19 : decode cX15_bury 19 = .ok (.iconst (-1), 1) := by decide +kernel
theorem dX15_bury_20 : decode cX15_bury 20 = .ok (.istore_n 2, 1) := by decide +kernel
theorem dX15_bury_21 : decode cX15_bury 21 = .ok (.iconst 0, 1) := by decide +kernel
theorem dX15_bury_22 : decode cX15_bury 22 = .ok (.istore_n 3, 1) := by decide +kernel
theorem dX15_bury_23 : decode cX15_bury 23 = .ok (.iload_n 3, 1) := by decide +kernel
theorem dX15_bury_24 : decode cX15_bury 24 = .ok (.aload_n 0, 1) := by decide +kernel
theorem dX15_bury_25 : decode cX15_bury 25 = .ok (.getfield 194, 3) := by decide +kernel
theorem dX15_bury_28 : decode cX15_bury 28 = .ok (.if_icmp .ge 43, 3) := by decide +kernel
theorem dX15_bury_31 : decode cX15_bury 31 = .ok (.iload_n 3, 1) := by decide +kernel
theorem dX15_bury_32 : decode cX15_bury 32 = .ok (.iload_n 1, 1) := by decide +kernel
theorem dX15_bury_33 : decode cX15_bury 33 = .ok (.if_icmp .eq 32, 3) := by decide +kernel
theorem dX15_bury_36 : decode cX15_bury 36 = .ok (.aload_n 0, 1) := by decide +kernel
theorem dX15_bury_37 : decode cX15_bury 37 = .ok (.getfield 41, 3) := by decide +kernel
theorem dX15_bury_40 : decode cX15_bury 40 = .ok (.iload_n 3, 1) := by decide +kernel
theorem dX15_bury_41 : decode cX15_bury 41 = .ok (.baload, 1) := by decide +kernel
theorem dX15_bury_42 : decode cX15_bury 42 = .ok (.ifCond .ne 23, 3) := by decide +kernel
theorem dX15_bury_45 : decode cX15_bury 45 = .ok (.iload_n 2, 1) := by decide +kernel
theorem dX15_bury_46 : decode cX15_bury 46 = .ok (.iconst (-1), 1) := by decide +kernel
theorem dX15_bury_47 : decode cX15_bury 47 = .ok (.if_icmp .eq 16, 3) := by decide +kernel
theorem dX15_bury_50 : decode cX15_bury 50 = .ok (.aload_n 0, 1) := by decide +kernel
theorem dX15_bury_51 : decode cX15_bury 51 = .ok (.iload_n 3, 1) := by decide +kernel
theorem dX15_bury_52 : decode cX15_bury 52 = .ok (.invokevirtual 219, 3) := by decide +kernel
theorem dX15_bury_55 : decode cX15_bury 55 = .ok (.aload_n 0, 1) := by decide +kernel
theorem dX15_bury_56 : decode cX15_bury 56 = .ok (.iload_n 2, 1) := by decide +kernel
theorem dX15_bury_57 : decode cX15_bury 57 = .ok (.invokevirtual 219, 3) := by decide +kernel
theorem dX15_bury_60 : decode cX15_bury 60 = .ok (.if_icmp .ge 5, 3) := by decide +kernel
theorem dX15_bury_63 : decode cX15_bury 63 = .ok (.iload_n 3, 1) := by decide +kernel
theorem dX15_bury_64 : decode cX15_bury 64 = .ok (.istore_n 2, 1) := by decide +kernel
theorem dX15_bury_65 : decode cX15_bury 65 = .ok (.iinc 3 1, 3) := by decide +kernel
theorem dX15_bury_68 : decode cX15_bury 68 = .ok (.goto (-45), 3) := by decide +kernel
theorem dX15_bury_71 : decode cX15_bury 71 = .ok (.iload_n 2, 1) := by decide +kernel
theorem dX15_bury_72 : decode cX15_bury 72 = .ok (.iconst (-1), 1) := by decide +kernel
theorem dX15_bury_73 : decode cX15_bury 73 = .ok (.if_icmp .ne 9, 3) := by decide +kernel
theorem dX15_bury_76 : decode cX15_bury 76 = .ok (.aload_n 0, 1) := by decide +kernel
theorem dX15_bury_77 : decode cX15_bury 77 = .ok (.iconst 5, 1) := by decide +kernel
theorem dX15_bury_78 : decode cX15_bury 78 = .ok (.invokevirtual 201, 3) := by decide +kernel
theorem dX15_bury_81 : decode cX15_bury 81 = .ok (.ireturn, 1) := by decide +kernel
theorem dX15_bury_82 : decode cX15_bury 82 = .ok (.aload_n 0, 1) := by decide +kernel
theorem dX15_bury_83 : decode cX15_bury 83 = .ok (.iload_n 1, 1) := by decide +kernel
theorem dX15_bury_84 : decode cX15_bury 84 = .ok (.invokevirtual 219, 3) := by decide +kernel
theorem dX15_bury_87 : decode cX15_bury 87 = .ok (.istore_n 3, 1) := by decide +kernel
theorem dX15_bury_88 : decode cX15_bury 88 = .ok (.aload_n 0, 1) := by decide +kernel
theorem dX15_bury_89 : decode cX15_bury 89 = .ok (.getfield 41, 3) := by decide +kernel
theorem dX15_bury_92 : decode cX15_bury 92 = .ok (.iload_n 1, 1) := by decide +kernel
theorem dX15_bury_93 : decode cX15_bury 93 = .ok (.iconst 1, 1) := by decide +kernel
theorem dX15_bury_94 : decode cX15_bury 94 = .ok (.bastore, 1) := by decide +kernel
theorem dX15_bury_95 : decode cX15_bury 95 = .ok (.iconst 0, 1) := by decide +kernel
theorem dX15_bury_96 : decode cX15_bury 96 = .ok (.istore 4, 2) := by decide +kernel
theorem dX15_bury_98 : decode cX15_bury 98 = .ok (.iload 4, 2) := by decide +kernel
theorem dX15_bury_100 : decode cX15_bury 100 = .ok (.aload_n 0, 1) := by decide +kernel
theorem dX15_bury_101 : decode cX15_bury 101 = .ok (.getfield 191, 3) := by decide +kernel
theorem dX15_bury_104 : decode cX15_bury 104 = .ok (.if_icmp .ge 38, 3) := by decide +kernel
theorem dX15_bury_107 : decode cX15_bury 107 = .ok (.aload_n 0, 1) := by decide +kernel
theorem dX15_bury_108 : decode cX15_bury 108 = .ok (.getfield 32, 3) := by decide +kernel
theorem dX15_bury_111 : decode cX15_bury 111 = .ok (.iload 4, 2) := by decide +kernel
theorem dX15_bury_113 : decode cX15_bury 113 = .ok (.aload_n 0, 1) := by decide +kernel
theorem dX15_bury_114 : decode cX15_bury 114 = .ok (.getfield 32, 3) := by decide +kernel
theorem dX15_bury_117 : decode cX15_bury 117 = .ok (.iload 4, 2) := by decide +kernel
theorem dX15_bury_119 : decode cX15_bury 119 = .ok (.iaload, 1) := by decide +kernel
theorem dX15_bury_120 : decode cX15_bury 120 = .ok (.iload_n 1, 1) := by decide +kernel
theorem dX15_bury_121 : decode cX15_bury 121 = .ok (.if_icmp .ne 7, 3) := by decide +kernel
theorem dX15_bury_124 : decode cX15_bury 124 = .ok (.iload_n 2, 1) := by decide +kernel
theorem dX15_bury_125 : decode cX15_bury 125 = .ok (.goto 10, 3) := by decide +kernel
theorem dX15_bury_128 : decode cX15_bury 128 = .ok (.aload_n 0, 1) := by decide +kernel
theorem dX15_bury_129 : decode cX15_bury 129 = .ok (.getfield 32, 3) := by decide +kernel
theorem dX15_bury_132 : decode cX15_bury 132 = .ok (.iload 4, 2) := by decide +kernel
theorem dX15_bury_134 : decode cX15_bury 134 = .ok (.iaload, 1) := by decide +kernel
theorem dX15_bury_135 : decode cX15_bury 135 = .ok (.iastore, 1) := by decide +kernel
theorem dX15_bury_136 : decode cX15_bury 136 = .ok (.iinc 4 1, 3) := by decide +kernel
theorem dX15_bury_139 : decode cX15_bury 139 = .ok (.goto (-41), 3) := by decide +kernel
theorem dX15_bury_142 : decode cX15_bury 142 = .ok (.aload_n 0, 1) := by decide +kernel
theorem dX15_bury_143 : decode cX15_bury 143 = .ok (.iload_n 3, 1) := by decide +kernel
theorem dX15_bury_144 : decode cX15_bury 144 = .ok (.invokevirtual 205, 3) := by decide +kernel
theorem dX15_bury_147 : decode cX15_bury 147 = .ok (.ireturn, 1) := by decide +kernel
def f_X15_bury_b135 (rec_98 : TH → Nat → Int32 → Int32 → Int32 → Int32 → Option (Int32 × TH)) (σ : TH) (l0 : Nat) (l1 : Int32) (l2 : Int32) (l3 : Int32) (l4 : Int32) (t0 : Int32) (t1 : Int32) (t2 : Option Nat) : Option (Int32 × TH) :=
  nn_ t2 fun a21 => gt_ (kd_ σ a21 = 20) <| gt_ (¬ (t1 < 0 ∨ ln_ σ a21 ≤ t1.toNatClampNeg)) <| lt_ (sa_ σ a21 t1.toNatClampNeg t0) fun s22 => lt_ (l4 + 1) fun x23 => rec_98 s22 l0 l1 l2 l3 x23
set_option maxHeartbeats 4000000 in
set_option maxRecDepth 100000 in
theorem t_X15_bury_b135 {l : Launch} {D : va_G} {cy : Nat → ClassId} {ka : Nat → Nat} {σ0 z : TH} {r : Int32} {rec_98 : TH → Nat → Int32 → Int32 → Int32 → Int32 → Option (Int32 × TH)} (hrec_98 : ∀ (σ : TH) (l0 : Nat) (l1 : Int32) (l2 : Int32) (l3 : Int32) (l4 : Int32), rec_98 σ l0 l1 l2 l3 l4 = some (r, z) → v_ l D cy ka cX15_bury RX15 5 (some FieldType.int) "bury" 1 23 (qf_ D cy σ0 z (some (.int r))) σ0 z σ 98 [(0, va_rf (some l0)), (1, .int l1), (2, .int l2), (3, .int l3), (4, .int l4)] []) {σ : TH} {l0 : Nat} {l1 : Int32} {l2 : Int32} {l3 : Int32} {l4 : Int32} {t0 : Int32} {t1 : Int32} {t2 : Option Nat} (hf : f_X15_bury_b135 rec_98 σ l0 l1 l2 l3 l4 t0 t1 t2 = some (r, z)) : v_ l D cy ka cX15_bury RX15 5 (some FieldType.int) "bury" 1 23 (qf_ D cy σ0 z (some (.int r))) σ0 z σ 135 [(0, va_rf (some l0)), (1, .int l1), (2, .int l2), (3, .int l3), (4, .int l4)] [.int t0, .int t1, va_rf t2] := by
  unfold f_X15_bury_b135 at hf
  obtain ⟨a21, rfl, hf⟩ := nn_of hf
  obtain ⟨hk_a21, hf⟩ := gt_of hf
  refine v_iast2 hk_a21 hf dX15_bury_135 (fun s22 hts22 hf => ?_)
  obtain ⟨x23, ex23⟩ : ∃ y : Int32, y = l4 + 1 := ⟨_, rfl⟩
  rw [lt_e, ← ex23] at hf
  refine v_iinc (v := x23) [(4, .int x23), (0, va_rf (some l0)), (1, .int l1), (2, .int l2), (3, .int l3)] dX15_bury_136 4 rfl (by rw [ex23]; rfl) (by decide) rfl ?_
  refine v_goto (tgt := 98) dX15_bury_139 (by decide) ?_
  refine v_sub [1, 2, 3, 4, 0] (L2 := [(0, va_rf (some l0)), (1, .int l1), (2, .int l2), (3, .int l3), (4, .int x23)]) rfl ?_
  exact hrec_98 _ _ _ _ _ _ hf
def f_X15_bury_b98 : Nat → TH → Nat → Int32 → Int32 → Int32 → Int32 → Option (Int32 × TH)
  | 0, _, _, _, _, _, _ => none
  | n + 1, σ, l0, l1, l2, l3, l4 => gt_ (kd_ σ l0 = 17) <| lt_ (fi_ σ 1605 l0) fun x14 => if x14 ≤ l4 then (bd_ (f_X15_done σ l0 l3) fun x15 s16 => some (x15, s16)) else (lt_ (fr_ σ 1611 l0) fun r17 => lt_ (fr_ σ 1611 l0) fun r18 => nn_ r18 fun a19 => gt_ (kd_ σ a19 = 20) <| gt_ (¬ (l4 < 0 ∨ ln_ σ a19 ≤ l4.toNatClampNeg)) <| lt_ (ai_ σ a19 l4.toNatClampNeg) fun x20 => if x20 = l1 then (f_X15_bury_b135 (f_X15_bury_b98 n) σ l0 l1 l2 l3 l4 l2 l4 r17) else (lt_ (fr_ σ 1611 l0) fun r24 => nn_ r24 fun a25 => gt_ (kd_ σ a25 = 20) <| gt_ (¬ (l4 < 0 ∨ ln_ σ a25 ≤ l4.toNatClampNeg)) <| lt_ (ai_ σ a25 l4.toNatClampNeg) fun x26 => f_X15_bury_b135 (f_X15_bury_b98 n) σ l0 l1 l2 l3 l4 x26 l4 r17))
set_option maxHeartbeats 4000000 in
set_option maxRecDepth 100000 in
theorem t_X15_bury_b98 {l : Launch} {D : va_G} {cy : Nat → ClassId} {ka : Nat → Nat} {σ0 z : TH} {r : Int32}  : ∀ (n : Nat) (σ : TH) (l0 : Nat) (l1 : Int32) (l2 : Int32) (l3 : Int32) (l4 : Int32), f_X15_bury_b98 n σ l0 l1 l2 l3 l4 = some (r, z) → v_ l D cy ka cX15_bury RX15 5 (some FieldType.int) "bury" 1 23 (qf_ D cy σ0 z (some (.int r))) σ0 z σ 98 [(0, va_rf (some l0)), (1, .int l1), (2, .int l2), (3, .int l3), (4, .int l4)] [] := by
  intro n
  induction n with
  | zero => intro σ l0 l1 l2 l3 l4 hf; unfold f_X15_bury_b98 at hf; cases hf
  | succ n ih =>
    intro σ l0 l1 l2 l3 l4 hf
    unfold f_X15_bury_b98 at hf
    have hrec_98 := ih
    refine v_iload (x := l4) dX15_bury_98 4 rfl ?_
    refine v_aload_n (x := (some l0)) dX15_bury_100 rfl 0 rfl ?_
    obtain ⟨hk_l0, hf⟩ := gt_of hf
    refine v_geti cb_16 hk_l0 5 1605 rfl (by decide) rfl (lk_n kw_1462 rfl) hf dX15_bury_101 (fun x14 hf => ?_)
    refine v_icmp_ge (tgt := 142) hf dX15_bury_104 (by decide) (fun hq hf => ?_) (fun hq hf => ?_)
    · refine v_aload_n (x := (some l0)) dX15_bury_142 rfl 0 rfl ?_
      refine v_iload_n (x := l3) dX15_bury_143 rfl 3 rfl ?_
      obtain ⟨x15, s16, hcs16, hf⟩ := bd_of hf
      have hts16 := c_X15_done (l := l) (D := D) (cy := cy) (ka := ka) hcs16
      refine v_callV cb_16 hk_l0 (As := [.int l3]) (rest := []) hts16 yb_X15_done kw_1733 kw_1735 kp_78 rfl ⟨Nat.le_of_ble_eq_true rfl, Nat.le_of_ble_eq_true rfl⟩ rfl (cat_len (Nat.le_of_ble_eq_true rfl)) dX15_bury_144 ?_
      have hk_l0 := tk_ hts16.1 hk_l0
      show v_ l D cy ka cX15_bury RX15 5 (some FieldType.int) "bury" 1 23 (qf_ D cy σ0 z (some (.int r))) σ0 z _ 147 [(0, va_rf (some l0)), (1, .int l1), (2, .int l2), (3, .int l3), (4, .int l4)] [.int x15]
      exact v_iret hf dX15_bury_147
    · refine v_aload_n (x := (some l0)) dX15_bury_107 rfl 0 rfl ?_
      refine v_getr cb_16 hk_l0 11 1611 rfl (by decide) rfl (lk_n kw_1468 rfl) hf dX15_bury_108 (fun r17 hf => ?_)
      refine v_iload (x := l4) dX15_bury_111 4 rfl ?_
      refine v_aload_n (x := (some l0)) dX15_bury_113 rfl 0 rfl ?_
      refine v_getr cb_16 hk_l0 11 1611 rfl (by decide) rfl (lk_n kw_1468 rfl) hf dX15_bury_114 (fun r18 hf => ?_)
      refine v_iload (x := l4) dX15_bury_117 4 rfl ?_
      obtain ⟨a19, rfl, hf⟩ := nn_of hf
      obtain ⟨hk_a19, hf⟩ := gt_of hf
      refine v_iald hk_a19 hf dX15_bury_119 (fun x20 hf => ?_)
      refine v_iload_n (x := l1) dX15_bury_120 rfl 1 rfl ?_
      refine v_icmp_ne (tgt := 128) hf dX15_bury_121 (by decide) (fun hq hf => ?_) (fun hq hf => ?_)
      · refine v_iload_n (x := l2) dX15_bury_124 rfl 2 rfl ?_
        refine v_goto (tgt := 135) dX15_bury_125 (by decide) ?_
        refine v_sub [0, 1, 2, 3, 4] (L2 := [(0, va_rf (some l0)), (1, .int l1), (2, .int l2), (3, .int l3), (4, .int l4)]) rfl ?_
        exact t_X15_bury_b135 hrec_98 hf
      · refine v_aload_n (x := (some l0)) dX15_bury_128 rfl 0 rfl ?_
        refine v_getr cb_16 hk_l0 11 1611 rfl (by decide) rfl (lk_n kw_1468 rfl) hf dX15_bury_129 (fun r24 hf => ?_)
        refine v_iload (x := l4) dX15_bury_132 4 rfl ?_
        obtain ⟨a25, rfl, hf⟩ := nn_of hf
        obtain ⟨hk_a25, hf⟩ := gt_of hf
        refine v_iald hk_a25 hf dX15_bury_134 (fun x26 hf => ?_)
        refine v_sub [0, 1, 2, 3, 4] (L2 := [(0, va_rf (some l0)), (1, .int l1), (2, .int l2), (3, .int l3), (4, .int l4)]) rfl ?_
        exact t_X15_bury_b135 hrec_98 hf
def f_X15_bury_b65 (rec_23 : TH → Nat → Int32 → Int32 → Int32 → Option (Int32 × TH)) (σ : TH) (l0 : Nat) (l1 : Int32) (l2 : Int32) (l3 : Int32) : Option (Int32 × TH) :=
  lt_ (l3 + 1) fun x27 => rec_23 σ l0 l1 l2 x27
set_option maxHeartbeats 4000000 in
set_option maxRecDepth 100000 in
theorem t_X15_bury_b65 {l : Launch} {D : va_G} {cy : Nat → ClassId} {ka : Nat → Nat} {σ0 z : TH} {r : Int32} {rec_23 : TH → Nat → Int32 → Int32 → Int32 → Option (Int32 × TH)} (hrec_23 : ∀ (σ : TH) (l0 : Nat) (l1 : Int32) (l2 : Int32) (l3 : Int32), rec_23 σ l0 l1 l2 l3 = some (r, z) → v_ l D cy ka cX15_bury RX15 5 (some FieldType.int) "bury" 1 23 (qf_ D cy σ0 z (some (.int r))) σ0 z σ 23 [(0, va_rf (some l0)), (1, .int l1), (2, .int l2), (3, .int l3)] []) {σ : TH} {l0 : Nat} {l1 : Int32} {l2 : Int32} {l3 : Int32} (hf : f_X15_bury_b65 rec_23 σ l0 l1 l2 l3 = some (r, z)) : v_ l D cy ka cX15_bury RX15 5 (some FieldType.int) "bury" 1 23 (qf_ D cy σ0 z (some (.int r))) σ0 z σ 65 [(0, va_rf (some l0)), (1, .int l1), (2, .int l2), (3, .int l3)] [] := by
  unfold f_X15_bury_b65 at hf
  obtain ⟨x27, ex27⟩ : ∃ y : Int32, y = l3 + 1 := ⟨_, rfl⟩
  rw [lt_e, ← ex27] at hf
  refine v_iinc (v := x27) [(3, .int x27), (0, va_rf (some l0)), (1, .int l1), (2, .int l2)] dX15_bury_65 3 rfl (by rw [ex27]; rfl) (by decide) rfl ?_
  refine v_goto (tgt := 23) dX15_bury_68 (by decide) ?_
  refine v_sub [1, 2, 3, 0] (L2 := [(0, va_rf (some l0)), (1, .int l1), (2, .int l2), (3, .int x27)]) rfl ?_
  exact hrec_23 _ _ _ _ _ hf
def f_X15_bury_b63 (rec_23 : TH → Nat → Int32 → Int32 → Int32 → Option (Int32 × TH)) (σ : TH) (l0 : Nat) (l1 : Int32) (l3 : Int32) : Option (Int32 × TH) :=
  f_X15_bury_b65 rec_23 σ l0 l1 l3 l3
set_option maxHeartbeats 4000000 in
set_option maxRecDepth 100000 in
theorem t_X15_bury_b63 {l : Launch} {D : va_G} {cy : Nat → ClassId} {ka : Nat → Nat} {σ0 z : TH} {r : Int32} {rec_23 : TH → Nat → Int32 → Int32 → Int32 → Option (Int32 × TH)} (hrec_23 : ∀ (σ : TH) (l0 : Nat) (l1 : Int32) (l2 : Int32) (l3 : Int32), rec_23 σ l0 l1 l2 l3 = some (r, z) → v_ l D cy ka cX15_bury RX15 5 (some FieldType.int) "bury" 1 23 (qf_ D cy σ0 z (some (.int r))) σ0 z σ 23 [(0, va_rf (some l0)), (1, .int l1), (2, .int l2), (3, .int l3)] []) {σ : TH} {l0 : Nat} {l1 : Int32} {l3 : Int32} (hf : f_X15_bury_b63 rec_23 σ l0 l1 l3 = some (r, z)) : v_ l D cy ka cX15_bury RX15 5 (some FieldType.int) "bury" 1 23 (qf_ D cy σ0 z (some (.int r))) σ0 z σ 63 [(0, va_rf (some l0)), (1, .int l1), (3, .int l3)] [] := by
  unfold f_X15_bury_b63 at hf
  refine v_iload_n (x := l3) dX15_bury_63 rfl 2 rfl ?_
  refine v_istore_n [(2, .int l3), (0, va_rf (some l0)), (1, .int l1), (3, .int l3)] dX15_bury_64 rfl (by decide) rfl ?_
  refine v_sub [1, 2, 0, 3] (L2 := [(0, va_rf (some l0)), (1, .int l1), (2, .int l3), (3, .int l3)]) rfl ?_
  exact t_X15_bury_b65 hrec_23 hf
def f_X15_bury_b23 : Nat → TH → Nat → Int32 → Int32 → Int32 → Option (Int32 × TH)
  | 0, _, _, _, _, _ => none
  | n + 1, σ, l0, l1, l2, l3 => gt_ (kd_ σ l0 = 17) <| lt_ (fi_ σ 1604 l0) fun x6 => if x6 ≤ l3 then (if l2 = (-1 : Int32) then (bd_ (f_X15_refused σ l0 (5 : Int32)) fun x7 s8 => some (x7, s8)) else (bd_ (f_X15_storiesOf σ l0 l1) fun x9 s10 => lt_ (fr_ s10 1614 l0) fun r11 => nn_ r11 fun a12 => gt_ (kd_ s10 a12 = 22) <| gt_ (¬ (l1 < 0 ∨ ln_ s10 a12 ≤ l1.toNatClampNeg)) <| lt_ (sa_ s10 a12 l1.toNatClampNeg (vp_nar .boolean (1 : Int32))) fun s13 => f_X15_bury_b98 fu_ s13 l0 l1 l2 x9 (0 : Int32))) else (if l3 = l1 then (f_X15_bury_b65 (f_X15_bury_b23 n) σ l0 l1 l2 l3) else (lt_ (fr_ σ 1614 l0) fun r28 => nn_ r28 fun a29 => gt_ (kd_ σ a29 = 22) <| gt_ (¬ (l3 < 0 ∨ ln_ σ a29 ≤ l3.toNatClampNeg)) <| lt_ (ai_ σ a29 l3.toNatClampNeg) fun x30 => if x30 = 0 then (if l2 = (-1 : Int32) then (f_X15_bury_b63 (f_X15_bury_b23 n) σ l0 l1 l3) else (bd_ (f_X15_storiesOf σ l0 l3) fun x31 s32 => bd_ (f_X15_storiesOf s32 l0 l2) fun x33 s34 => if x33 ≤ x31 then (f_X15_bury_b65 (f_X15_bury_b23 n) s34 l0 l1 l2 l3) else (f_X15_bury_b63 (f_X15_bury_b23 n) s34 l0 l1 l3))) else (f_X15_bury_b65 (f_X15_bury_b23 n) σ l0 l1 l2 l3)))
set_option maxHeartbeats 4000000 in
set_option maxRecDepth 100000 in
theorem t_X15_bury_b23 {l : Launch} {D : va_G} {cy : Nat → ClassId} {ka : Nat → Nat} {σ0 z : TH} {r : Int32}  : ∀ (n : Nat) (σ : TH) (l0 : Nat) (l1 : Int32) (l2 : Int32) (l3 : Int32), f_X15_bury_b23 n σ l0 l1 l2 l3 = some (r, z) → v_ l D cy ka cX15_bury RX15 5 (some FieldType.int) "bury" 1 23 (qf_ D cy σ0 z (some (.int r))) σ0 z σ 23 [(0, va_rf (some l0)), (1, .int l1), (2, .int l2), (3, .int l3)] [] := by
  intro n
  induction n with
  | zero => intro σ l0 l1 l2 l3 hf; unfold f_X15_bury_b23 at hf; cases hf
  | succ n ih =>
    intro σ l0 l1 l2 l3 hf
    unfold f_X15_bury_b23 at hf
    have hrec_23 := ih
    refine v_iload_n (x := l3) dX15_bury_23 rfl 3 rfl ?_
    refine v_aload_n (x := (some l0)) dX15_bury_24 rfl 0 rfl ?_
    obtain ⟨hk_l0, hf⟩ := gt_of hf
    refine v_geti cb_16 hk_l0 4 1604 rfl (by decide) rfl (lk_n kw_1461 rfl) hf dX15_bury_25 (fun x6 hf => ?_)
    refine v_icmp_ge (tgt := 71) hf dX15_bury_28 (by decide) (fun hq hf => ?_) (fun hq hf => ?_)
    · refine v_iload_n (x := l2) dX15_bury_71 rfl 2 rfl ?_
      refine v_iconst (v := (-1)) dX15_bury_72 (by decide) ?_
      refine v_icmp_ne (tgt := 82) hf dX15_bury_73 (by decide) (fun hq hf => ?_) (fun hq hf => ?_)
      · refine v_aload_n (x := (some l0)) dX15_bury_76 rfl 0 rfl ?_
        refine v_iconst (v := 5) dX15_bury_77 (by decide) ?_
        obtain ⟨x7, s8, hcs8, hf⟩ := bd_of hf
        have hts8 := c_X15_refused (l := l) (D := D) (cy := cy) (ka := ka) hcs8
        refine v_callV cb_16 hk_l0 (As := [.int (5 : Int32)]) (rest := []) hts8 yb_X15_refused kw_1729 kw_1731 kp_77 rfl ⟨Nat.le_of_ble_eq_true rfl, Nat.le_of_ble_eq_true rfl⟩ rfl (cat_len (Nat.le_of_ble_eq_true rfl)) dX15_bury_78 ?_
        have hk_l0 := tk_ hts8.1 hk_l0
        show v_ l D cy ka cX15_bury RX15 5 (some FieldType.int) "bury" 1 23 (qf_ D cy σ0 z (some (.int r))) σ0 z _ 81 [(0, va_rf (some l0)), (1, .int l1), (2, .int l2), (3, .int l3)] [.int x7]
        exact v_iret hf dX15_bury_81
      · refine v_aload_n (x := (some l0)) dX15_bury_82 rfl 0 rfl ?_
        refine v_iload_n (x := l1) dX15_bury_83 rfl 1 rfl ?_
        obtain ⟨x9, s10, hcs10, hf⟩ := bd_of hf
        have hts10 := c_X15_storiesOf (l := l) (D := D) (cy := cy) (ka := ka) hcs10
        refine v_callV cb_16 hk_l0 (As := [.int l1]) (rest := []) hts10 yb_X15_storiesOf kw_1757 kw_1759 kp_82 rfl ⟨Nat.le_of_ble_eq_true rfl, Nat.le_of_ble_eq_true rfl⟩ rfl (cat_len (Nat.le_of_ble_eq_true rfl)) dX15_bury_84 ?_
        have hk_l0 := tk_ hts10.1 hk_l0
        show v_ l D cy ka cX15_bury RX15 5 (some FieldType.int) "bury" 1 23 (qf_ D cy σ0 z (some (.int r))) σ0 z _ 87 [(0, va_rf (some l0)), (1, .int l1), (2, .int l2), (3, .int l3)] [.int x9]
        refine v_istore_n [(3, .int x9), (0, va_rf (some l0)), (1, .int l1), (2, .int l2)] dX15_bury_87 rfl (by decide) rfl ?_
        refine v_aload_n (x := (some l0)) dX15_bury_88 rfl 1 rfl ?_
        refine v_getr cb_16 hk_l0 14 1614 rfl (by decide) rfl (lk_n kw_1471 rfl) hf dX15_bury_89 (fun r11 hf => ?_)
        refine v_iload_n (x := l1) dX15_bury_92 rfl 2 rfl ?_
        refine v_iconst (v := 1) dX15_bury_93 (by decide) ?_
        obtain ⟨a12, rfl, hf⟩ := nn_of hf
        obtain ⟨hk_a12, hf⟩ := gt_of hf
        refine v_zast2 hk_a12 hf dX15_bury_94 (fun s13 hts13 hf => ?_)
        have hk_l0 := tk_ hts13 hk_l0
        refine v_iconst (v := 0) dX15_bury_95 (by decide) ?_
        refine v_istore [(4, .int (0 : Int32)), (3, .int x9), (0, va_rf (some l0)), (1, .int l1), (2, .int l2)] dX15_bury_96 (by decide) rfl ?_
        refine v_sub [2, 3, 4, 1, 0] (L2 := [(0, va_rf (some l0)), (1, .int l1), (2, .int l2), (3, .int x9), (4, .int (0 : Int32))]) rfl ?_
        exact t_X15_bury_b98  _ _ _ _ _ _ _ hf
    · refine v_iload_n (x := l3) dX15_bury_31 rfl 3 rfl ?_
      refine v_iload_n (x := l1) dX15_bury_32 rfl 1 rfl ?_
      refine v_icmp_eq (tgt := 65) hf dX15_bury_33 (by decide) (fun hq hf => ?_) (fun hq hf => ?_)
      · refine v_sub [0, 1, 2, 3] (L2 := [(0, va_rf (some l0)), (1, .int l1), (2, .int l2), (3, .int l3)]) rfl ?_
        exact t_X15_bury_b65 hrec_23 hf
      · refine v_aload_n (x := (some l0)) dX15_bury_36 rfl 0 rfl ?_
        refine v_getr cb_16 hk_l0 14 1614 rfl (by decide) rfl (lk_n kw_1471 rfl) hf dX15_bury_37 (fun r28 hf => ?_)
        refine v_iload_n (x := l3) dX15_bury_40 rfl 3 rfl ?_
        obtain ⟨a29, rfl, hf⟩ := nn_of hf
        obtain ⟨hk_a29, hf⟩ := gt_of hf
        refine v_zald hk_a29 hf dX15_bury_41 (fun x30 hf => ?_)
        refine v_if_ne (tgt := 65) hf dX15_bury_42 (by decide) (fun hq hf => ?_) (fun hq hf => ?_)
        · refine v_iload_n (x := l2) dX15_bury_45 rfl 2 rfl ?_
          refine v_iconst (v := (-1)) dX15_bury_46 (by decide) ?_
          refine v_icmp_eq (tgt := 63) hf dX15_bury_47 (by decide) (fun hq hf => ?_) (fun hq hf => ?_)
          · refine v_sub [0, 1, 3] (L2 := [(0, va_rf (some l0)), (1, .int l1), (3, .int l3)]) rfl ?_
            exact t_X15_bury_b63 hrec_23 hf
          · refine v_aload_n (x := (some l0)) dX15_bury_50 rfl 0 rfl ?_
            refine v_iload_n (x := l3) dX15_bury_51 rfl 3 rfl ?_
            obtain ⟨x31, s32, hcs32, hf⟩ := bd_of hf
            have hts32 := c_X15_storiesOf (l := l) (D := D) (cy := cy) (ka := ka) hcs32
            refine v_callV cb_16 hk_l0 (As := [.int l3]) (rest := []) hts32 yb_X15_storiesOf kw_1757 kw_1759 kp_82 rfl ⟨Nat.le_of_ble_eq_true rfl, Nat.le_of_ble_eq_true rfl⟩ rfl (cat_len (Nat.le_of_ble_eq_true rfl)) dX15_bury_52 ?_
            have hk_l0 := tk_ hts32.1 hk_l0
            show v_ l D cy ka cX15_bury RX15 5 (some FieldType.int) "bury" 1 23 (qf_ D cy σ0 z (some (.int r))) σ0 z _ 55 [(0, va_rf (some l0)), (1, .int l1), (2, .int l2), (3, .int l3)] [.int x31]
            refine v_aload_n (x := (some l0)) dX15_bury_55 rfl 0 rfl ?_
            refine v_iload_n (x := l2) dX15_bury_56 rfl 2 rfl ?_
            obtain ⟨x33, s34, hcs34, hf⟩ := bd_of hf
            have hts34 := c_X15_storiesOf (l := l) (D := D) (cy := cy) (ka := ka) hcs34
            refine v_callV cb_16 hk_l0 (As := [.int l2]) (rest := [.int x31]) hts34 yb_X15_storiesOf kw_1757 kw_1759 kp_82 rfl ⟨Nat.le_of_ble_eq_true rfl, Nat.le_of_ble_eq_true rfl⟩ rfl (cat_len (Nat.le_of_ble_eq_true rfl)) dX15_bury_57 ?_
            have hk_l0 := tk_ hts34.1 hk_l0
            show v_ l D cy ka cX15_bury RX15 5 (some FieldType.int) "bury" 1 23 (qf_ D cy σ0 z (some (.int r))) σ0 z _ 60 [(0, va_rf (some l0)), (1, .int l1), (2, .int l2), (3, .int l3)] [.int x33, .int x31]
            refine v_icmp_ge (tgt := 65) hf dX15_bury_60 (by decide) (fun hq hf => ?_) (fun hq hf => ?_)
            · refine v_sub [0, 1, 2, 3] (L2 := [(0, va_rf (some l0)), (1, .int l1), (2, .int l2), (3, .int l3)]) rfl ?_
              exact t_X15_bury_b65 hrec_23 hf
            · refine v_sub [0, 1, 3] (L2 := [(0, va_rf (some l0)), (1, .int l1), (3, .int l3)]) rfl ?_
              exact t_X15_bury_b63 hrec_23 hf
        · refine v_sub [0, 1, 2, 3] (L2 := [(0, va_rf (some l0)), (1, .int l1), (2, .int l2), (3, .int l3)]) rfl ?_
          exact t_X15_bury_b65 hrec_23 hf
/-- LivesAheadModel.bury(I)I -/
def f_X15_bury (σ : TH) (p0 : Nat) (p1 : Int32) : Option (Int32 × TH) :=
  gt_ (kd_ σ p0 = 17) <| lt_ (si_ σ 1600 p0 (0 : Int32)) fun s1 => bd_ (f_X15_isLiving s1 p0 p1) fun x2 s3 => if x2 = 0 then (bd_ (f_X15_refused s3 p0 (1 : Int32)) fun x4 s5 => some (x4, s5)) else (f_X15_bury_b23 fu_ s3 p0 p1 (-1 : Int32) (0 : Int32))
set_option maxHeartbeats 4000000 in
set_option maxRecDepth 100000 in
theorem c_X15_bury {l : Launch} {D : va_G} {cy : Nat → ClassId} {ka : Nat → Nat} {σ z : TH} {p0 : Nat} {p1 : Int32} {r : Int32} (hf : f_X15_bury σ p0 p1 = some (r, z)) : ct_ l D cy ka yX15_bury 1 23 [va_rf (some p0), .int p1] σ (some (.int r)) z := by
  unfold f_X15_bury at hf
  refine v_start (cc := cX15_bury) (own := RX15) (maxL := 5) (ret := (some FieldType.int)) (nm := "bury") (by decide +kernel) kw_1756 rfl rfl (by simp [lg_sl, va_rf_cat, cat_i, cat_l]) ?_
  refine v_eqL (L2 := [(0, va_rf (some p0)), (1, .int p1)]) (by simp [lv_args, va_rf_cat, cat_i, cat_l]) ?_
  refine v_aload_n (x := (some p0)) dX15_bury_0 rfl 0 rfl ?_
  refine v_iconst (v := 0) dX15_bury_1 (by decide) ?_
  obtain ⟨hk_p0, hf⟩ := gt_of hf
  refine v_puti2 cb_16 hk_p0 0 1600 rfl (by decide) rfl (lk_n kw_1457 rfl) (Or.inl rfl) rfl rfl hf dX15_bury_2 (fun s1 hts1 hf => ?_)
  have hk_p0 := tk_ hts1 hk_p0
  refine v_aload_n (x := (some p0)) dX15_bury_5 rfl 0 rfl ?_
  refine v_iload_n (x := p1) dX15_bury_6 rfl 1 rfl ?_
  obtain ⟨x2, s3, hcs3, hf⟩ := bd_of hf
  have hts3 := c_X15_isLiving (l := l) (D := D) (cy := cy) (ka := ka) hcs3
  refine v_callV cb_16 hk_p0 (As := [.int p1]) (rest := []) hts3 yb_X15_isLiving kw_1741 kw_1743 kp_79 rfl ⟨Nat.le_of_ble_eq_true rfl, Nat.le_of_ble_eq_true rfl⟩ rfl (cat_len (Nat.le_of_ble_eq_true rfl)) dX15_bury_7 ?_
  have hk_p0 := tk_ hts3.1 hk_p0
  show v_ l D cy ka cX15_bury RX15 5 (some FieldType.int) "bury" 1 23 (qf_ D cy σ z (some (.int r))) σ z _ 10 [(0, va_rf (some p0)), (1, .int p1)] [.int x2]
  refine v_if_ne (tgt := 19) hf dX15_bury_10 (by decide) (fun hq hf => ?_) (fun hq hf => ?_)
  · refine v_aload_n (x := (some p0)) dX15_bury_13 rfl 0 rfl ?_
    refine v_iconst (v := 1) dX15_bury_14 (by decide) ?_
    obtain ⟨x4, s5, hcs5, hf⟩ := bd_of hf
    have hts5 := c_X15_refused (l := l) (D := D) (cy := cy) (ka := ka) hcs5
    refine v_callV cb_16 hk_p0 (As := [.int (1 : Int32)]) (rest := []) hts5 yb_X15_refused kw_1729 kw_1731 kp_77 rfl ⟨Nat.le_of_ble_eq_true rfl, Nat.le_of_ble_eq_true rfl⟩ rfl (cat_len (Nat.le_of_ble_eq_true rfl)) dX15_bury_15 ?_
    have hk_p0 := tk_ hts5.1 hk_p0
    show v_ l D cy ka cX15_bury RX15 5 (some FieldType.int) "bury" 1 23 (qf_ D cy σ z (some (.int r))) σ z _ 18 [(0, va_rf (some p0)), (1, .int p1)] [.int x4]
    exact v_iret hf dX15_bury_18
  · refine v_iconst (v := (-1)) dX15_bury_19 (by decide) ?_
    refine v_istore_n [(2, .int (-1 : Int32)), (0, va_rf (some p0)), (1, .int p1)] dX15_bury_20 rfl (by decide) rfl ?_
    refine v_iconst (v := 0) dX15_bury_21 (by decide) ?_
    refine v_istore_n [(3, .int (0 : Int32)), (2, .int (-1 : Int32)), (0, va_rf (some p0)), (1, .int p1)] dX15_bury_22 rfl (by decide) rfl ?_
    refine v_sub [2, 3, 1, 0] (L2 := [(0, va_rf (some p0)), (1, .int p1), (2, .int (-1 : Int32)), (3, .int (0 : Int32))]) rfl ?_
    exact t_X15_bury_b23  _ _ _ _ _ _ hf
theorem dX15_denied_0 : decode cX15_denied 0 = .ok (.aload_n 0, 1) := by decide +kernel
theorem dX15_denied_1 : decode cX15_denied 1 = .ok (.iload_n 1, 1) := by decide +kernel
theorem dX15_denied_2 : decode cX15_denied 2 = .ok (.putfield 7, 3) := by decide +kernel
theorem dX15_denied_5 : decode cX15_denied 5 = .ok (.aload_n 0, 1) := by decide +kernel
theorem dX15_denied_6 : decode cX15_denied 6 = .ok (.iconst (-1), 1) := by decide +kernel
theorem dX15_denied_7 : decode cX15_denied 7 = .ok (.putfield 10, 3) := by decide +kernel
theorem dX15_denied_10 : decode cX15_denied 10 = .ok (.iconst 0, 1) := by decide +kernel
theorem dX15_denied_11 : decode cX15_denied 11 = .ok (.ireturn, 1) := by decide +kernel
/-- LivesAheadModel.denied(I)Z -/
def f_X15_denied (σ : TH) (p0 : Nat) (p1 : Int32) : Option (Int32 × TH) :=
  gt_ (kd_ σ p0 = 17) <| lt_ (si_ σ 1601 p0 p1) fun s1 => lt_ (si_ s1 1602 p0 (-1 : Int32)) fun s2 => some ((0 : Int32), s2)
set_option maxHeartbeats 4000000 in
set_option maxRecDepth 100000 in
theorem c_X15_denied {l : Launch} {D : va_G} {cy : Nat → ClassId} {ka : Nat → Nat} {σ z : TH} {p0 : Nat} {p1 : Int32} {r : Int32} (hf : f_X15_denied σ p0 p1 = some (r, z)) : ct_ l D cy ka yX15_denied 0 0 [va_rf (some p0), .int p1] σ (some (.int r)) z := by
  unfold f_X15_denied at hf
  refine v_start (cc := cX15_denied) (own := RX15) (maxL := 2) (ret := (some FieldType.boolean)) (nm := "denied") (by decide +kernel) kw_1748 rfl rfl (by simp [lg_sl, va_rf_cat, cat_i, cat_l]) ?_
  refine v_eqL (L2 := [(0, va_rf (some p0)), (1, .int p1)]) (by simp [lv_args, va_rf_cat, cat_i, cat_l]) ?_
  refine v_aload_n (x := (some p0)) dX15_denied_0 rfl 0 rfl ?_
  refine v_iload_n (x := p1) dX15_denied_1 rfl 1 rfl ?_
  obtain ⟨hk_p0, hf⟩ := gt_of hf
  refine v_puti2 cb_16 hk_p0 1 1601 rfl (by decide) rfl (lk_n kw_1458 rfl) (Or.inl rfl) rfl rfl hf dX15_denied_2 (fun s1 hts1 hf => ?_)
  have hk_p0 := tk_ hts1 hk_p0
  refine v_aload_n (x := (some p0)) dX15_denied_5 rfl 0 rfl ?_
  refine v_iconst (v := (-1)) dX15_denied_6 (by decide) ?_
  refine v_puti2 cb_16 hk_p0 2 1602 rfl (by decide) rfl (lk_n kw_1459 rfl) (Or.inl rfl) rfl rfl hf dX15_denied_7 (fun s2 hts2 hf => ?_)
  have hk_p0 := tk_ hts2 hk_p0
  refine v_iconst (v := 0) dX15_denied_10 (by decide) ?_
  exact v_zret hf rfl dX15_denied_11
theorem dX15_granted_0 : decode cX15_granted 0 = .ok (.aload_n 0, 1) := by decide +kernel
theorem dX15_granted_1 : decode cX15_granted 1 = .ok (.iconst 0, 1) := by decide +kernel
theorem dX15_granted_2 : decode cX15_granted 2 = .ok (.putfield 7, 3) := by decide +kernel
theorem dX15_granted_5 : decode cX15_granted 5 = .ok (.aload_n 0, 1) := by decide +kernel
theorem dX15_granted_6 : decode cX15_granted 6 = .ok (.iconst (-1), 1) := by decide +kernel
theorem dX15_granted_7 : decode cX15_granted 7 = .ok (.putfield 10, 3) := by decide +kernel
theorem dX15_granted_10 : decode cX15_granted 10 = .ok (.iconst 1, 1) := by decide +kernel
theorem dX15_granted_11 : decode cX15_granted 11 = .ok (.ireturn, 1) := by decide +kernel
/-- LivesAheadModel.granted()Z -/
def f_X15_granted (σ : TH) (p0 : Nat) : Option (Int32 × TH) :=
  gt_ (kd_ σ p0 = 17) <| lt_ (si_ σ 1601 p0 (0 : Int32)) fun s1 => lt_ (si_ s1 1602 p0 (-1 : Int32)) fun s2 => some ((1 : Int32), s2)
set_option maxHeartbeats 4000000 in
set_option maxRecDepth 100000 in
theorem c_X15_granted {l : Launch} {D : va_G} {cy : Nat → ClassId} {ka : Nat → Nat} {σ z : TH} {p0 : Nat} {r : Int32} (hf : f_X15_granted σ p0 = some (r, z)) : ct_ l D cy ka yX15_granted 0 0 [va_rf (some p0)] σ (some (.int r)) z := by
  unfold f_X15_granted at hf
  refine v_start (cc := cX15_granted) (own := RX15) (maxL := 1) (ret := (some FieldType.boolean)) (nm := "granted") (by decide +kernel) kw_1752 rfl rfl (by simp [lg_sl, va_rf_cat, cat_i, cat_l]) ?_
  refine v_eqL (L2 := [(0, va_rf (some p0))]) (by simp [lv_args, va_rf_cat, cat_i, cat_l]) ?_
  refine v_aload_n (x := (some p0)) dX15_granted_0 rfl 0 rfl ?_
  refine v_iconst (v := 0) dX15_granted_1 (by decide) ?_
  obtain ⟨hk_p0, hf⟩ := gt_of hf
  refine v_puti2 cb_16 hk_p0 1 1601 rfl (by decide) rfl (lk_n kw_1458 rfl) (Or.inl rfl) rfl rfl hf dX15_granted_2 (fun s1 hts1 hf => ?_)
  have hk_p0 := tk_ hts1 hk_p0
  refine v_aload_n (x := (some p0)) dX15_granted_5 rfl 0 rfl ?_
  refine v_iconst (v := (-1)) dX15_granted_6 (by decide) ?_
  refine v_puti2 cb_16 hk_p0 2 1602 rfl (by decide) rfl (lk_n kw_1459 rfl) (Or.inl rfl) rfl rfl hf dX15_granted_7 (fun s2 hts2 hf => ?_)
  have hk_p0 := tk_ hts2 hk_p0
  refine v_iconst (v := 1) dX15_granted_10 (by decide) ?_
  exact v_zret hf rfl dX15_granted_11
theorem dX15_isKind_0 : decode cX15_isKind 0 = .ok (.iload_n 0, 1) := by decide +kernel
theorem dX15_isKind_1 : decode cX15_isKind 1 = .ok (.ifCond .lt 13, 3) := by decide +kernel
theorem dX15_isKind_4 : decode cX15_isKind 4 = .ok (.iload_n 0, 1) := by decide +kernel
theorem dX15_isKind_5 : decode cX15_isKind 5 = .ok (.bipush 10, 2) := by decide +kernel
theorem dX15_isKind_7 : decode cX15_isKind 7 = .ok (.if_icmp .ge 7, 3) := by decide +kernel
theorem dX15_isKind_10 : decode cX15_isKind 10 = .ok (.iconst 1, 1) := by decide +kernel
theorem dX15_isKind_11 : decode cX15_isKind 11 = .ok (.goto 4, 3) := by decide +kernel
theorem dX15_isKind_14 : decode cX15_isKind 14 = .ok (.iconst 0, 1) := by decide +kernel
theorem dX15_isKind_15 : decode cX15_isKind 15 = .ok (.ireturn, 1) := by decide +kernel
def f_X15_isKind_b15 (σ : TH) (t0 : Int32) : Option (Int32 × TH) :=
  gt_ (t0 = 0 ∨ t0 = 1) <| some (t0, σ)
set_option maxHeartbeats 4000000 in
set_option maxRecDepth 100000 in
theorem t_X15_isKind_b15 {l : Launch} {D : va_G} {cy : Nat → ClassId} {ka : Nat → Nat} {σ0 z : TH} {r : Int32}  {σ : TH} {t0 : Int32} (hf : f_X15_isKind_b15 σ t0 = some (r, z)) : v_ l D cy ka cX15_isKind RX15 1 (some FieldType.boolean) "isKind" 0 0 (qf_ D cy σ0 z (some (.int r))) σ0 z σ 15 [] [.int t0] := by
  unfold f_X15_isKind_b15 at hf
  obtain ⟨hb9, hf⟩ := gt_of hf
  exact v_zret hf (nz_ hb9) dX15_isKind_15
def f_X15_isKind_b14 (σ : TH) : Option (Int32 × TH) :=
  f_X15_isKind_b15 σ (0 : Int32)
set_option maxHeartbeats 4000000 in
set_option maxRecDepth 100000 in
theorem t_X15_isKind_b14 {l : Launch} {D : va_G} {cy : Nat → ClassId} {ka : Nat → Nat} {σ0 z : TH} {r : Int32}  {σ : TH}  (hf : f_X15_isKind_b14 σ  = some (r, z)) : v_ l D cy ka cX15_isKind RX15 1 (some FieldType.boolean) "isKind" 0 0 (qf_ D cy σ0 z (some (.int r))) σ0 z σ 14 [] [] := by
  unfold f_X15_isKind_b14 at hf
  refine v_iconst (v := 0) dX15_isKind_14 (by decide) ?_
  refine v_sub [] (L2 := []) rfl ?_
  exact t_X15_isKind_b15  hf
/-- LivesAheadModel.isKind(I)Z -/
def f_X15_isKind (σ : TH) (p0 : Int32) : Option (Int32 × TH) :=
  if p0 < 0 then (f_X15_isKind_b14 σ ) else (if (10 : Int32) ≤ p0 then (f_X15_isKind_b14 σ ) else (f_X15_isKind_b15 σ (1 : Int32)))
set_option maxHeartbeats 4000000 in
set_option maxRecDepth 100000 in
theorem c_X15_isKind {l : Launch} {D : va_G} {cy : Nat → ClassId} {ka : Nat → Nat} {σ z : TH} {p0 : Int32} {r : Int32} (hf : f_X15_isKind σ p0 = some (r, z)) : ct_ l D cy ka yX15_isKind 0 0 [.int p0] σ (some (.int r)) z := by
  unfold f_X15_isKind at hf
  refine v_start (cc := cX15_isKind) (own := RX15) (maxL := 1) (ret := (some FieldType.boolean)) (nm := "isKind") (by decide +kernel) kw_1815 rfl rfl (by simp [lg_sl, va_rf_cat, cat_i, cat_l]) ?_
  refine v_eqL (L2 := [(0, .int p0)]) (by simp [lv_args, va_rf_cat, cat_i, cat_l]) ?_
  refine v_iload_n (x := p0) dX15_isKind_0 rfl 0 rfl ?_
  refine v_if_lt (tgt := 14) hf dX15_isKind_1 (by decide) (fun hq hf => ?_) (fun hq hf => ?_)
  · refine v_sub [] (L2 := []) rfl ?_
    exact t_X15_isKind_b14  hf
  · refine v_iload_n (x := p0) dX15_isKind_4 rfl 0 rfl ?_
    refine v_bipush (v := 10) dX15_isKind_5 (by decide) ?_
    refine v_icmp_ge (tgt := 14) hf dX15_isKind_7 (by decide) (fun hq hf => ?_) (fun hq hf => ?_)
    · refine v_sub [] (L2 := []) rfl ?_
      exact t_X15_isKind_b14  hf
    · refine v_iconst (v := 1) dX15_isKind_10 (by decide) ?_
      refine v_goto (tgt := 15) dX15_isKind_11 (by decide) ?_
      refine v_sub [] (L2 := []) rfl ?_
      exact t_X15_isKind_b15  hf
theorem dX15_check_0 : decode cX15_check 0 = .ok (.aload_n 0, 1) := by decide +kernel
theorem dX15_check_1 : decode cX15_check 1 = .ok (.iconst 0, 1) := by decide +kernel
theorem dX15_check_2 : decode cX15_check 2 = .ok (.putfield 1, 3) := by decide +kernel
theorem dX15_check_5 : decode cX15_check 5 = .ok (.aload_n 0, 1) := by decide +kernel
theorem dX15_check_6 : decode cX15_check 6 = .ok (.iload_n 1, 1) := by decide +kernel
theorem dX15_check_7 : decode cX15_check 7 = .ok (.invokevirtual 227, 3) := by decide +kernel
theorem dX15_check_10 : decode cX15_check 10 = .ok (.ifCond .ne 9, 3) := by decide +kernel
theorem dX15_check_13 : decode cX15_check 13 = .ok (.aload_n 0, 1) := by decide +kernel
theorem dX15_check_14 : decode cX15_check 14 = .ok (.iconst 1, 1) := by decide +kernel
theorem dX15_check_15 : decode cX15_check 15 = .ok (.invokevirtual 212, 3) := by decide +kernel
theorem dX15_check_18 : decode cX15_check 18 = .ok (.ireturn, 1) := by decide +kernel
theorem dX15_check_19 : decode cX15_check 19 = .ok (.iload_n 2, 1) := by decide +kernel
theorem dX15_check_20 : decode cX15_check 20 = .ok (.invokestatic 250, 3) := by decide +kernel
theorem dX15_check_23 : decode cX15_check 23 = .ok (.ifCond .ne 9, 3) := by decide +kernel
theorem dX15_check_26 : decode cX15_check 26 = .ok (.aload_n 0, 1) := by decide +kernel
theorem dX15_check_27 : decode cX15_check 27 = .ok (.iconst 2, 1) := by decide +kernel
theorem dX15_check_28 : decode cX15_check 28 = .ok (.invokevirtual 212, 3) := by decide +kernel
theorem dX15_check_31 : decode cX15_check 31 = .ok (.ireturn, 1) := by decide +kernel
theorem dX15_check_32 : decode cX15_check 32 = .ok (.aload_n 0, 1) := by decide +kernel
theorem dX15_check_33 : decode cX15_check 33 = .ok (.getfield 54, 3) := by decide +kernel
theorem dX15_check_36 : decode cX15_check 36 = .ok (.bipush 10, 2) := by decide +kernel
theorem dX15_check_38 : decode cX15_check 38 = .ok (.iload_n 1, 1) := by decide +kernel
theorem dX15_check_39 : decode cX15_check 39 = .ok (.imul, 1) := by decide +kernel
theorem dX15_check_40 : decode cX15_check 40 = .ok (.iload_n 2, 1) := by decide +kernel
theorem dX15_check_41 : decode cX15_check 41 = .ok (.iadd, 1) := by decide +kernel
theorem dX15_check_42 : decode cX15_check 42 = .ok (.iaload, 1) := by decide +kernel
theorem dX15_check_43 : decode cX15_check 43 = .ok (.iconst (-1), 1) := by decide +kernel
theorem dX15_check_44 : decode cX15_check 44 = .ok (.if_icmp .ne 9, 3) := by decide +kernel
theorem dX15_check_47 : decode cX15_check 47 = .ok (.aload_n 0, 1) := by decide +kernel
theorem dX15_check_48 : decode cX15_check 48 = .ok (.iconst 1, 1) := by decide +kernel
theorem dX15_check_49 : decode cX15_check 49 = .ok (.invokevirtual 212, 3) := by decide +kernel
theorem dX15_check_52 : decode cX15_check 52 = .ok (.ireturn, 1) := by decide +kernel
theorem dX15_check_53 : decode cX15_check 53 = .ok (.aload_n 0, 1) := by decide +kernel
theorem dX15_check_54 : decode cX15_check 54 = .ok (.getfield 54, 3) := by decide +kernel
theorem dX15_check_57 : decode cX15_check 57 = .ok (.bipush 10, 2) := by decide +kernel
theorem dX15_check_59 : decode cX15_check 59 = .ok (.iload_n 1, 1) := by decide +kernel
theorem dX15_check_60 : decode cX15_check 60 = .ok (.imul, 1) := by decide +kernel
theorem dX15_check_61 : decode cX15_check 61 = .ok (.iload_n 2, 1) := by decide +kernel
theorem dX15_check_62 : decode cX15_check 62 = .ok (.iadd, 1) := by decide +kernel
theorem dX15_check_63 : decode cX15_check 63 = .ok (.aload_n 0, 1) := by decide +kernel
theorem dX15_check_64 : decode cX15_check 64 = .ok (.invokevirtual 230, 3) := by decide +kernel
theorem dX15_check_67 : decode cX15_check 67 = .ok (.iastore, 1) := by decide +kernel
theorem dX15_check_68 : decode cX15_check 68 = .ok (.aload_n 0, 1) := by decide +kernel
theorem dX15_check_69 : decode cX15_check 69 = .ok (.invokevirtual 215, 3) := by decide +kernel
theorem dX15_check_72 : decode cX15_check 72 = .ok (.ireturn, 1) := by decide +kernel
/-- LivesAheadModel.check(II)Z -/
def f_X15_check (σ : TH) (p0 : Nat) (p1 : Int32) (p2 : Int32) : Option (Int32 × TH) :=
  gt_ (kd_ σ p0 = 17) <| lt_ (si_ σ 1600 p0 (0 : Int32)) fun s1 => bd_ (f_X15_isPerson s1 p0 p1) fun x2 s3 => if x2 = 0 then (bd_ (f_X15_denied s3 p0 (1 : Int32)) fun x4 s5 => gt_ (x4 = 0 ∨ x4 = 1) <| some (x4, s5)) else (bd_ (f_X15_isKind s3 p2) fun x6 s7 => if x6 = 0 then (bd_ (f_X15_denied s7 p0 (2 : Int32)) fun x8 s9 => gt_ (x8 = 0 ∨ x8 = 1) <| some (x8, s9)) else (lt_ (fr_ s7 1619 p0) fun r10 => nn_ r10 fun a11 => gt_ (kd_ s7 a11 = 20) <| gt_ (¬ ((((10 : Int32) * p1) + p2) < 0 ∨ ln_ s7 a11 ≤ (((10 : Int32) * p1) + p2 : Int32).toNatClampNeg)) <| lt_ (ai_ s7 a11 ((((10 : Int32) * p1) + p2 : Int32).toNatClampNeg)) fun x12 => if x12 = (-1 : Int32) then (bd_ (f_X15_denied s7 p0 (1 : Int32)) fun x13 s14 => gt_ (x13 = 0 ∨ x13 = 1) <| some (x13, s14)) else (lt_ (fr_ s7 1619 p0) fun r15 => bd_ (f_X15_today s7 p0) fun x16 s17 => nn_ r15 fun a18 => gt_ (kd_ s17 a18 = 20) <| gt_ (¬ ((((10 : Int32) * p1) + p2) < 0 ∨ ln_ s17 a18 ≤ (((10 : Int32) * p1) + p2 : Int32).toNatClampNeg)) <| lt_ (sa_ s17 a18 ((((10 : Int32) * p1) + p2 : Int32).toNatClampNeg) x16) fun s19 => bd_ (f_X15_granted s19 p0) fun x20 s21 => gt_ (x20 = 0 ∨ x20 = 1) <| some (x20, s21))))
set_option maxHeartbeats 4000000 in
set_option maxRecDepth 100000 in
theorem c_X15_check {l : Launch} {D : va_G} {cy : Nat → ClassId} {ka : Nat → Nat} {σ z : TH} {p0 : Nat} {p1 : Int32} {p2 : Int32} {r : Int32} (hf : f_X15_check σ p0 p1 p2 = some (r, z)) : ct_ l D cy ka yX15_check 1 21 [va_rf (some p0), .int p1, .int p2] σ (some (.int r)) z := by
  unfold f_X15_check at hf
  refine v_start (cc := cX15_check) (own := RX15) (maxL := 3) (ret := (some FieldType.boolean)) (nm := "check") (by decide +kernel) kw_1827 rfl rfl (by simp [lg_sl, va_rf_cat, cat_i, cat_l]) ?_
  refine v_eqL (L2 := [(0, va_rf (some p0)), (1, .int p1), (2, .int p2)]) (by simp [lv_args, va_rf_cat, cat_i, cat_l]) ?_
  refine v_aload_n (x := (some p0)) dX15_check_0 rfl 0 rfl ?_
  refine v_iconst (v := 0) dX15_check_1 (by decide) ?_
  obtain ⟨hk_p0, hf⟩ := gt_of hf
  refine v_puti2 cb_16 hk_p0 0 1600 rfl (by decide) rfl (lk_n kw_1457 rfl) (Or.inl rfl) rfl rfl hf dX15_check_2 (fun s1 hts1 hf => ?_)
  have hk_p0 := tk_ hts1 hk_p0
  refine v_aload_n (x := (some p0)) dX15_check_5 rfl 0 rfl ?_
  refine v_iload_n (x := p1) dX15_check_6 rfl 1 rfl ?_
  obtain ⟨x2, s3, hcs3, hf⟩ := bd_of hf
  have hts3 := c_X15_isPerson (l := l) (D := D) (cy := cy) (ka := ka) hcs3
  refine v_callV cb_16 hk_p0 (As := [.int p1]) (rest := []) hts3 yb_X15_isPerson kw_1770 kw_1772 kp_83 rfl ⟨Nat.le_of_ble_eq_true rfl, Nat.le_of_ble_eq_true rfl⟩ rfl (cat_len (Nat.le_of_ble_eq_true rfl)) dX15_check_7 ?_
  have hk_p0 := tk_ hts3.1 hk_p0
  show v_ l D cy ka cX15_check RX15 3 (some FieldType.boolean) "check" 1 21 (qf_ D cy σ z (some (.int r))) σ z _ 10 [(0, va_rf (some p0)), (1, .int p1), (2, .int p2)] [.int x2]
  refine v_if_ne (tgt := 19) hf dX15_check_10 (by decide) (fun hq hf => ?_) (fun hq hf => ?_)
  · refine v_aload_n (x := (some p0)) dX15_check_13 rfl 0 rfl ?_
    refine v_iconst (v := 1) dX15_check_14 (by decide) ?_
    obtain ⟨x4, s5, hcs5, hf⟩ := bd_of hf
    have hts5 := c_X15_denied (l := l) (D := D) (cy := cy) (ka := ka) hcs5
    refine v_callV cb_16 hk_p0 (As := [.int (1 : Int32)]) (rest := []) hts5 yb_X15_denied kw_1745 kw_1747 kp_80 rfl ⟨Nat.le_of_ble_eq_true rfl, Nat.le_of_ble_eq_true rfl⟩ rfl (cat_len (Nat.le_of_ble_eq_true rfl)) dX15_check_15 ?_
    have hk_p0 := tk_ hts5.1 hk_p0
    show v_ l D cy ka cX15_check RX15 3 (some FieldType.boolean) "check" 1 21 (qf_ D cy σ z (some (.int r))) σ z _ 18 [(0, va_rf (some p0)), (1, .int p1), (2, .int p2)] [.int x4]
    obtain ⟨hb9, hf⟩ := gt_of hf
    exact v_zret hf (nz_ hb9) dX15_check_18
  · refine v_iload_n (x := p2) dX15_check_19 rfl 2 rfl ?_
    obtain ⟨x6, s7, hcs7, hf⟩ := bd_of hf
    have hts7 := c_X15_isKind (l := l) (D := D) (cy := cy) (ka := ka) hcs7
    refine v_callS (As := [.int p2]) (rest := []) hts7 yb_X15_isKind kw_1813 kw_1814 rfl ⟨Nat.le_of_ble_eq_true rfl, Nat.le_of_ble_eq_true rfl⟩ rfl (cat_len (Nat.le_of_ble_eq_true rfl)) dX15_check_20 ?_
    have hk_p0 := tk_ hts7.1 hk_p0
    show v_ l D cy ka cX15_check RX15 3 (some FieldType.boolean) "check" 1 21 (qf_ D cy σ z (some (.int r))) σ z _ 23 [(0, va_rf (some p0)), (1, .int p1), (2, .int p2)] [.int x6]
    refine v_if_ne (tgt := 32) hf dX15_check_23 (by decide) (fun hq hf => ?_) (fun hq hf => ?_)
    · refine v_aload_n (x := (some p0)) dX15_check_26 rfl 0 rfl ?_
      refine v_iconst (v := 2) dX15_check_27 (by decide) ?_
      obtain ⟨x8, s9, hcs9, hf⟩ := bd_of hf
      have hts9 := c_X15_denied (l := l) (D := D) (cy := cy) (ka := ka) hcs9
      refine v_callV cb_16 hk_p0 (As := [.int (2 : Int32)]) (rest := []) hts9 yb_X15_denied kw_1745 kw_1747 kp_80 rfl ⟨Nat.le_of_ble_eq_true rfl, Nat.le_of_ble_eq_true rfl⟩ rfl (cat_len (Nat.le_of_ble_eq_true rfl)) dX15_check_28 ?_
      have hk_p0 := tk_ hts9.1 hk_p0
      show v_ l D cy ka cX15_check RX15 3 (some FieldType.boolean) "check" 1 21 (qf_ D cy σ z (some (.int r))) σ z _ 31 [(0, va_rf (some p0)), (1, .int p1), (2, .int p2)] [.int x8]
      obtain ⟨hb9, hf⟩ := gt_of hf
      exact v_zret hf (nz_ hb9) dX15_check_31
    · refine v_aload_n (x := (some p0)) dX15_check_32 rfl 0 rfl ?_
      refine v_getr cb_16 hk_p0 19 1619 rfl (by decide) rfl (lk_n kw_1476 rfl) hf dX15_check_33 (fun r10 hf => ?_)
      refine v_bipush (v := 10) dX15_check_36 (by decide) ?_
      refine v_iload_n (x := p1) dX15_check_38 rfl 1 rfl ?_
      refine v_imul dX15_check_39 ?_
      refine v_iload_n (x := p2) dX15_check_40 rfl 2 rfl ?_
      refine v_iadd dX15_check_41 ?_
      obtain ⟨a11, rfl, hf⟩ := nn_of hf
      obtain ⟨hk_a11, hf⟩ := gt_of hf
      refine v_iald hk_a11 hf dX15_check_42 (fun x12 hf => ?_)
      refine v_iconst (v := (-1)) dX15_check_43 (by decide) ?_
      refine v_icmp_ne (tgt := 53) hf dX15_check_44 (by decide) (fun hq hf => ?_) (fun hq hf => ?_)
      · refine v_aload_n (x := (some p0)) dX15_check_47 rfl 0 rfl ?_
        refine v_iconst (v := 1) dX15_check_48 (by decide) ?_
        obtain ⟨x13, s14, hcs14, hf⟩ := bd_of hf
        have hts14 := c_X15_denied (l := l) (D := D) (cy := cy) (ka := ka) hcs14
        refine v_callV cb_16 hk_p0 (As := [.int (1 : Int32)]) (rest := []) hts14 yb_X15_denied kw_1745 kw_1747 kp_80 rfl ⟨Nat.le_of_ble_eq_true rfl, Nat.le_of_ble_eq_true rfl⟩ rfl (cat_len (Nat.le_of_ble_eq_true rfl)) dX15_check_49 ?_
        have hk_p0 := tk_ hts14.1 hk_p0
        show v_ l D cy ka cX15_check RX15 3 (some FieldType.boolean) "check" 1 21 (qf_ D cy σ z (some (.int r))) σ z _ 52 [(0, va_rf (some p0)), (1, .int p1), (2, .int p2)] [.int x13]
        obtain ⟨hb9, hf⟩ := gt_of hf
        exact v_zret hf (nz_ hb9) dX15_check_52
      · refine v_aload_n (x := (some p0)) dX15_check_53 rfl 0 rfl ?_
        refine v_getr cb_16 hk_p0 19 1619 rfl (by decide) rfl (lk_n kw_1476 rfl) hf dX15_check_54 (fun r15 hf => ?_)
        refine v_bipush (v := 10) dX15_check_57 (by decide) ?_
        refine v_iload_n (x := p1) dX15_check_59 rfl 1 rfl ?_
        refine v_imul dX15_check_60 ?_
        refine v_iload_n (x := p2) dX15_check_61 rfl 2 rfl ?_
        refine v_iadd dX15_check_62 ?_
        refine v_aload_n (x := (some p0)) dX15_check_63 rfl 0 rfl ?_
        obtain ⟨x16, s17, hcs17, hf⟩ := bd_of hf
        have hts17 := c_X15_today (l := l) (D := D) (cy := cy) (ka := ka) hcs17
        refine v_callV cb_16 hk_p0 (As := []) (rest := [.int (((10 : Int32) * p1) + p2), va_rf r15]) hts17 yb_X15_today kw_1774 kw_1776 kp_84 rfl ⟨Nat.le_of_ble_eq_true rfl, Nat.le_of_ble_eq_true rfl⟩ rfl (cat_len (Nat.le_of_ble_eq_true rfl)) dX15_check_64 ?_
        have hk_p0 := tk_ hts17.1 hk_p0
        show v_ l D cy ka cX15_check RX15 3 (some FieldType.boolean) "check" 1 21 (qf_ D cy σ z (some (.int r))) σ z _ 67 [(0, va_rf (some p0)), (1, .int p1), (2, .int p2)] [.int x16, .int (((10 : Int32) * p1) + p2), va_rf r15]
        obtain ⟨a18, rfl, hf⟩ := nn_of hf
        obtain ⟨hk_a18, hf⟩ := gt_of hf
        refine v_iast2 hk_a18 hf dX15_check_67 (fun s19 hts19 hf => ?_)
        have hk_p0 := tk_ hts19 hk_p0
        refine v_aload_n (x := (some p0)) dX15_check_68 rfl 0 rfl ?_
        obtain ⟨x20, s21, hcs21, hf⟩ := bd_of hf
        have hts21 := c_X15_granted (l := l) (D := D) (cy := cy) (ka := ka) hcs21
        refine v_callV cb_16 hk_p0 (As := []) (rest := []) hts21 yb_X15_granted kw_1749 kw_1751 kp_81 rfl ⟨Nat.le_of_ble_eq_true rfl, Nat.le_of_ble_eq_true rfl⟩ rfl (cat_len (Nat.le_of_ble_eq_true rfl)) dX15_check_69 ?_
        have hk_p0 := tk_ hts21.1 hk_p0
        show v_ l D cy ka cX15_check RX15 3 (some FieldType.boolean) "check" 1 21 (qf_ D cy σ z (some (.int r))) σ z _ 72 [(0, va_rf (some p0)), (1, .int p1), (2, .int p2)] [.int x20]
        obtain ⟨hb9, hf⟩ := gt_of hf
        exact v_zret hf (nz_ hb9) dX15_check_72
theorem dX15_isEdition_0 : decode cX15_isEdition 0 = .ok (.iload_n 1, 1) := by decide +kernel
theorem dX15_isEdition_1 : decode cX15_isEdition 1 = .ok (.ifCond .lt 15, 3) := by decide +kernel
theorem dX15_isEdition_4 : decode cX15_isEdition 4 = .ok (.iload_n 1, 1) := by decide +kernel
theorem dX15_isEdition_5 : decode cX15_isEdition 5 = .ok (.aload_n 0, 1) := by decide +kernel
theorem dX15_isEdition_6 : decode cX15_isEdition 6 = .ok (.getfield 565, 3) := by decide +kernel
theorem dX15_isEdition_9 : decode cX15_isEdition 9 = .ok (.if_icmp .ge 7, 3) := by decide +kernel
theorem dX15_isEdition_12 : decode cX15_isEdition 12 = .ok (.iconst 1, 1) := by decide +kernel
theorem dX15_isEdition_13 : decode cX15_isEdition 13 = .ok (.goto 4, 3) := by decide +kernel
theorem dX15_isEdition_16 : decode cX15_isEdition 16 = .ok (.iconst 0, 1) := by decide +kernel
theorem dX15_isEdition_17 : decode cX15_isEdition 17 = .ok (.ireturn, 1) := by decide +kernel
def f_X15_isEdition_b17 (σ : TH) (t0 : Int32) : Option (Int32 × TH) :=
  gt_ (t0 = 0 ∨ t0 = 1) <| some (t0, σ)
set_option maxHeartbeats 4000000 in
set_option maxRecDepth 100000 in
theorem t_X15_isEdition_b17 {l : Launch} {D : va_G} {cy : Nat → ClassId} {ka : Nat → Nat} {σ0 z : TH} {r : Int32}  {σ : TH} {t0 : Int32} (hf : f_X15_isEdition_b17 σ t0 = some (r, z)) : v_ l D cy ka cX15_isEdition RX15 2 (some FieldType.boolean) "isEdition" 0 0 (qf_ D cy σ0 z (some (.int r))) σ0 z σ 17 [] [.int t0] := by
  unfold f_X15_isEdition_b17 at hf
  obtain ⟨hb9, hf⟩ := gt_of hf
  exact v_zret hf (nz_ hb9) dX15_isEdition_17
def f_X15_isEdition_b16 (σ : TH) : Option (Int32 × TH) :=
  f_X15_isEdition_b17 σ (0 : Int32)
set_option maxHeartbeats 4000000 in
set_option maxRecDepth 100000 in
theorem t_X15_isEdition_b16 {l : Launch} {D : va_G} {cy : Nat → ClassId} {ka : Nat → Nat} {σ0 z : TH} {r : Int32}  {σ : TH}  (hf : f_X15_isEdition_b16 σ  = some (r, z)) : v_ l D cy ka cX15_isEdition RX15 2 (some FieldType.boolean) "isEdition" 0 0 (qf_ D cy σ0 z (some (.int r))) σ0 z σ 16 [] [] := by
  unfold f_X15_isEdition_b16 at hf
  refine v_iconst (v := 0) dX15_isEdition_16 (by decide) ?_
  refine v_sub [] (L2 := []) rfl ?_
  exact t_X15_isEdition_b17  hf
/-- LivesAheadModel.isEdition(I)Z -/
def f_X15_isEdition (σ : TH) (p0 : Nat) (p1 : Int32) : Option (Int32 × TH) :=
  if p1 < 0 then (f_X15_isEdition_b16 σ ) else (gt_ (kd_ σ p0 = 17) <| lt_ (fi_ σ 1671 p0) fun x1 => if x1 ≤ p1 then (f_X15_isEdition_b16 σ ) else (f_X15_isEdition_b17 σ (1 : Int32)))
set_option maxHeartbeats 4000000 in
set_option maxRecDepth 100000 in
theorem c_X15_isEdition {l : Launch} {D : va_G} {cy : Nat → ClassId} {ka : Nat → Nat} {σ z : TH} {p0 : Nat} {p1 : Int32} {r : Int32} (hf : f_X15_isEdition σ p0 p1 = some (r, z)) : ct_ l D cy ka yX15_isEdition 0 0 [va_rf (some p0), .int p1] σ (some (.int r)) z := by
  unfold f_X15_isEdition at hf
  refine v_start (cc := cX15_isEdition) (own := RX15) (maxL := 2) (ret := (some FieldType.boolean)) (nm := "isEdition") (by decide +kernel) kw_2222 rfl rfl (by simp [lg_sl, va_rf_cat, cat_i, cat_l]) ?_
  refine v_eqL (L2 := [(0, va_rf (some p0)), (1, .int p1)]) (by simp [lv_args, va_rf_cat, cat_i, cat_l]) ?_
  refine v_iload_n (x := p1) dX15_isEdition_0 rfl 1 rfl ?_
  refine v_if_lt (tgt := 16) hf dX15_isEdition_1 (by decide) (fun hq hf => ?_) (fun hq hf => ?_)
  · refine v_sub [] (L2 := []) rfl ?_
    exact t_X15_isEdition_b16  hf
  · refine v_iload_n (x := p1) dX15_isEdition_4 rfl 1 rfl ?_
    refine v_aload_n (x := (some p0)) dX15_isEdition_5 rfl 0 rfl ?_
    obtain ⟨hk_p0, hf⟩ := gt_of hf
    refine v_geti cb_16 hk_p0 71 1671 rfl (by decide) rfl (lk_n kw_1528 rfl) hf dX15_isEdition_6 (fun x1 hf => ?_)
    refine v_icmp_ge (tgt := 16) hf dX15_isEdition_9 (by decide) (fun hq hf => ?_) (fun hq hf => ?_)
    · refine v_sub [] (L2 := []) rfl ?_
      exact t_X15_isEdition_b16  hf
    · refine v_iconst (v := 1) dX15_isEdition_12 (by decide) ?_
      refine v_goto (tgt := 17) dX15_isEdition_13 (by decide) ?_
      refine v_sub [] (L2 := []) rfl ?_
      exact t_X15_isEdition_b17  hf
theorem dX15_wrongOf_0 : decode cX15_wrongOf 0 = .ok (.iconst 0, 1) := by decide +kernel
theorem dX15_wrongOf_1 : decode cX15_wrongOf 1 = .ok (.istore_n 2, 1) := by decide +kernel
theorem dX15_wrongOf_2 : decode cX15_wrongOf 2 = .ok (.iconst 0, 1) := by decide +kernel
theorem dX15_wrongOf_3 : decode cX15_wrongOf 3 = .ok (.istore_n 3, 1) := by decide +kernel
theorem dX15_wrongOf_4 : decode cX15_wrongOf 4 = .ok (.iload_n 3, 1) := by decide +kernel
theorem dX15_wrongOf_5 : decode cX15_wrongOf 5 = .ok (.bipush 10, 2) := by decide +kernel
theorem dX15_wrongOf_7 : decode cX15_wrongOf 7 = .ok (.if_icmp .ge 85, 3) := by decide +kernel
theorem dX15_wrongOf_10 : decode cX15_wrongOf 10 = .ok (.aload_n 1, 1) := by decide +kernel
theorem dX15_wrongOf_11 : decode cX15_wrongOf 11 = .ok (.getfield 583, 3) := by decide +kernel
theorem dX15_wrongOf_14 : decode cX15_wrongOf 14 = .ok (.iload_n 3, 1) := by decide +kernel
theorem dX15_wrongOf_15 : decode cX15_wrongOf 15 = .ok (.ishr, 1) := by decide +kernel
theorem dX15_wrongOf_16 : decode cX15_wrongOf 16 = .ok (.iconst 1, 1) := by decide +kernel
theorem dX15_wrongOf_17 : decode cX15_wrongOf 17 = .ok (.iand, 1) := by decide +kernel
theorem dX15_wrongOf_18 : decode cX15_wrongOf 18 = .ok (.ifCond .ne 6, 3) := by decide +kernel
theorem dX15_wrongOf_21 : decode cX15_wrongOf 21 = .ok (.goto 65, 3) := by decide +kernel
theorem dX15_wrongOf_24 : decode cX15_wrongOf 24 = .ok (.aload_n 1, 1) := by decide +kernel
theorem dX15_wrongOf_25 : decode cX15_wrongOf 25 = .ok (.getfield 593, 3) := by decide +kernel
theorem dX15_wrongOf_28 : decode cX15_wrongOf 28 = .ok (.iload_n 3, 1) := by decide +kernel
theorem dX15_wrongOf_29 : decode cX15_wrongOf 29 = .ok (.ishr, 1) := by decide +kernel
theorem dX15_wrongOf_30 : decode cX15_wrongOf 30 = .ok (.iconst 1, 1) := by decide +kernel
theorem dX15_wrongOf_31 : decode cX15_wrongOf 31 = .ok (.iand, 1) := by decide +kernel
theorem dX15_wrongOf_32 : decode cX15_wrongOf 32 = .ok (.iconst 1, 1) := by decide +kernel
theorem dX15_wrongOf_33 : decode cX15_wrongOf 33 = .ok (.if_icmp .ne 12, 3) := by decide +kernel
theorem dX15_wrongOf_36 : decode cX15_wrongOf 36 = .ok (.aload_n 1, 1) := by decide +kernel
theorem dX15_wrongOf_37 : decode cX15_wrongOf 37 = .ok (.getfield 596, 3) := by decide +kernel
theorem dX15_wrongOf_40 : decode cX15_wrongOf 40 = .ok (.iload_n 3, 1) := by decide +kernel
theorem dX15_wrongOf_41 : decode cX15_wrongOf 41 = .ok (.iaload, 1) := by decide +kernel
theorem dX15_wrongOf_42 : decode cX15_wrongOf 42 = .ok (.goto 9, 3) := by decide +kernel
theorem dX15_wrongOf_45 : decode cX15_wrongOf 45 = .ok (.aload_n 1, 1) := by decide +kernel
theorem dX15_wrongOf_46 : decode cX15_wrongOf 46 = .ok (.getfield 584, 3) := by decide +kernel
theorem dX15_wrongOf_49 : decode cX15_wrongOf 49 = .ok (.iload_n 3, 1) := by decide +kernel
theorem dX15_wrongOf_50 : decode cX15_wrongOf 50 = .ok (.iaload, 1) := by decide +kernel
theorem dX15_wrongOf_51 : decode cX15_wrongOf 51 = .ok (.istore 4, 2) := by decide +kernel
theorem dX15_wrongOf_53 : decode cX15_wrongOf 53 = .ok (.iload_n 2, 1) := by decide +kernel
theorem dX15_wrongOf_54 : decode cX15_wrongOf 54 = .ok (.aload_n 0, 1) := by decide +kernel
theorem dX15_wrongOf_55 : decode cX15_wrongOf 55 = .ok (.getfield 63, 3) := by decide +kernel
theorem dX15_wrongOf_58 : decode cX15_wrongOf 58 = .ok (.aload_n 0, 1) := by decide +kernel
theorem dX15_wrongOf_59 : decode cX15_wrongOf 59 = .ok (.aload_n 1, 1) := by decide +kernel
theorem dX15_wrongOf_60 : decode cX15_wrongOf 60 = .ok (.getfield 569, 3) := by decide +kernel
theorem dX15_wrongOf_63 : decode cX15_wrongOf 63 = .ok (.iload_n 3, 1) := by decide +kernel
theorem dX15_wrongOf_64 : decode cX15_wrongOf 64 = .ok (.aload_n 0, 1) := by decide +kernel
theorem dX15_wrongOf_65 : decode cX15_wrongOf 65 = .ok (.invokevirtual 230, 3) := by decide +kernel
theorem dX15_wrongOf_68 : decode cX15_wrongOf 68 = .ok (.invokevirtual 262, 3) := by decide +kernel
theorem dX15_wrongOf_71 : decode cX15_wrongOf 71 = .ok (.iaload, 1) := by decide +kernel
theorem dX15_wrongOf_72 : decode cX15_wrongOf 72 = .ok (.iload 4, 2) := by decide +kernel
theorem dX15_wrongOf_74 : decode cX15_wrongOf 74 = .ok (.if_icmp .eq 9, 3) := by decide +kernel
theorem dX15_wrongOf_77 : decode cX15_wrongOf 77 = .ok (.iconst 1, 1) := by decide +kernel
theorem dX15_wrongOf_78 : decode cX15_wrongOf 78 = .ok (.iload_n 3, 1) := by decide +kernel
theorem dX15_wrongOf_79 : decode cX15_wrongOf 79 = .ok (.ishl, 1) := by decide +kernel
theorem dX15_wrongOf_80 : decode cX15_wrongOf 80 = .ok (.goto 4, 3) := by decide +kernel
theorem dX15_wrongOf_83 : decode cX15_wrongOf 83 = .ok (.iconst 0, 1) := by decide +kernel
theorem dX15_wrongOf_84 : decode cX15_wrongOf 84 = .ok (.ior, 1) := by decide +kernel
theorem dX15_wrongOf_85 : decode cX15_wrongOf 85 = .ok (.istore_n 2, 1) := by decide +kernel
theorem dX15_wrongOf_86 : decode cX15_wrongOf 86 = .ok (.iinc 3 1, 3) := by decide +kernel
theorem dX15_wrongOf_89 : decode cX15_wrongOf 89 = .ok (.goto (-85), 3) := by decide +kernel
theorem dX15_wrongOf_92 : decode cX15_wrongOf 92 = .ok (.iload_n 2, 1) := by decide +kernel
theorem dX15_wrongOf_93 : decode cX15_wrongOf 93 = .ok (.ireturn, 1) := by decide +kernel
def f_X15_wrongOf_b86 (rec_4 : TH → Nat → Option Nat → Int32 → Int32 → Option (Int32 × TH)) (σ : TH) (l0 : Nat) (l1 : Option Nat) (l2 : Int32) (l3 : Int32) : Option (Int32 × TH) :=
  lt_ (l3 + 1) fun x3 => rec_4 σ l0 l1 l2 x3
set_option maxHeartbeats 4000000 in
set_option maxRecDepth 100000 in
theorem t_X15_wrongOf_b86 {l : Launch} {D : va_G} {cy : Nat → ClassId} {ka : Nat → Nat} {σ0 z : TH} {r : Int32} {rec_4 : TH → Nat → Option Nat → Int32 → Int32 → Option (Int32 × TH)} (hrec_4 : ∀ (σ : TH) (l0 : Nat) (l1 : Option Nat) (l2 : Int32) (l3 : Int32), rec_4 σ l0 l1 l2 l3 = some (r, z) → v_ l D cy ka cX15_wrongOf RX15 5 (some FieldType.int) "wrongOf" 1 25 (qf_ D cy σ0 z (some (.int r))) σ0 z σ 4 [(0, va_rf (some l0)), (1, va_rf l1), (2, .int l2), (3, .int l3)] []) {σ : TH} {l0 : Nat} {l1 : Option Nat} {l2 : Int32} {l3 : Int32} (hf : f_X15_wrongOf_b86 rec_4 σ l0 l1 l2 l3 = some (r, z)) : v_ l D cy ka cX15_wrongOf RX15 5 (some FieldType.int) "wrongOf" 1 25 (qf_ D cy σ0 z (some (.int r))) σ0 z σ 86 [(0, va_rf (some l0)), (1, va_rf l1), (2, .int l2), (3, .int l3)] [] := by
  unfold f_X15_wrongOf_b86 at hf
  obtain ⟨x3, ex3⟩ : ∃ y : Int32, y = l3 + 1 := ⟨_, rfl⟩
  rw [lt_e, ← ex3] at hf
  refine v_iinc (v := x3) [(3, .int x3), (0, va_rf (some l0)), (1, va_rf l1), (2, .int l2)] dX15_wrongOf_86 3 rfl (by rw [ex3]; rfl) (by decide) rfl ?_
  refine v_goto (tgt := 4) dX15_wrongOf_89 (by decide) ?_
  refine v_sub [1, 2, 3, 0] (L2 := [(0, va_rf (some l0)), (1, va_rf l1), (2, .int l2), (3, .int x3)]) rfl ?_
  exact hrec_4 _ _ _ _ _ hf
def f_X15_wrongOf_b84 (rec_4 : TH → Nat → Option Nat → Int32 → Int32 → Option (Int32 × TH)) (σ : TH) (l0 : Nat) (l1 : Option Nat) (l3 : Int32) (t0 : Int32) (t1 : Int32) : Option (Int32 × TH) :=
  lt_ (t1 ||| t0) fun x17 => f_X15_wrongOf_b86 rec_4 σ l0 l1 x17 l3
set_option maxHeartbeats 4000000 in
set_option maxRecDepth 100000 in
theorem t_X15_wrongOf_b84 {l : Launch} {D : va_G} {cy : Nat → ClassId} {ka : Nat → Nat} {σ0 z : TH} {r : Int32} {rec_4 : TH → Nat → Option Nat → Int32 → Int32 → Option (Int32 × TH)} (hrec_4 : ∀ (σ : TH) (l0 : Nat) (l1 : Option Nat) (l2 : Int32) (l3 : Int32), rec_4 σ l0 l1 l2 l3 = some (r, z) → v_ l D cy ka cX15_wrongOf RX15 5 (some FieldType.int) "wrongOf" 1 25 (qf_ D cy σ0 z (some (.int r))) σ0 z σ 4 [(0, va_rf (some l0)), (1, va_rf l1), (2, .int l2), (3, .int l3)] []) {σ : TH} {l0 : Nat} {l1 : Option Nat} {l3 : Int32} {t0 : Int32} {t1 : Int32} (hf : f_X15_wrongOf_b84 rec_4 σ l0 l1 l3 t0 t1 = some (r, z)) : v_ l D cy ka cX15_wrongOf RX15 5 (some FieldType.int) "wrongOf" 1 25 (qf_ D cy σ0 z (some (.int r))) σ0 z σ 84 [(0, va_rf (some l0)), (1, va_rf l1), (3, .int l3)] [.int t0, .int t1] := by
  unfold f_X15_wrongOf_b84 at hf
  refine v_ior dX15_wrongOf_84 ?_
  obtain ⟨x17, ex17⟩ : ∃ y : Int32, y = t1 ||| t0 := ⟨_, rfl⟩
  rw [lt_e, ← ex17] at hf
  rw [← ex17]
  refine v_istore_n [(2, .int x17), (0, va_rf (some l0)), (1, va_rf l1), (3, .int l3)] dX15_wrongOf_85 rfl (by decide) (by simp [va_rf_cat, cat_i, cat_l]) ?_
  refine v_sub [1, 2, 0, 3] (L2 := [(0, va_rf (some l0)), (1, va_rf l1), (2, .int x17), (3, .int l3)]) rfl ?_
  exact t_X15_wrongOf_b86 hrec_4 hf
def f_X15_wrongOf_b51 (rec_4 : TH → Nat → Option Nat → Int32 → Int32 → Option (Int32 × TH)) (σ : TH) (l0 : Nat) (l1 : Option Nat) (l2 : Int32) (l3 : Int32) (t0 : Int32) : Option (Int32 × TH) :=
  gt_ (kd_ σ l0 = 17) <| lt_ (fr_ σ 1622 l0) fun r8 => nn_ l1 fun a9 => gt_ (kd_ σ a9 = 14) <| lt_ (fi_ σ 1300 a9) fun x10 => bd_ (f_X15_today σ l0) fun x11 s12 => bd_ (f_X15_tellingOn s12 l0 x10 l3 x11) fun x13 s14 => nn_ r8 fun a15 => gt_ (kd_ s14 a15 = 20) <| gt_ (¬ (x13 < 0 ∨ ln_ s14 a15 ≤ x13.toNatClampNeg)) <| lt_ (ai_ s14 a15 x13.toNatClampNeg) fun x16 => if x16 = t0 then (f_X15_wrongOf_b84 rec_4 s14 l0 (some a9) l3 (0 : Int32) l2) else (f_X15_wrongOf_b84 rec_4 s14 l0 (some a9) l3 ((1 : Int32) <<< (l3 &&& 31)) l2)
set_option maxHeartbeats 4000000 in
set_option maxRecDepth 100000 in
theorem t_X15_wrongOf_b51 {l : Launch} {D : va_G} {cy : Nat → ClassId} {ka : Nat → Nat} {σ0 z : TH} {r : Int32} {rec_4 : TH → Nat → Option Nat → Int32 → Int32 → Option (Int32 × TH)} (hrec_4 : ∀ (σ : TH) (l0 : Nat) (l1 : Option Nat) (l2 : Int32) (l3 : Int32), rec_4 σ l0 l1 l2 l3 = some (r, z) → v_ l D cy ka cX15_wrongOf RX15 5 (some FieldType.int) "wrongOf" 1 25 (qf_ D cy σ0 z (some (.int r))) σ0 z σ 4 [(0, va_rf (some l0)), (1, va_rf l1), (2, .int l2), (3, .int l3)] []) {σ : TH} {l0 : Nat} {l1 : Option Nat} {l2 : Int32} {l3 : Int32} {t0 : Int32} (hf : f_X15_wrongOf_b51 rec_4 σ l0 l1 l2 l3 t0 = some (r, z)) : v_ l D cy ka cX15_wrongOf RX15 5 (some FieldType.int) "wrongOf" 1 25 (qf_ D cy σ0 z (some (.int r))) σ0 z σ 51 [(0, va_rf (some l0)), (1, va_rf l1), (2, .int l2), (3, .int l3)] [.int t0] := by
  unfold f_X15_wrongOf_b51 at hf
  refine v_istore [(4, .int t0), (0, va_rf (some l0)), (1, va_rf l1), (2, .int l2), (3, .int l3)] dX15_wrongOf_51 (by decide) rfl ?_
  refine v_iload_n (x := l2) dX15_wrongOf_53 rfl 3 rfl ?_
  refine v_aload_n (x := (some l0)) dX15_wrongOf_54 rfl 1 rfl ?_
  obtain ⟨hk_l0, hf⟩ := gt_of hf
  refine v_getr cb_16 hk_l0 22 1622 rfl (by decide) rfl (lk_n kw_1479 rfl) hf dX15_wrongOf_55 (fun r8 hf => ?_)
  refine v_aload_n (x := (some l0)) dX15_wrongOf_58 rfl 1 rfl ?_
  refine v_aload_n (x := l1) dX15_wrongOf_59 rfl 2 rfl ?_
  obtain ⟨a9, rfl, hf⟩ := nn_of hf
  obtain ⟨hk_a9, hf⟩ := gt_of hf
  refine v_geti cb_13 hk_a9 0 1300 rfl (by decide) rfl (lk_N kw_2175 rfl) hf dX15_wrongOf_60 (fun x10 hf => ?_)
  refine v_iload_n (x := l3) dX15_wrongOf_63 rfl 4 rfl ?_
  refine v_aload_n (x := (some l0)) dX15_wrongOf_64 rfl 1 rfl ?_
  obtain ⟨x11, s12, hcs12, hf⟩ := bd_of hf
  have hts12 := c_X15_today (l := l) (D := D) (cy := cy) (ka := ka) hcs12
  refine v_callV cb_16 hk_l0 (As := []) (rest := [.int l3, .int x10, va_rf (some l0), va_rf r8, .int l2]) hts12 yb_X15_today kw_1774 kw_1776 kp_84 rfl ⟨Nat.le_of_ble_eq_true rfl, Nat.le_of_ble_eq_true rfl⟩ rfl (by simp [va_rf_cat, cat_i, cat_l]) dX15_wrongOf_65 ?_
  have hk_l0 := tk_ hts12.1 hk_l0
  have hk_a9 := tk_ hts12.1 hk_a9
  show v_ l D cy ka cX15_wrongOf RX15 5 (some FieldType.int) "wrongOf" 1 25 (qf_ D cy σ0 z (some (.int r))) σ0 z _ 68 [(4, .int t0), (0, va_rf (some l0)), (1, va_rf (some a9)), (2, .int l2), (3, .int l3)] [.int x11, .int l3, .int x10, va_rf (some l0), va_rf r8, .int l2]
  obtain ⟨x13, s14, hcs14, hf⟩ := bd_of hf
  have hts14 := c_X15_tellingOn (l := l) (D := D) (cy := cy) (ka := ka) hcs14
  refine v_callV cb_16 hk_l0 (As := [.int x10, .int l3, .int x11]) (rest := [va_rf r8, .int l2]) hts14 yb_X15_tellingOn kw_1833 kw_1835 kp_92 rfl ⟨Nat.le_of_ble_eq_true rfl, Nat.le_of_ble_eq_true rfl⟩ rfl (cat_len (Nat.le_of_ble_eq_true rfl)) dX15_wrongOf_68 ?_
  have hk_l0 := tk_ hts14.1 hk_l0
  have hk_a9 := tk_ hts14.1 hk_a9
  show v_ l D cy ka cX15_wrongOf RX15 5 (some FieldType.int) "wrongOf" 1 25 (qf_ D cy σ0 z (some (.int r))) σ0 z _ 71 [(4, .int t0), (0, va_rf (some l0)), (1, va_rf (some a9)), (2, .int l2), (3, .int l3)] [.int x13, va_rf r8, .int l2]
  obtain ⟨a15, rfl, hf⟩ := nn_of hf
  obtain ⟨hk_a15, hf⟩ := gt_of hf
  refine v_iald hk_a15 hf dX15_wrongOf_71 (fun x16 hf => ?_)
  refine v_iload (x := t0) dX15_wrongOf_72 0 rfl ?_
  refine v_icmp_eq (tgt := 83) hf dX15_wrongOf_74 (by decide) (fun hq hf => ?_) (fun hq hf => ?_)
  · refine v_iconst (v := 0) dX15_wrongOf_83 (by decide) ?_
    refine v_sub [1, 2, 4] (L2 := [(0, va_rf (some l0)), (1, va_rf (some a9)), (3, .int l3)]) rfl ?_
    exact t_X15_wrongOf_b84 hrec_4 hf
  · refine v_iconst (v := 1) dX15_wrongOf_77 (by decide) ?_
    refine v_iload_n (x := l3) dX15_wrongOf_78 rfl 4 rfl ?_
    refine v_ishl dX15_wrongOf_79 ?_
    refine v_goto (tgt := 84) dX15_wrongOf_80 (by decide) ?_
    refine v_sub [1, 2, 4] (L2 := [(0, va_rf (some l0)), (1, va_rf (some a9)), (3, .int l3)]) rfl ?_
    exact t_X15_wrongOf_b84 hrec_4 hf
def f_X15_wrongOf_b4 : Nat → TH → Nat → Option Nat → Int32 → Int32 → Option (Int32 × TH)
  | 0, _, _, _, _, _ => none
  | n + 1, σ, l0, l1, l2, l3 => if (10 : Int32) ≤ l3 then (some (l2, σ)) else (nn_ l1 fun a1 => gt_ (kd_ σ a1 = 14) <| lt_ (fi_ σ 1306 a1) fun x2 => if ((x2 >>> (l3 &&& 31)) &&& (1 : Int32)) = 0 then (f_X15_wrongOf_b86 (f_X15_wrongOf_b4 n) σ l0 (some a1) l2 l3) else (lt_ (fi_ σ 1307 a1) fun x4 => if ((x4 >>> (l3 &&& 31)) &&& (1 : Int32)) = (1 : Int32) then (lt_ (fr_ σ 1310 a1) fun r5 => nn_ r5 fun a6 => gt_ (kd_ σ a6 = 20) <| gt_ (¬ (l3 < 0 ∨ ln_ σ a6 ≤ l3.toNatClampNeg)) <| lt_ (ai_ σ a6 l3.toNatClampNeg) fun x7 => f_X15_wrongOf_b51 (f_X15_wrongOf_b4 n) σ l0 (some a1) l2 l3 x7) else (lt_ (fr_ σ 1309 a1) fun r18 => nn_ r18 fun a19 => gt_ (kd_ σ a19 = 20) <| gt_ (¬ (l3 < 0 ∨ ln_ σ a19 ≤ l3.toNatClampNeg)) <| lt_ (ai_ σ a19 l3.toNatClampNeg) fun x20 => f_X15_wrongOf_b51 (f_X15_wrongOf_b4 n) σ l0 (some a1) l2 l3 x20)))
set_option maxHeartbeats 4000000 in
set_option maxRecDepth 100000 in
theorem t_X15_wrongOf_b4 {l : Launch} {D : va_G} {cy : Nat → ClassId} {ka : Nat → Nat} {σ0 z : TH} {r : Int32}  : ∀ (n : Nat) (σ : TH) (l0 : Nat) (l1 : Option Nat) (l2 : Int32) (l3 : Int32), f_X15_wrongOf_b4 n σ l0 l1 l2 l3 = some (r, z) → v_ l D cy ka cX15_wrongOf RX15 5 (some FieldType.int) "wrongOf" 1 25 (qf_ D cy σ0 z (some (.int r))) σ0 z σ 4 [(0, va_rf (some l0)), (1, va_rf l1), (2, .int l2), (3, .int l3)] [] := by
  intro n
  induction n with
  | zero => intro σ l0 l1 l2 l3 hf; unfold f_X15_wrongOf_b4 at hf; cases hf
  | succ n ih =>
    intro σ l0 l1 l2 l3 hf
    unfold f_X15_wrongOf_b4 at hf
    have hrec_4 := ih
    refine v_iload_n (x := l3) dX15_wrongOf_4 rfl 3 rfl ?_
    refine v_bipush (v := 10) dX15_wrongOf_5 (by decide) ?_
    refine v_icmp_ge (tgt := 92) hf dX15_wrongOf_7 (by decide) (fun hq hf => ?_) (fun hq hf => ?_)
    · refine v_iload_n (x := l2) dX15_wrongOf_92 rfl 2 rfl ?_
      exact v_iret hf dX15_wrongOf_93
    · refine v_aload_n (x := l1) dX15_wrongOf_10 rfl 1 rfl ?_
      obtain ⟨a1, rfl, hf⟩ := nn_of hf
      obtain ⟨hk_a1, hf⟩ := gt_of hf
      refine v_geti cb_13 hk_a1 6 1306 rfl (by decide) rfl (lk_N kw_2181 rfl) hf dX15_wrongOf_11 (fun x2 hf => ?_)
      refine v_iload_n (x := l3) dX15_wrongOf_14 rfl 3 rfl ?_
      refine v_ishr dX15_wrongOf_15 ?_
      refine v_iconst (v := 1) dX15_wrongOf_16 (by decide) ?_
      refine v_iand dX15_wrongOf_17 ?_
      refine v_if_ne (tgt := 24) hf dX15_wrongOf_18 (by decide) (fun hq hf => ?_) (fun hq hf => ?_)
      · refine v_goto (tgt := 86) dX15_wrongOf_21 (by decide) ?_
        refine v_sub [0, 1, 2, 3] (L2 := [(0, va_rf (some l0)), (1, va_rf (some a1)), (2, .int l2), (3, .int l3)]) rfl ?_
        exact t_X15_wrongOf_b86 hrec_4 hf
      · refine v_aload_n (x := (some a1)) dX15_wrongOf_24 rfl 1 rfl ?_
        refine v_geti cb_13 hk_a1 7 1307 rfl (by decide) rfl (lk_N kw_2182 rfl) hf dX15_wrongOf_25 (fun x4 hf => ?_)
        refine v_iload_n (x := l3) dX15_wrongOf_28 rfl 3 rfl ?_
        refine v_ishr dX15_wrongOf_29 ?_
        refine v_iconst (v := 1) dX15_wrongOf_30 (by decide) ?_
        refine v_iand dX15_wrongOf_31 ?_
        refine v_iconst (v := 1) dX15_wrongOf_32 (by decide) ?_
        refine v_icmp_ne (tgt := 45) hf dX15_wrongOf_33 (by decide) (fun hq hf => ?_) (fun hq hf => ?_)
        · refine v_aload_n (x := (some a1)) dX15_wrongOf_36 rfl 1 rfl ?_
          refine v_getr cb_13 hk_a1 10 1310 rfl (by decide) rfl (lk_N kw_2187 rfl) hf dX15_wrongOf_37 (fun r5 hf => ?_)
          refine v_iload_n (x := l3) dX15_wrongOf_40 rfl 3 rfl ?_
          obtain ⟨a6, rfl, hf⟩ := nn_of hf
          obtain ⟨hk_a6, hf⟩ := gt_of hf
          refine v_iald hk_a6 hf dX15_wrongOf_41 (fun x7 hf => ?_)
          refine v_goto (tgt := 51) dX15_wrongOf_42 (by decide) ?_
          refine v_sub [0, 1, 2, 3] (L2 := [(0, va_rf (some l0)), (1, va_rf (some a1)), (2, .int l2), (3, .int l3)]) rfl ?_
          exact t_X15_wrongOf_b51 hrec_4 hf
        · refine v_aload_n (x := (some a1)) dX15_wrongOf_45 rfl 1 rfl ?_
          refine v_getr cb_13 hk_a1 9 1309 rfl (by decide) rfl (lk_N kw_2185 rfl) hf dX15_wrongOf_46 (fun r18 hf => ?_)
          refine v_iload_n (x := l3) dX15_wrongOf_49 rfl 3 rfl ?_
          obtain ⟨a19, rfl, hf⟩ := nn_of hf
          obtain ⟨hk_a19, hf⟩ := gt_of hf
          refine v_iald hk_a19 hf dX15_wrongOf_50 (fun x20 hf => ?_)
          refine v_sub [0, 1, 2, 3] (L2 := [(0, va_rf (some l0)), (1, va_rf (some a1)), (2, .int l2), (3, .int l3)]) rfl ?_
          exact t_X15_wrongOf_b51 hrec_4 hf
/-- LivesAheadModel.wrongOf(LLivesAheadModel$Edition;)I -/
def f_X15_wrongOf (σ : TH) (p0 : Nat) (p1 : Option Nat) : Option (Int32 × TH) :=
  f_X15_wrongOf_b4 fu_ σ p0 p1 (0 : Int32) (0 : Int32)
set_option maxHeartbeats 4000000 in
set_option maxRecDepth 100000 in
theorem c_X15_wrongOf {l : Launch} {D : va_G} {cy : Nat → ClassId} {ka : Nat → Nat} {σ z : TH} {p0 : Nat} {p1 : Option Nat} {r : Int32} (hf : f_X15_wrongOf σ p0 p1 = some (r, z)) : ct_ l D cy ka yX15_wrongOf 1 25 [va_rf (some p0), va_rf p1] σ (some (.int r)) z := by
  unfold f_X15_wrongOf at hf
  refine v_start (cc := cX15_wrongOf) (own := RX15) (maxL := 5) (ret := (some FieldType.int)) (nm := "wrongOf") (by decide +kernel) kw_2230 rfl rfl (by simp [lg_sl, va_rf_cat, cat_i, cat_l]) ?_
  refine v_eqL (L2 := [(0, va_rf (some p0)), (1, va_rf p1)]) (by simp [lv_args, va_rf_cat, cat_i, cat_l]) ?_
  refine v_iconst (v := 0) dX15_wrongOf_0 (by decide) ?_
  refine v_istore_n [(2, .int (0 : Int32)), (0, va_rf (some p0)), (1, va_rf p1)] dX15_wrongOf_1 rfl (by decide) (by simp [va_rf_cat, cat_i, cat_l]) ?_
  refine v_iconst (v := 0) dX15_wrongOf_2 (by decide) ?_
  refine v_istore_n [(3, .int (0 : Int32)), (2, .int (0 : Int32)), (0, va_rf (some p0)), (1, va_rf p1)] dX15_wrongOf_3 rfl (by decide) rfl ?_
  refine v_sub [2, 3, 1, 0] (L2 := [(0, va_rf (some p0)), (1, va_rf p1), (2, .int (0 : Int32)), (3, .int (0 : Int32))]) rfl ?_
  exact t_X15_wrongOf_b4  _ _ _ _ _ _ hf
theorem dX15_correct_0 : decode cX15_correct 0 = .ok (.aload_n 0, 1) := by decide +kernel
theorem dX15_correct_1 : decode cX15_correct 1 = .ok (.iconst 0, 1) := by decide +kernel
theorem dX15_correct_2 : decode cX15_correct 2 = .ok (.putfield 1, 3) := by decide +kernel
theorem dX15_correct_5 : decode cX15_correct 5 = .ok (.aload_n 0, 1) := by decide +kernel
theorem dX15_correct_6 : decode cX15_correct 6 = .ok (.iload_n 1, 1) := by decide +kernel
theorem dX15_correct_7 : decode cX15_correct 7 = .ok (.invokevirtual 587, 3) := by decide +kernel
theorem dX15_correct_10 : decode cX15_correct 10 = .ok (.ifCond .eq 26, 3) := by decide +kernel
theorem dX15_correct_13 : decode cX15_correct 13 = .ok (.iload_n 2, 1) := by decide +kernel
theorem dX15_correct_14 : decode cX15_correct 14 = .ok (.invokestatic 250, 3) := by decide +kernel
theorem dX15_correct_17 : decode cX15_correct 17 = .ok (.ifCond .eq 19, 3) := by decide +kernel
theorem dX15_correct_20 : decode cX15_correct 20 = .ok (.aload_n 0, 1) := by decide +kernel
theorem dX15_correct_21 : decode cX15_correct 21 = .ok (.getfield 175, 3) := by decide +kernel
theorem dX15_correct_24 : decode cX15_correct 24 = .ok (.iload_n 1, 1) := by decide +kernel
theorem dX15_correct_25 : decode cX15_correct 25 = .ok (.aaload, 1) := by decide +kernel
theorem dX15_correct_26 : decode cX15_correct 26 = .ok (.getfield 583, 3) := by decide +kernel
theorem dX15_correct_29 : decode cX15_correct 29 = .ok (.iload_n 2, 1) := by decide +kernel
theorem dX15_correct_30 : decode cX15_correct 30 = .ok (.ishr, 1) := by decide +kernel
theorem dX15_correct_31 : decode cX15_correct 31 = .ok (.iconst 1, 1) := by decide +kernel
theorem dX15_correct_32 : decode cX15_correct 32 = .ok (.iand, 1) := by decide +kernel
theorem dX15_correct_33 : decode cX15_correct 33 = .ok (.ifCond .ne 9, 3) := by decide +kernel
theorem dX15_correct_36 : decode cX15_correct 36 = .ok (.aload_n 0, 1) := by decide +kernel
theorem dX15_correct_37 : decode cX15_correct 37 = .ok (.iconst 1, 1) := by decide +kernel
theorem dX15_correct_38 : decode cX15_correct 38 = .ok (.invokevirtual 212, 3) := by decide +kernel
theorem dX15_correct_41 : decode cX15_correct 41 = .ok (.ireturn, 1) := by decide +kernel
theorem dX15_correct_42 : decode cX15_correct 42 = .ok (.aload_n 0, 1) := by decide +kernel
theorem dX15_correct_43 : decode cX15_correct 43 = .ok (.getfield 175, 3) := by decide +kernel
theorem dX15_correct_46 : decode cX15_correct 46 = .ok (.iload_n 1, 1) := by decide +kernel
theorem dX15_correct_47 : decode cX15_correct 47 = .ok (.aaload, 1) := by decide +kernel
theorem dX15_correct_48 : decode cX15_correct 48 = .ok (.astore_n 3, 1) := by decide +kernel
theorem dX15_correct_49 : decode cX15_correct 49 = .ok (.aload_n 0, 1) := by decide +kernel
theorem dX15_correct_50 : decode cX15_correct 50 = .ok (.aload_n 3, 1) := by decide +kernel
theorem dX15_correct_51 : decode cX15_correct 51 = .ok (.invokevirtual 599, 3) := by decide +kernel
theorem dX15_correct_54 : decode cX15_correct 54 = .ok (.iload_n 2, 1) := by decide +kernel
theorem dX15_correct_55 : decode cX15_correct 55 = .ok (.ishr, 1) := by decide +kernel
theorem dX15_correct_56 : decode cX15_correct 56 = .ok (.iconst 1, 1) := by decide +kernel
theorem dX15_correct_57 : decode cX15_correct 57 = .ok (.iand, 1) := by decide +kernel
theorem dX15_correct_58 : decode cX15_correct 58 = .ok (.ifCond .ne 9, 3) := by decide +kernel
theorem dX15_correct_61 : decode cX15_correct 61 = .ok (.aload_n 0, 1) := by decide +kernel
theorem dX15_correct_62 : decode cX15_correct 62 = .ok (.iconst 5, 1) := by decide +kernel
theorem dX15_correct_63 : decode cX15_correct 63 = .ok (.invokevirtual 212, 3) := by decide +kernel
theorem dX15_correct_66 : decode cX15_correct 66 = .ok (.ireturn, 1) := by decide +kernel
theorem dX15_correct_67 : decode cX15_correct 67 = .ok (.aload_n 3, 1) := by decide +kernel
theorem dX15_correct_68 : decode cX15_correct 68 = .ok (.dup, 1) := by decide +kernel
theorem dX15_correct_69 : decode cX15_correct 69 = .ok (.getfield 593, 3) := by decide +kernel
theorem dX15_correct_72 : decode cX15_correct 72 = .ok (.iconst 1, 1) := by decide +kernel
theorem dX15_correct_73 : decode cX15_correct 73 = .ok (.iload_n 2, 1) := by decide +kernel
theorem dX15_correct_74 : decode cX15_correct 74 = .ok (.ishl, 1) := by decide +kernel
theorem dX15_correct_75 : decode cX15_correct 75 = .ok (.ior, 1) := by decide +kernel
theorem dX15_correct_76 : decode cX15_correct 76 = .ok (.putfield 593, 3) := by decide +kernel
theorem dX15_correct_79 : decode cX15_correct 79 = .ok (.aload_n 3, 1) := by decide +kernel
theorem dX15_correct_80 : decode cX15_correct 80 = .ok (.getfield 596, 3) := by decide +kernel
theorem dX15_correct_83 : decode cX15_correct 83 = .ok (.iload_n 2, 1) := by decide +kernel
theorem dX15_correct_84 : decode cX15_correct 84 = .ok (.aload_n 0, 1) := by decide +kernel
theorem dX15_correct_85 : decode cX15_correct 85 = .ok (.getfield 63, 3) := by decide +kernel
theorem dX15_correct_88 : decode cX15_correct 88 = .ok (.aload_n 0, 1) := by decide +kernel
theorem dX15_correct_89 : decode cX15_correct 89 = .ok (.aload_n 3, 1) := by decide +kernel
theorem dX15_correct_90 : decode cX15_correct 90 = .ok (.getfield 569, 3) := by decide +kernel
theorem dX15_correct_93 : decode cX15_correct 93 = .ok (.iload_n 2, 1) := by decide +kernel
theorem dX15_correct_94 : decode cX15_correct 94 = .ok (.aload_n 0, 1) := by decide +kernel
theorem dX15_correct_95 : decode cX15_correct 95 = .ok (.invokevirtual 230, 3) := by decide +kernel
theorem dX15_correct_98 : decode cX15_correct 98 = .ok (.invokevirtual 262, 3) := by decide +kernel
theorem dX15_correct_101 : decode cX15_correct 101 = .ok (.iaload, 1) := by decide +kernel
theorem dX15_correct_102 : decode cX15_correct 102 = .ok (.iastore, 1) := by decide +kernel
theorem dX15_correct_103 : decode cX15_correct 103 = .ok (.aload_n 3, 1) := by decide +kernel
theorem dX15_correct_104 : decode cX15_correct 104 = .ok (.dup, 1) := by decide +kernel
theorem dX15_correct_105 : decode cX15_correct 105 = .ok (.getfield 590, 3) := by decide +kernel
theorem dX15_correct_108 : decode cX15_correct 108 = .ok (.iconst 1, 1) := by decide +kernel
theorem dX15_correct_109 : decode cX15_correct 109 = .ok (.iadd, 1) := by decide +kernel
theorem dX15_correct_110 : decode cX15_correct 110 = .ok (.putfield 590, 3) := by decide +kernel
theorem dX15_correct_113 : decode cX15_correct 113 = .ok (.aload_n 0, 1) := by decide +kernel
theorem dX15_correct_114 : decode cX15_correct 114 = .ok (.invokevirtual 215, 3) := by decide +kernel
theorem dX15_correct_117 : decode cX15_correct 117 = .ok (.ireturn, 1) := by decide +kernel
def f_X15_correct_b36 (σ : TH) (l0 : Nat) : Option (Int32 × TH) :=
  gt_ (kd_ σ l0 = 17) <| bd_ (f_X15_denied σ l0 (1 : Int32)) fun x4 s5 => gt_ (x4 = 0 ∨ x4 = 1) <| some (x4, s5)
set_option maxHeartbeats 4000000 in
set_option maxRecDepth 100000 in
theorem t_X15_correct_b36 {l : Launch} {D : va_G} {cy : Nat → ClassId} {ka : Nat → Nat} {σ0 z : TH} {r : Int32}  {σ : TH} {l0 : Nat} (hf : f_X15_correct_b36 σ l0 = some (r, z)) : v_ l D cy ka cX15_correct RX15 4 (some FieldType.boolean) "correct" 2 49 (qf_ D cy σ0 z (some (.int r))) σ0 z σ 36 [(0, va_rf (some l0))] [] := by
  unfold f_X15_correct_b36 at hf
  refine v_aload_n (x := (some l0)) dX15_correct_36 rfl 0 rfl ?_
  refine v_iconst (v := 1) dX15_correct_37 (by decide) ?_
  obtain ⟨hk_l0, hf⟩ := gt_of hf
  obtain ⟨x4, s5, hcs5, hf⟩ := bd_of hf
  have hts5 := c_X15_denied (l := l) (D := D) (cy := cy) (ka := ka) hcs5
  refine v_callV cb_16 hk_l0 (As := [.int (1 : Int32)]) (rest := []) hts5 yb_X15_denied kw_1745 kw_1747 kp_80 rfl ⟨Nat.le_of_ble_eq_true rfl, Nat.le_of_ble_eq_true rfl⟩ rfl (cat_len (Nat.le_of_ble_eq_true rfl)) dX15_correct_38 ?_
  have hk_l0 := tk_ hts5.1 hk_l0
  show v_ l D cy ka cX15_correct RX15 4 (some FieldType.boolean) "correct" 2 49 (qf_ D cy σ0 z (some (.int r))) σ0 z _ 41 [(0, va_rf (some l0))] [.int x4]
  obtain ⟨hb9, hf⟩ := gt_of hf
  exact v_zret hf (nz_ hb9) dX15_correct_41
/-- LivesAheadModel.correct(II)Z -/
def f_X15_correct (σ : TH) (p0 : Nat) (p1 : Int32) (p2 : Int32) : Option (Int32 × TH) :=
  gt_ (kd_ σ p0 = 17) <| lt_ (si_ σ 1600 p0 (0 : Int32)) fun s1 => bd_ (f_X15_isEdition s1 p0 p1) fun x2 s3 => if x2 = 0 then (f_X15_correct_b36 s3 p0) else (bd_ (f_X15_isKind s3 p2) fun x6 s7 => if x6 = 0 then (f_X15_correct_b36 s7 p0) else (lt_ (fr_ s7 1682 p0) fun r8 => nn_ r8 fun a9 => gt_ (kd_ s7 a9 = 28) <| gt_ (¬ (p1 < 0 ∨ ln_ s7 a9 ≤ p1.toNatClampNeg)) <| lt_ (ar_ s7 a9 p1.toNatClampNeg) fun r10 => nn_ r10 fun a11 => gt_ (kd_ s7 a11 = 14) <| lt_ (fi_ s7 1306 a11) fun x12 => if ((x12 >>> (p2 &&& 31)) &&& (1 : Int32)) = 0 then (f_X15_correct_b36 s7 p0) else (lt_ (fr_ s7 1682 p0) fun r13 => nn_ r13 fun a14 => gt_ (kd_ s7 a14 = 28) <| gt_ (¬ (p1 < 0 ∨ ln_ s7 a14 ≤ p1.toNatClampNeg)) <| lt_ (ar_ s7 a14 p1.toNatClampNeg) fun r15 => bd_ (f_X15_wrongOf s7 p0 r15) fun x16 s17 => if ((x16 >>> (p2 &&& 31)) &&& (1 : Int32)) = 0 then (bd_ (f_X15_denied s17 p0 (5 : Int32)) fun x18 s19 => gt_ (x18 = 0 ∨ x18 = 1) <| some (x18, s19)) else (nn_ r15 fun a20 => gt_ (kd_ s17 a20 = 14) <| lt_ (fi_ s17 1307 a20) fun x21 => lt_ (si_ s17 1307 a20 (x21 ||| ((1 : Int32) <<< (p2 &&& 31)))) fun s22 => lt_ (fr_ s22 1310 a20) fun r23 => lt_ (fr_ s22 1622 p0) fun r24 => lt_ (fi_ s22 1300 a20) fun x25 => bd_ (f_X15_today s22 p0) fun x26 s27 => bd_ (f_X15_tellingOn s27 p0 x25 p2 x26) fun x28 s29 => nn_ r24 fun a30 => gt_ (kd_ s29 a30 = 20) <| gt_ (¬ (x28 < 0 ∨ ln_ s29 a30 ≤ x28.toNatClampNeg)) <| lt_ (ai_ s29 a30 x28.toNatClampNeg) fun x31 => nn_ r23 fun a32 => gt_ (kd_ s29 a32 = 20) <| gt_ (¬ (p2 < 0 ∨ ln_ s29 a32 ≤ p2.toNatClampNeg)) <| lt_ (sa_ s29 a32 p2.toNatClampNeg x31) fun s33 => lt_ (fi_ s33 1308 a20) fun x34 => lt_ (si_ s33 1308 a20 (x34 + (1 : Int32))) fun s35 => bd_ (f_X15_granted s35 p0) fun x36 s37 => gt_ (x36 = 0 ∨ x36 = 1) <| some (x36, s37)))))
set_option maxHeartbeats 4000000 in
set_option maxRecDepth 100000 in
theorem c_X15_correct {l : Launch} {D : va_G} {cy : Nat → ClassId} {ka : Nat → Nat} {σ z : TH} {p0 : Nat} {p1 : Int32} {p2 : Int32} {r : Int32} (hf : f_X15_correct σ p0 p1 p2 = some (r, z)) : ct_ l D cy ka yX15_correct 2 49 [va_rf (some p0), .int p1, .int p2] σ (some (.int r)) z := by
  unfold f_X15_correct at hf
  refine v_start (cc := cX15_correct) (own := RX15) (maxL := 4) (ret := (some FieldType.boolean)) (nm := "correct") (by decide +kernel) kw_2234 rfl rfl (by simp [lg_sl, va_rf_cat, cat_i, cat_l]) ?_
  refine v_eqL (L2 := [(0, va_rf (some p0)), (1, .int p1), (2, .int p2)]) (by simp [lv_args, va_rf_cat, cat_i, cat_l]) ?_
  refine v_aload_n (x := (some p0)) dX15_correct_0 rfl 0 rfl ?_
  refine v_iconst (v := 0) dX15_correct_1 (by decide) ?_
  obtain ⟨hk_p0, hf⟩ := gt_of hf
  refine v_puti2 cb_16 hk_p0 0 1600 rfl (by decide) rfl (lk_n kw_1457 rfl) (Or.inl rfl) rfl rfl hf dX15_correct_2 (fun s1 hts1 hf => ?_)
  have hk_p0 := tk_ hts1 hk_p0
  refine v_aload_n (x := (some p0)) dX15_correct_5 rfl 0 rfl ?_
  refine v_iload_n (x := p1) dX15_correct_6 rfl 1 rfl ?_
  obtain ⟨x2, s3, hcs3, hf⟩ := bd_of hf
  have hts3 := c_X15_isEdition (l := l) (D := D) (cy := cy) (ka := ka) hcs3
  refine v_callV cb_16 hk_p0 (As := [.int p1]) (rest := []) hts3 yb_X15_isEdition kw_2219 kw_2221 kp_133 rfl ⟨Nat.le_of_ble_eq_true rfl, Nat.le_of_ble_eq_true rfl⟩ rfl (cat_len (Nat.le_of_ble_eq_true rfl)) dX15_correct_7 ?_
  have hk_p0 := tk_ hts3.1 hk_p0
  show v_ l D cy ka cX15_correct RX15 4 (some FieldType.boolean) "correct" 2 49 (qf_ D cy σ z (some (.int r))) σ z _ 10 [(0, va_rf (some p0)), (1, .int p1), (2, .int p2)] [.int x2]
  refine v_if_eq (tgt := 36) hf dX15_correct_10 (by decide) (fun hq hf => ?_) (fun hq hf => ?_)
  · refine v_sub [0] (L2 := [(0, va_rf (some p0))]) rfl ?_
    exact t_X15_correct_b36  hf
  · refine v_iload_n (x := p2) dX15_correct_13 rfl 2 rfl ?_
    obtain ⟨x6, s7, hcs7, hf⟩ := bd_of hf
    have hts7 := c_X15_isKind (l := l) (D := D) (cy := cy) (ka := ka) hcs7
    refine v_callS (As := [.int p2]) (rest := []) hts7 yb_X15_isKind kw_1813 kw_1814 rfl ⟨Nat.le_of_ble_eq_true rfl, Nat.le_of_ble_eq_true rfl⟩ rfl (cat_len (Nat.le_of_ble_eq_true rfl)) dX15_correct_14 ?_
    have hk_p0 := tk_ hts7.1 hk_p0
    show v_ l D cy ka cX15_correct RX15 4 (some FieldType.boolean) "correct" 2 49 (qf_ D cy σ z (some (.int r))) σ z _ 17 [(0, va_rf (some p0)), (1, .int p1), (2, .int p2)] [.int x6]
    refine v_if_eq (tgt := 36) hf dX15_correct_17 (by decide) (fun hq hf => ?_) (fun hq hf => ?_)
    · refine v_sub [0] (L2 := [(0, va_rf (some p0))]) rfl ?_
      exact t_X15_correct_b36  hf
    · refine v_aload_n (x := (some p0)) dX15_correct_20 rfl 0 rfl ?_
      refine v_getr cb_16 hk_p0 82 1682 rfl (by decide) rfl (lk_n kw_1539 rfl) hf dX15_correct_21 (fun r8 hf => ?_)
      refine v_iload_n (x := p1) dX15_correct_24 rfl 1 rfl ?_
      obtain ⟨a9, rfl, hf⟩ := nn_of hf
      obtain ⟨hk_a9, hf⟩ := gt_of hf
      refine v_aald 27 8 RX12 hk_a9 (by decide) rfl hf dX15_correct_25 (fun r10 hf => ?_)
      obtain ⟨a11, rfl, hf⟩ := nn_of hf
      obtain ⟨hk_a11, hf⟩ := gt_of hf
      refine v_geti cb_13 hk_a11 6 1306 rfl (by decide) rfl (lk_N kw_2181 rfl) hf dX15_correct_26 (fun x12 hf => ?_)
      refine v_iload_n (x := p2) dX15_correct_29 rfl 2 rfl ?_
      refine v_ishr dX15_correct_30 ?_
      refine v_iconst (v := 1) dX15_correct_31 (by decide) ?_
      refine v_iand dX15_correct_32 ?_
      refine v_if_ne (tgt := 42) hf dX15_correct_33 (by decide) (fun hq hf => ?_) (fun hq hf => ?_)
      · refine v_sub [0] (L2 := [(0, va_rf (some p0))]) rfl ?_
        exact t_X15_correct_b36  hf
      · refine v_aload_n (x := (some p0)) dX15_correct_42 rfl 0 rfl ?_
        refine v_getr cb_16 hk_p0 82 1682 rfl (by decide) rfl (lk_n kw_1539 rfl) hf dX15_correct_43 (fun r13 hf => ?_)
        refine v_iload_n (x := p1) dX15_correct_46 rfl 1 rfl ?_
        obtain ⟨a14, rfl, hf⟩ := nn_of hf
        obtain ⟨hk_a14, hf⟩ := gt_of hf
        refine v_aald 27 8 RX12 hk_a14 (by decide) rfl hf dX15_correct_47 (fun r15 hf => ?_)
        refine v_astore_n [(3, va_rf r15), (0, va_rf (some p0)), (1, .int p1), (2, .int p2)] dX15_correct_48 rfl (by decide) rfl ?_
        refine v_aload_n (x := (some p0)) dX15_correct_49 rfl 1 rfl ?_
        refine v_aload_n (x := r15) dX15_correct_50 rfl 0 rfl ?_
        obtain ⟨x16, s17, hcs17, hf⟩ := bd_of hf
        have hts17 := c_X15_wrongOf (l := l) (D := D) (cy := cy) (ka := ka) hcs17
        refine v_callV cb_16 hk_p0 (As := [va_rf r15]) (rest := []) hts17 yb_X15_wrongOf kw_2227 kw_2229 kp_134 rfl ⟨Nat.le_of_ble_eq_true rfl, Nat.le_of_ble_eq_true rfl⟩ rfl (cat_len (Nat.le_of_ble_eq_true rfl)) dX15_correct_51 ?_
        have hk_p0 := tk_ hts17.1 hk_p0
        show v_ l D cy ka cX15_correct RX15 4 (some FieldType.boolean) "correct" 2 49 (qf_ D cy σ z (some (.int r))) σ z _ 54 [(3, va_rf r15), (0, va_rf (some p0)), (1, .int p1), (2, .int p2)] [.int x16]
        refine v_iload_n (x := p2) dX15_correct_54 rfl 3 rfl ?_
        refine v_ishr dX15_correct_55 ?_
        refine v_iconst (v := 1) dX15_correct_56 (by decide) ?_
        refine v_iand dX15_correct_57 ?_
        refine v_if_ne (tgt := 67) hf dX15_correct_58 (by decide) (fun hq hf => ?_) (fun hq hf => ?_)
        · refine v_aload_n (x := (some p0)) dX15_correct_61 rfl 1 rfl ?_
          refine v_iconst (v := 5) dX15_correct_62 (by decide) ?_
          obtain ⟨x18, s19, hcs19, hf⟩ := bd_of hf
          have hts19 := c_X15_denied (l := l) (D := D) (cy := cy) (ka := ka) hcs19
          refine v_callV cb_16 hk_p0 (As := [.int (5 : Int32)]) (rest := []) hts19 yb_X15_denied kw_1745 kw_1747 kp_80 rfl ⟨Nat.le_of_ble_eq_true rfl, Nat.le_of_ble_eq_true rfl⟩ rfl (cat_len (Nat.le_of_ble_eq_true rfl)) dX15_correct_63 ?_
          have hk_p0 := tk_ hts19.1 hk_p0
          show v_ l D cy ka cX15_correct RX15 4 (some FieldType.boolean) "correct" 2 49 (qf_ D cy σ z (some (.int r))) σ z _ 66 [(3, va_rf r15), (0, va_rf (some p0)), (1, .int p1), (2, .int p2)] [.int x18]
          obtain ⟨hb9, hf⟩ := gt_of hf
          exact v_zret hf (nz_ hb9) dX15_correct_66
        · refine v_aload_n (x := r15) dX15_correct_67 rfl 0 rfl ?_
          refine v_dup dX15_correct_68 (va_rf_cat _) ?_
          obtain ⟨a20, rfl, hf⟩ := nn_of hf
          obtain ⟨hk_a20, hf⟩ := gt_of hf
          refine v_geti cb_13 hk_a20 7 1307 rfl (by decide) rfl (lk_N kw_2182 rfl) hf dX15_correct_69 (fun x21 hf => ?_)
          refine v_iconst (v := 1) dX15_correct_72 (by decide) ?_
          refine v_iload_n (x := p2) dX15_correct_73 rfl 3 rfl ?_
          refine v_ishl dX15_correct_74 ?_
          refine v_ior dX15_correct_75 ?_
          refine v_puti2 cb_13 hk_a20 7 1307 rfl (by decide) rfl (lk_N kw_2182 rfl) (Or.inl rfl) rfl rfl hf dX15_correct_76 (fun s22 hts22 hf => ?_)
          have hk_p0 := tk_ hts22 hk_p0
          have hk_a20 := tk_ hts22 hk_a20
          refine v_aload_n (x := (some a20)) dX15_correct_79 rfl 0 rfl ?_
          refine v_getr cb_13 hk_a20 10 1310 rfl (by decide) rfl (lk_N kw_2187 rfl) hf dX15_correct_80 (fun r23 hf => ?_)
          refine v_iload_n (x := p2) dX15_correct_83 rfl 3 rfl ?_
          refine v_aload_n (x := (some p0)) dX15_correct_84 rfl 1 rfl ?_
          refine v_getr cb_16 hk_p0 22 1622 rfl (by decide) rfl (lk_n kw_1479 rfl) hf dX15_correct_85 (fun r24 hf => ?_)
          refine v_aload_n (x := (some p0)) dX15_correct_88 rfl 1 rfl ?_
          refine v_aload_n (x := (some a20)) dX15_correct_89 rfl 0 rfl ?_
          refine v_geti cb_13 hk_a20 0 1300 rfl (by decide) rfl (lk_N kw_2175 rfl) hf dX15_correct_90 (fun x25 hf => ?_)
          refine v_iload_n (x := p2) dX15_correct_93 rfl 3 rfl ?_
          refine v_aload_n (x := (some p0)) dX15_correct_94 rfl 1 rfl ?_
          obtain ⟨x26, s27, hcs27, hf⟩ := bd_of hf
          have hts27 := c_X15_today (l := l) (D := D) (cy := cy) (ka := ka) hcs27
          refine v_callV cb_16 hk_p0 (As := []) (rest := [.int p2, .int x25, va_rf (some p0), va_rf r24, .int p2, va_rf r23]) hts27 yb_X15_today kw_1774 kw_1776 kp_84 rfl ⟨Nat.le_of_ble_eq_true rfl, Nat.le_of_ble_eq_true rfl⟩ rfl (by simp [va_rf_cat, cat_i, cat_l]) dX15_correct_95 ?_
          have hk_p0 := tk_ hts27.1 hk_p0
          have hk_a20 := tk_ hts27.1 hk_a20
          show v_ l D cy ka cX15_correct RX15 4 (some FieldType.boolean) "correct" 2 49 (qf_ D cy σ z (some (.int r))) σ z _ 98 [(3, va_rf (some a20)), (0, va_rf (some p0)), (1, .int p1), (2, .int p2)] [.int x26, .int p2, .int x25, va_rf (some p0), va_rf r24, .int p2, va_rf r23]
          obtain ⟨x28, s29, hcs29, hf⟩ := bd_of hf
          have hts29 := c_X15_tellingOn (l := l) (D := D) (cy := cy) (ka := ka) hcs29
          refine v_callV cb_16 hk_p0 (As := [.int x25, .int p2, .int x26]) (rest := [va_rf r24, .int p2, va_rf r23]) hts29 yb_X15_tellingOn kw_1833 kw_1835 kp_92 rfl ⟨Nat.le_of_ble_eq_true rfl, Nat.le_of_ble_eq_true rfl⟩ rfl (cat_len (Nat.le_of_ble_eq_true rfl)) dX15_correct_98 ?_
          have hk_p0 := tk_ hts29.1 hk_p0
          have hk_a20 := tk_ hts29.1 hk_a20
          show v_ l D cy ka cX15_correct RX15 4 (some FieldType.boolean) "correct" 2 49 (qf_ D cy σ z (some (.int r))) σ z _ 101 [(3, va_rf (some a20)), (0, va_rf (some p0)), (1, .int p1), (2, .int p2)] [.int x28, va_rf r24, .int p2, va_rf r23]
          obtain ⟨a30, rfl, hf⟩ := nn_of hf
          obtain ⟨hk_a30, hf⟩ := gt_of hf
          refine v_iald hk_a30 hf dX15_correct_101 (fun x31 hf => ?_)
          obtain ⟨a32, rfl, hf⟩ := nn_of hf
          obtain ⟨hk_a32, hf⟩ := gt_of hf
          refine v_iast2 hk_a32 hf dX15_correct_102 (fun s33 hts33 hf => ?_)
          have hk_p0 := tk_ hts33 hk_p0
          have hk_a20 := tk_ hts33 hk_a20
          refine v_aload_n (x := (some a20)) dX15_correct_103 rfl 0 rfl ?_
          refine v_dup dX15_correct_104 (va_rf_cat _) ?_
          refine v_geti cb_13 hk_a20 8 1308 rfl (by decide) rfl (lk_N kw_2183 rfl) hf dX15_correct_105 (fun x34 hf => ?_)
          refine v_iconst (v := 1) dX15_correct_108 (by decide) ?_
          refine v_iadd dX15_correct_109 ?_
          refine v_puti2 cb_13 hk_a20 8 1308 rfl (by decide) rfl (lk_N kw_2183 rfl) (Or.inl rfl) rfl rfl hf dX15_correct_110 (fun s35 hts35 hf => ?_)
          have hk_p0 := tk_ hts35 hk_p0
          have hk_a20 := tk_ hts35 hk_a20
          refine v_aload_n (x := (some p0)) dX15_correct_113 rfl 1 rfl ?_
          obtain ⟨x36, s37, hcs37, hf⟩ := bd_of hf
          have hts37 := c_X15_granted (l := l) (D := D) (cy := cy) (ka := ka) hcs37
          refine v_callV cb_16 hk_p0 (As := []) (rest := []) hts37 yb_X15_granted kw_1749 kw_1751 kp_81 rfl ⟨Nat.le_of_ble_eq_true rfl, Nat.le_of_ble_eq_true rfl⟩ rfl (cat_len (Nat.le_of_ble_eq_true rfl)) dX15_correct_114 ?_
          have hk_p0 := tk_ hts37.1 hk_p0
          have hk_a20 := tk_ hts37.1 hk_a20
          show v_ l D cy ka cX15_correct RX15 4 (some FieldType.boolean) "correct" 2 49 (qf_ D cy σ z (some (.int r))) σ z _ 117 [(3, va_rf (some a20)), (0, va_rf (some p0)), (1, .int p1), (2, .int p2)] [.int x36]
          obtain ⟨hb9, hf⟩ := gt_of hf
          exact v_zret hf (nz_ hb9) dX15_correct_117
theorem dX15_deads_0 : decode cX15_deads 0 = .ok (.iconst 0, 1) := by decide +kernel
theorem dX15_deads_1 : decode cX15_deads 1 = .ok (.istore_n 1, 1) := by decide +kernel
theorem dX15_deads_2 : decode cX15_deads 2 = .ok (.iconst 0, 1) := by decide +kernel
theorem dX15_deads_3 : decode cX15_deads 3 = .ok (.istore_n 2, 1) := by decide +kernel
theorem dX15_deads_4 : decode cX15_deads 4 = .ok (.iload_n 2, 1) := by decide +kernel
theorem dX15_deads_5 : decode cX15_deads 5 = .ok (.aload_n 0, 1) := by decide +kernel
theorem dX15_deads_6 : decode cX15_deads 6 = .ok (.getfield 191, 3) := by decide +kernel
theorem dX15_deads_9 : decode cX15_deads 9 = .ok (.if_icmp .ge 26, 3) := by decide +kernel
theorem dX15_deads_12 : decode cX15_deads 12 = .ok (.iload_n 1, 1) := by decide +kernel
theorem dX15_deads_13 : decode cX15_deads 13 = .ok (.aload_n 0, 1) := by decide +kernel
theorem dX15_deads_14 : decode cX15_deads 14 = .ok (.getfield 45, 3) := by decide +kernel
theorem dX15_deads_17 : decode cX15_deads 17 = .ok (.iload_n 2, 1) := by decide +kernel
theorem dX15_deads_18 : decode cX15_deads 18 = .ok (.baload, 1) := by decide +kernel
theorem dX15_deads_19 : decode cX15_deads 19 = .ok (.ifCond .eq 7, 3) := by decide +kernel
theorem dX15_deads_22 : decode cX15_deads 22 = .ok (.iconst 1, 1) := by decide +kernel
theorem dX15_deads_23 : decode cX15_deads 23 = .ok (.goto 4, 3) := by decide +kernel
theorem dX15_deads_26 : decode cX15_deads 26 = .ok (.iconst 0, 1) := by decide +kernel
theorem dX15_deads_27 : decode cX15_deads 27 = .ok (.iadd, 1) := by decide +kernel
theorem dX15_deads_28 : decode cX15_deads 28 = .ok (.istore_n 1, 1) := by decide +kernel
theorem dX15_deads_29 : decode cX15_deads 29 = .ok (.iinc 2 1, 3) := by decide +kernel
theorem dX15_deads_32 : decode cX15_deads 32 = .ok (.goto (-28), 3) := by decide +kernel
theorem dX15_deads_35 : decode cX15_deads 35 = .ok (.iload_n 1, 1) := by decide +kernel
theorem dX15_deads_36 : decode cX15_deads 36 = .ok (.ireturn, 1) := by decide +kernel
def f_X15_deads_b27 (rec_4 : TH → Nat → Int32 → Int32 → Option (Int32 × TH)) (σ : TH) (l0 : Nat) (l2 : Int32) (t0 : Int32) (t1 : Int32) : Option (Int32 × TH) :=
  lt_ (t1 + t0) fun x5 => lt_ (l2 + 1) fun x6 => rec_4 σ l0 x5 x6
set_option maxHeartbeats 4000000 in
set_option maxRecDepth 100000 in
theorem t_X15_deads_b27 {l : Launch} {D : va_G} {cy : Nat → ClassId} {ka : Nat → Nat} {σ0 z : TH} {r : Int32} {rec_4 : TH → Nat → Int32 → Int32 → Option (Int32 × TH)} (hrec_4 : ∀ (σ : TH) (l0 : Nat) (l1 : Int32) (l2 : Int32), rec_4 σ l0 l1 l2 = some (r, z) → v_ l D cy ka cX15_deads RX15 3 (some FieldType.int) "deads" 0 0 (qf_ D cy σ0 z (some (.int r))) σ0 z σ 4 [(0, va_rf (some l0)), (1, .int l1), (2, .int l2)] []) {σ : TH} {l0 : Nat} {l2 : Int32} {t0 : Int32} {t1 : Int32} (hf : f_X15_deads_b27 rec_4 σ l0 l2 t0 t1 = some (r, z)) : v_ l D cy ka cX15_deads RX15 3 (some FieldType.int) "deads" 0 0 (qf_ D cy σ0 z (some (.int r))) σ0 z σ 27 [(0, va_rf (some l0)), (2, .int l2)] [.int t0, .int t1] := by
  unfold f_X15_deads_b27 at hf
  refine v_iadd dX15_deads_27 ?_
  obtain ⟨x5, ex5⟩ : ∃ y : Int32, y = t1 + t0 := ⟨_, rfl⟩
  rw [lt_e, ← ex5] at hf
  rw [← ex5]
  refine v_istore_n [(1, .int x5), (0, va_rf (some l0)), (2, .int l2)] dX15_deads_28 rfl (by decide) rfl ?_
  obtain ⟨x6, ex6⟩ : ∃ y : Int32, y = l2 + 1 := ⟨_, rfl⟩
  rw [lt_e, ← ex6] at hf
  refine v_iinc (v := x6) [(2, .int x6), (1, .int x5), (0, va_rf (some l0))] dX15_deads_29 2 rfl (by rw [ex6]; rfl) (by decide) rfl ?_
  refine v_goto (tgt := 4) dX15_deads_32 (by decide) ?_
  refine v_sub [2, 1, 0] (L2 := [(0, va_rf (some l0)), (1, .int x5), (2, .int x6)]) rfl ?_
  exact hrec_4 _ _ _ _ hf
def f_X15_deads_b4 : Nat → TH → Nat → Int32 → Int32 → Option (Int32 × TH)
  | 0, _, _, _, _ => none
  | n + 1, σ, l0, l1, l2 => gt_ (kd_ σ l0 = 17) <| lt_ (fi_ σ 1605 l0) fun x1 => if x1 ≤ l2 then (some (l1, σ)) else (lt_ (fr_ σ 1615 l0) fun r2 => nn_ r2 fun a3 => gt_ (kd_ σ a3 = 22) <| gt_ (¬ (l2 < 0 ∨ ln_ σ a3 ≤ l2.toNatClampNeg)) <| lt_ (ai_ σ a3 l2.toNatClampNeg) fun x4 => if x4 = 0 then (f_X15_deads_b27 (f_X15_deads_b4 n) σ l0 l2 (0 : Int32) l1) else (f_X15_deads_b27 (f_X15_deads_b4 n) σ l0 l2 (1 : Int32) l1))
set_option maxHeartbeats 4000000 in
set_option maxRecDepth 100000 in
theorem t_X15_deads_b4 {l : Launch} {D : va_G} {cy : Nat → ClassId} {ka : Nat → Nat} {σ0 z : TH} {r : Int32}  : ∀ (n : Nat) (σ : TH) (l0 : Nat) (l1 : Int32) (l2 : Int32), f_X15_deads_b4 n σ l0 l1 l2 = some (r, z) → v_ l D cy ka cX15_deads RX15 3 (some FieldType.int) "deads" 0 0 (qf_ D cy σ0 z (some (.int r))) σ0 z σ 4 [(0, va_rf (some l0)), (1, .int l1), (2, .int l2)] [] := by
  intro n
  induction n with
  | zero => intro σ l0 l1 l2 hf; unfold f_X15_deads_b4 at hf; cases hf
  | succ n ih =>
    intro σ l0 l1 l2 hf
    unfold f_X15_deads_b4 at hf
    have hrec_4 := ih
    refine v_iload_n (x := l2) dX15_deads_4 rfl 2 rfl ?_
    refine v_aload_n (x := (some l0)) dX15_deads_5 rfl 0 rfl ?_
    obtain ⟨hk_l0, hf⟩ := gt_of hf
    refine v_geti cb_16 hk_l0 5 1605 rfl (by decide) rfl (lk_n kw_1462 rfl) hf dX15_deads_6 (fun x1 hf => ?_)
    refine v_icmp_ge (tgt := 35) hf dX15_deads_9 (by decide) (fun hq hf => ?_) (fun hq hf => ?_)
    · refine v_iload_n (x := l1) dX15_deads_35 rfl 1 rfl ?_
      exact v_iret hf dX15_deads_36
    · refine v_iload_n (x := l1) dX15_deads_12 rfl 1 rfl ?_
      refine v_aload_n (x := (some l0)) dX15_deads_13 rfl 0 rfl ?_
      refine v_getr cb_16 hk_l0 15 1615 rfl (by decide) rfl (lk_n kw_1472 rfl) hf dX15_deads_14 (fun r2 hf => ?_)
      refine v_iload_n (x := l2) dX15_deads_17 rfl 2 rfl ?_
      obtain ⟨a3, rfl, hf⟩ := nn_of hf
      obtain ⟨hk_a3, hf⟩ := gt_of hf
      refine v_zald hk_a3 hf dX15_deads_18 (fun x4 hf => ?_)
      refine v_if_eq (tgt := 26) hf dX15_deads_19 (by decide) (fun hq hf => ?_) (fun hq hf => ?_)
      · refine v_iconst (v := 0) dX15_deads_26 (by decide) ?_
        refine v_sub [0, 2] (L2 := [(0, va_rf (some l0)), (2, .int l2)]) rfl ?_
        exact t_X15_deads_b27 hrec_4 hf
      · refine v_iconst (v := 1) dX15_deads_22 (by decide) ?_
        refine v_goto (tgt := 27) dX15_deads_23 (by decide) ?_
        refine v_sub [0, 2] (L2 := [(0, va_rf (some l0)), (2, .int l2)]) rfl ?_
        exact t_X15_deads_b27 hrec_4 hf
/-- LivesAheadModel.deads()I -/
def f_X15_deads (σ : TH) (p0 : Nat) : Option (Int32 × TH) :=
  f_X15_deads_b4 fu_ σ p0 (0 : Int32) (0 : Int32)
set_option maxHeartbeats 4000000 in
set_option maxRecDepth 100000 in
theorem c_X15_deads {l : Launch} {D : va_G} {cy : Nat → ClassId} {ka : Nat → Nat} {σ z : TH} {p0 : Nat} {r : Int32} (hf : f_X15_deads σ p0 = some (r, z)) : ct_ l D cy ka yX15_deads 0 0 [va_rf (some p0)] σ (some (.int r)) z := by
  unfold f_X15_deads at hf
  refine v_start (cc := cX15_deads) (own := RX15) (maxL := 3) (ret := (some FieldType.int)) (nm := "deads") (by decide +kernel) kw_2284 rfl rfl (by simp [lg_sl, va_rf_cat, cat_i, cat_l]) ?_
  refine v_eqL (L2 := [(0, va_rf (some p0))]) (by simp [lv_args, va_rf_cat, cat_i, cat_l]) ?_
  refine v_iconst (v := 0) dX15_deads_0 (by decide) ?_
  refine v_istore_n [(1, .int (0 : Int32)), (0, va_rf (some p0))] dX15_deads_1 rfl (by decide) rfl ?_
  refine v_iconst (v := 0) dX15_deads_2 (by decide) ?_
  refine v_istore_n [(2, .int (0 : Int32)), (1, .int (0 : Int32)), (0, va_rf (some p0))] dX15_deads_3 rfl (by decide) rfl ?_
  refine v_sub [2, 1, 0] (L2 := [(0, va_rf (some p0)), (1, .int (0 : Int32)), (2, .int (0 : Int32))]) rfl ?_
  exact t_X15_deads_b4  _ _ _ _ _ hf
theorem dX15_living_0 : decode cX15_living 0 = .ok (.iconst 0, 1) := by decide +kernel
theorem dX15_living_1 : decode cX15_living 1 = .ok (.istore_n 1, 1) := by decide +kernel
theorem dX15_living_2 : decode cX15_living 2 = .ok (.iconst 0, 1) := by decide +kernel
theorem dX15_living_3 : decode cX15_living 3 = .ok (.istore_n 2, 1) := by decide +kernel
theorem dX15_living_4 : decode cX15_living 4 = .ok (.iload_n 2, 1) := by decide +kernel
theorem dX15_living_5 : decode cX15_living 5 = .ok (.aload_n 0, 1) := by decide +kernel
theorem dX15_living_6 : decode cX15_living 6 = .ok (.getfield 194, 3) := by decide +kernel
theorem dX15_living_9 : decode cX15_living 9 = .ok (.if_icmp .ge 26, 3) := by decide +kernel
theorem dX15_living_12 : decode cX15_living 12 = .ok (.iload_n 1, 1) := by decide +kernel
theorem dX15_living_13 : decode cX15_living 13 = .ok (.aload_n 0, 1) := by decide +kernel
theorem dX15_living_14 : decode cX15_living 14 = .ok (.getfield 41, 3) := by decide +kernel
theorem dX15_living_17 : decode cX15_living 17 = .ok (.iload_n 2, 1) := by decide +kernel
theorem dX15_living_18 : decode cX15_living 18 = .ok (.baload, 1) := by decide +kernel
theorem dX15_living_19 : decode cX15_living 19 = .ok (.ifCond .eq 7, 3) := by decide +kernel
theorem dX15_living_22 : decode cX15_living 22 = .ok (.iconst 0, 1) := by decide +kernel
theorem dX15_living_23 : decode cX15_living 23 = .ok (.goto 4, 3) := by decide +kernel
theorem dX15_living_26 : decode cX15_living 26 = .ok (.iconst 1, 1) := by decide +kernel
theorem dX15_living_27 : decode cX15_living 27 = .ok (.iadd, 1) := by decide +kernel
theorem dX15_living_28 : decode cX15_living 28 = .ok (.istore_n 1, 1) := by decide +kernel
theorem dX15_living_29 : decode cX15_living 29 = .ok (.iinc 2 1, 3) := by decide +kernel
theorem dX15_living_32 : decode cX15_living 32 = .ok (.goto (-28), 3) := by decide +kernel
theorem dX15_living_35 : decode cX15_living 35 = .ok (.iload_n 1, 1) := by decide +kernel
theorem dX15_living_36 : decode cX15_living 36 = .ok (.ireturn, 1) := by decide +kernel
def f_X15_living_b27 (rec_4 : TH → Nat → Int32 → Int32 → Option (Int32 × TH)) (σ : TH) (l0 : Nat) (l2 : Int32) (t0 : Int32) (t1 : Int32) : Option (Int32 × TH) :=
  lt_ (t1 + t0) fun x5 => lt_ (l2 + 1) fun x6 => rec_4 σ l0 x5 x6
set_option maxHeartbeats 4000000 in
set_option maxRecDepth 100000 in
theorem t_X15_living_b27 {l : Launch} {D : va_G} {cy : Nat → ClassId} {ka : Nat → Nat} {σ0 z : TH} {r : Int32} {rec_4 : TH → Nat → Int32 → Int32 → Option (Int32 × TH)} (hrec_4 : ∀ (σ : TH) (l0 : Nat) (l1 : Int32) (l2 : Int32), rec_4 σ l0 l1 l2 = some (r, z) → v_ l D cy ka cX15_living RX15 3 (some FieldType.int) "living" 0 0 (qf_ D cy σ0 z (some (.int r))) σ0 z σ 4 [(0, va_rf (some l0)), (1, .int l1), (2, .int l2)] []) {σ : TH} {l0 : Nat} {l2 : Int32} {t0 : Int32} {t1 : Int32} (hf : f_X15_living_b27 rec_4 σ l0 l2 t0 t1 = some (r, z)) : v_ l D cy ka cX15_living RX15 3 (some FieldType.int) "living" 0 0 (qf_ D cy σ0 z (some (.int r))) σ0 z σ 27 [(0, va_rf (some l0)), (2, .int l2)] [.int t0, .int t1] := by
  unfold f_X15_living_b27 at hf
  refine v_iadd dX15_living_27 ?_
  obtain ⟨x5, ex5⟩ : ∃ y : Int32, y = t1 + t0 := ⟨_, rfl⟩
  rw [lt_e, ← ex5] at hf
  rw [← ex5]
  refine v_istore_n [(1, .int x5), (0, va_rf (some l0)), (2, .int l2)] dX15_living_28 rfl (by decide) rfl ?_
  obtain ⟨x6, ex6⟩ : ∃ y : Int32, y = l2 + 1 := ⟨_, rfl⟩
  rw [lt_e, ← ex6] at hf
  refine v_iinc (v := x6) [(2, .int x6), (1, .int x5), (0, va_rf (some l0))] dX15_living_29 2 rfl (by rw [ex6]; rfl) (by decide) rfl ?_
  refine v_goto (tgt := 4) dX15_living_32 (by decide) ?_
  refine v_sub [2, 1, 0] (L2 := [(0, va_rf (some l0)), (1, .int x5), (2, .int x6)]) rfl ?_
  exact hrec_4 _ _ _ _ hf
def f_X15_living_b4 : Nat → TH → Nat → Int32 → Int32 → Option (Int32 × TH)
  | 0, _, _, _, _ => none
  | n + 1, σ, l0, l1, l2 => gt_ (kd_ σ l0 = 17) <| lt_ (fi_ σ 1604 l0) fun x1 => if x1 ≤ l2 then (some (l1, σ)) else (lt_ (fr_ σ 1614 l0) fun r2 => nn_ r2 fun a3 => gt_ (kd_ σ a3 = 22) <| gt_ (¬ (l2 < 0 ∨ ln_ σ a3 ≤ l2.toNatClampNeg)) <| lt_ (ai_ σ a3 l2.toNatClampNeg) fun x4 => if x4 = 0 then (f_X15_living_b27 (f_X15_living_b4 n) σ l0 l2 (1 : Int32) l1) else (f_X15_living_b27 (f_X15_living_b4 n) σ l0 l2 (0 : Int32) l1))
set_option maxHeartbeats 4000000 in
set_option maxRecDepth 100000 in
theorem t_X15_living_b4 {l : Launch} {D : va_G} {cy : Nat → ClassId} {ka : Nat → Nat} {σ0 z : TH} {r : Int32}  : ∀ (n : Nat) (σ : TH) (l0 : Nat) (l1 : Int32) (l2 : Int32), f_X15_living_b4 n σ l0 l1 l2 = some (r, z) → v_ l D cy ka cX15_living RX15 3 (some FieldType.int) "living" 0 0 (qf_ D cy σ0 z (some (.int r))) σ0 z σ 4 [(0, va_rf (some l0)), (1, .int l1), (2, .int l2)] [] := by
  intro n
  induction n with
  | zero => intro σ l0 l1 l2 hf; unfold f_X15_living_b4 at hf; cases hf
  | succ n ih =>
    intro σ l0 l1 l2 hf
    unfold f_X15_living_b4 at hf
    have hrec_4 := ih
    refine v_iload_n (x := l2) dX15_living_4 rfl 2 rfl ?_
    refine v_aload_n (x := (some l0)) dX15_living_5 rfl 0 rfl ?_
    obtain ⟨hk_l0, hf⟩ := gt_of hf
    refine v_geti cb_16 hk_l0 4 1604 rfl (by decide) rfl (lk_n kw_1461 rfl) hf dX15_living_6 (fun x1 hf => ?_)
    refine v_icmp_ge (tgt := 35) hf dX15_living_9 (by decide) (fun hq hf => ?_) (fun hq hf => ?_)
    · refine v_iload_n (x := l1) dX15_living_35 rfl 1 rfl ?_
      exact v_iret hf dX15_living_36
    · refine v_iload_n (x := l1) dX15_living_12 rfl 1 rfl ?_
      refine v_aload_n (x := (some l0)) dX15_living_13 rfl 0 rfl ?_
      refine v_getr cb_16 hk_l0 14 1614 rfl (by decide) rfl (lk_n kw_1471 rfl) hf dX15_living_14 (fun r2 hf => ?_)
      refine v_iload_n (x := l2) dX15_living_17 rfl 2 rfl ?_
      obtain ⟨a3, rfl, hf⟩ := nn_of hf
      obtain ⟨hk_a3, hf⟩ := gt_of hf
      refine v_zald hk_a3 hf dX15_living_18 (fun x4 hf => ?_)
      refine v_if_eq (tgt := 26) hf dX15_living_19 (by decide) (fun hq hf => ?_) (fun hq hf => ?_)
      · refine v_iconst (v := 1) dX15_living_26 (by decide) ?_
        refine v_sub [0, 2] (L2 := [(0, va_rf (some l0)), (2, .int l2)]) rfl ?_
        exact t_X15_living_b27 hrec_4 hf
      · refine v_iconst (v := 0) dX15_living_22 (by decide) ?_
        refine v_goto (tgt := 27) dX15_living_23 (by decide) ?_
        refine v_sub [0, 2] (L2 := [(0, va_rf (some l0)), (2, .int l2)]) rfl ?_
        exact t_X15_living_b27 hrec_4 hf
/-- LivesAheadModel.living()I -/
def f_X15_living (σ : TH) (p0 : Nat) : Option (Int32 × TH) :=
  f_X15_living_b4 fu_ σ p0 (0 : Int32) (0 : Int32)
set_option maxHeartbeats 4000000 in
set_option maxRecDepth 100000 in
theorem c_X15_living {l : Launch} {D : va_G} {cy : Nat → ClassId} {ka : Nat → Nat} {σ z : TH} {p0 : Nat} {r : Int32} (hf : f_X15_living σ p0 = some (r, z)) : ct_ l D cy ka yX15_living 0 0 [va_rf (some p0)] σ (some (.int r)) z := by
  unfold f_X15_living at hf
  refine v_start (cc := cX15_living) (own := RX15) (maxL := 3) (ret := (some FieldType.int)) (nm := "living") (by decide +kernel) kw_2288 rfl rfl (by simp [lg_sl, va_rf_cat, cat_i, cat_l]) ?_
  refine v_eqL (L2 := [(0, va_rf (some p0))]) (by simp [lv_args, va_rf_cat, cat_i, cat_l]) ?_
  refine v_iconst (v := 0) dX15_living_0 (by decide) ?_
  refine v_istore_n [(1, .int (0 : Int32)), (0, va_rf (some p0))] dX15_living_1 rfl (by decide) rfl ?_
  refine v_iconst (v := 0) dX15_living_2 (by decide) ?_
  refine v_istore_n [(2, .int (0 : Int32)), (1, .int (0 : Int32)), (0, va_rf (some p0))] dX15_living_3 rfl (by decide) rfl ?_
  refine v_sub [2, 1, 0] (L2 := [(0, va_rf (some p0)), (1, .int (0 : Int32)), (2, .int (0 : Int32))]) rfl ?_
  exact t_X15_living_b4  _ _ _ _ _ hf
theorem dX15_count_0 : decode cX15_count 0 = .ok (.aload_n 0, 1) := by decide +kernel
theorem dX15_count_1 : decode cX15_count 1 = .ok (.iconst 0, 1) := by decide +kernel
theorem dX15_count_2 : decode cX15_count 2 = .ok (.putfield 1, 3) := by decide +kernel
theorem dX15_count_5 : decode cX15_count 5 = .ok (.iload_n 1, 1) := by decide +kernel
theorem dX15_count_6 : decode cX15_count 6 = .ok (.tableswitch 135 0 12 #[66, 71, 76, 81, 86, 91, 96, 101, 106, 111, 116, 121, 130], 66) := by decide +kernel
theorem dX15_count_72 : decode cX15_count 72 = .ok (.aload_n 0, 1) := by decide +kernel
theorem dX15_count_73 : decode cX15_count 73 = .ok (.getfield 191, 3) := by decide +kernel
theorem dX15_count_76 : decode cX15_count 76 = .ok (.ireturn, 1) := by decide +kernel
theorem dX15_count_77 : decode cX15_count 77 = .ok (.aload_n 0, 1) := by decide +kernel
theorem dX15_count_78 : decode cX15_count 78 = .ok (.invokevirtual 623, 3) := by decide +kernel
theorem dX15_count_81 : decode cX15_count 81 = .ok (.ireturn, 1) := by decide +kernel
theorem dX15_count_82 : decode cX15_count 82 = .ok (.aload_n 0, 1) := by decide +kernel
theorem dX15_count_83 : decode cX15_count 83 = .ok (.invokevirtual 626, 3) := by decide +kernel
theorem dX15_count_86 : decode cX15_count 86 = .ok (.ireturn, 1) := by decide +kernel
theorem dX15_count_87 : decode cX15_count 87 = .ok (.aload_n 0, 1) := by decide +kernel
theorem dX15_count_88 : decode cX15_count 88 = .ok (.getfield 253, 3) := by decide +kernel
theorem dX15_count_91 : decode cX15_count 91 = .ok (.ireturn, 1) := by decide +kernel
theorem dX15_count_92 : decode cX15_count 92 = .ok (.aload_n 0, 1) := by decide +kernel
theorem dX15_count_93 : decode cX15_count 93 = .ok (.getfield 469, 3) := by decide +kernel
theorem dX15_count_96 : decode cX15_count 96 = .ok (.ireturn, 1) := by decide +kernel
theorem dX15_count_97 : decode cX15_count 97 = .ok (.aload_n 0, 1) := by decide +kernel
theorem dX15_count_98 : decode cX15_count 98 = .ok (.getfield 540, 3) := by decide +kernel
theorem dX15_count_101 : decode cX15_count 101 = .ok (.ireturn, 1) := by decide +kernel
theorem dX15_count_102 : decode cX15_count 102 = .ok (.aload_n 0, 1) := by decide +kernel
theorem dX15_count_103 : decode cX15_count 103 = .ok (.getfield 537, 3) := by decide +kernel
theorem dX15_count_106 : decode cX15_count 106 = .ok (.ireturn, 1) := by decide +kernel
theorem dX15_count_107 : decode cX15_count 107 = .ok (.aload_n 0, 1) := by decide +kernel
theorem dX15_count_108 : decode cX15_count 108 = .ok (.getfield 559, 3) := by decide +kernel
theorem dX15_count_111 : decode cX15_count 111 = .ok (.ireturn, 1) := by decide +kernel
theorem dX15_count_112 : decode cX15_count 112 = .ok (.aload_n 0, 1) := by decide +kernel
theorem dX15_count_113 : decode cX15_count 113 = .ok (.getfield 562, 3) := by decide +kernel
theorem dX15_count_116 : decode cX15_count 116 = .ok (.ireturn, 1) := by decide +kernel
theorem dX15_count_117 : decode cX15_count 117 = .ok (.aload_n 0, 1) := by decide +kernel
theorem dX15_count_118 : decode cX15_count 118 = .ok (.getfield 565, 3) := by decide +kernel
theorem dX15_count_121 : decode cX15_count 121 = .ok (.ireturn, 1) := by decide +kernel
theorem dX15_count_122 : decode cX15_count 122 = .ok (.aload_n 0, 1) := by decide +kernel
theorem dX15_count_123 : decode cX15_count 123 = .ok (.invokevirtual 230, 3) := by decide +kernel
theorem dX15_count_126 : decode cX15_count 126 = .ok (.ireturn, 1) := by decide +kernel
theorem dX15_count_127 : decode cX15_count 127 = .ok (.aload_n 0, 1) := by decide +kernel
theorem dX15_count_128 : decode cX15_count 128 = .ok (.getfield 188, 3) := by decide +kernel
theorem dX15_count_131 : decode cX15_count 131 = .ok (.sipush 1440, 3) := by decide +kernel
theorem dX15_count_134 : decode cX15_count 134 = .ok (.irem, 1) := by decide +kernel
theorem dX15_count_135 : decode cX15_count 135 = .ok (.ireturn, 1) := by decide +kernel
theorem dX15_count_136 : decode cX15_count 136 = .ok (.aload_n 0, 1) := by decide +kernel
theorem dX15_count_137 : decode cX15_count 137 = .ok (.getfield 466, 3) := by decide +kernel
theorem dX15_count_140 : decode cX15_count 140 = .ok (.ireturn, 1) := by decide +kernel
theorem dX15_count_141 : decode cX15_count 141 = .ok (.iconst (-1), 1) := by decide +kernel
theorem dX15_count_142 : decode cX15_count 142 = .ok (.ireturn, 1) := by decide +kernel
/-- LivesAheadModel.count(I)I -/
def f_X15_count (σ : TH) (p0 : Nat) (p1 : Int32) : Option (Int32 × TH) :=
  gt_ (kd_ σ p0 = 17) <| lt_ (si_ σ 1600 p0 (0 : Int32)) fun s1 => if p1 = 0 then (lt_ (fi_ s1 1605 p0) fun x2 => some (x2, s1)) else if p1 = 1 then (bd_ (f_X15_deads s1 p0) fun x3 s4 => some (x3, s4)) else if p1 = 2 then (bd_ (f_X15_living s1 p0) fun x5 s6 => some (x5, s6)) else if p1 = 3 then (lt_ (fi_ s1 1617 p0) fun x7 => some (x7, s1)) else if p1 = 4 then (lt_ (fi_ s1 1647 p0) fun x8 => some (x8, s1)) else if p1 = 5 then (lt_ (fi_ s1 1659 p0) fun x9 => some (x9, s1)) else if p1 = 6 then (lt_ (fi_ s1 1658 p0) fun x10 => some (x10, s1)) else if p1 = 7 then (lt_ (fi_ s1 1669 p0) fun x11 => some (x11, s1)) else if p1 = 8 then (lt_ (fi_ s1 1670 p0) fun x12 => some (x12, s1)) else if p1 = 9 then (lt_ (fi_ s1 1671 p0) fun x13 => some (x13, s1)) else if p1 = 10 then (bd_ (f_X15_today s1 p0) fun x14 s15 => some (x14, s15)) else if p1 = 11 then (lt_ (fi_ s1 1606 p0) fun x16 => gt_ (¬ (1440 : Int32) = 0) <| some (x16 - x16 / (1440 : Int32) * (1440 : Int32), s1)) else if p1 = 12 then (lt_ (fi_ s1 1630 p0) fun x17 => some (x17, s1)) else (some ((-1 : Int32), s1))
set_option maxHeartbeats 4000000 in
set_option maxRecDepth 100000 in
theorem c_X15_count {l : Launch} {D : va_G} {cy : Nat → ClassId} {ka : Nat → Nat} {σ z : TH} {p0 : Nat} {p1 : Int32} {r : Int32} (hf : f_X15_count σ p0 p1 = some (r, z)) : ct_ l D cy ka yX15_count 1 22 [va_rf (some p0), .int p1] σ (some (.int r)) z := by
  unfold f_X15_count at hf
  refine v_start (cc := cX15_count) (own := RX15) (maxL := 2) (ret := (some FieldType.int)) (nm := "count") (by decide +kernel) kw_2280 rfl rfl (by simp [lg_sl, va_rf_cat, cat_i, cat_l]) ?_
  refine v_eqL (L2 := [(0, va_rf (some p0)), (1, .int p1)]) (by simp [lv_args, va_rf_cat, cat_i, cat_l]) ?_
  refine v_aload_n (x := (some p0)) dX15_count_0 rfl 0 rfl ?_
  refine v_iconst (v := 0) dX15_count_1 (by decide) ?_
  obtain ⟨hk_p0, hf⟩ := gt_of hf
  refine v_puti2 cb_16 hk_p0 0 1600 rfl (by decide) rfl (lk_n kw_1457 rfl) (Or.inl rfl) rfl rfl hf dX15_count_2 (fun s1 hts1 hf => ?_)
  have hk_p0 := tk_ hts1 hk_p0
  refine v_iload_n (x := p1) dX15_count_5 rfl 1 rfl ?_
  by_cases hq0 : p1 = 0
  · rw [if_pos hq0] at hf
    refine v_tswIn (tgt := 72) (c9 := 0) hq0 dX15_count_6 (by decide) (by decide) rfl (by decide) ?_
    refine v_aload_n (x := (some p0)) dX15_count_72 rfl 0 rfl ?_
    refine v_geti cb_16 hk_p0 5 1605 rfl (by decide) rfl (lk_n kw_1462 rfl) hf dX15_count_73 (fun x2 hf => ?_)
    exact v_iret hf dX15_count_76
  rw [if_neg hq0] at hf
  by_cases hq1 : p1 = 1
  · rw [if_pos hq1] at hf
    refine v_tswIn (tgt := 77) (c9 := 1) hq1 dX15_count_6 (by decide) (by decide) rfl (by decide) ?_
    refine v_aload_n (x := (some p0)) dX15_count_77 rfl 0 rfl ?_
    obtain ⟨x3, s4, hcs4, hf⟩ := bd_of hf
    have hts4 := c_X15_deads (l := l) (D := D) (cy := cy) (ka := ka) hcs4
    refine v_callV cb_16 hk_p0 (As := []) (rest := []) hts4 yb_X15_deads kw_2281 kw_2283 kp_139 rfl ⟨Nat.le_of_ble_eq_true rfl, Nat.le_of_ble_eq_true rfl⟩ rfl (cat_len (Nat.le_of_ble_eq_true rfl)) dX15_count_78 ?_
    have hk_p0 := tk_ hts4.1 hk_p0
    show v_ l D cy ka cX15_count RX15 2 (some FieldType.int) "count" 1 22 (qf_ D cy σ z (some (.int r))) σ z _ 81 [(0, va_rf (some p0)), (1, .int p1)] [.int x3]
    exact v_iret hf dX15_count_81
  rw [if_neg hq1] at hf
  by_cases hq2 : p1 = 2
  · rw [if_pos hq2] at hf
    refine v_tswIn (tgt := 82) (c9 := 2) hq2 dX15_count_6 (by decide) (by decide) rfl (by decide) ?_
    refine v_aload_n (x := (some p0)) dX15_count_82 rfl 0 rfl ?_
    obtain ⟨x5, s6, hcs6, hf⟩ := bd_of hf
    have hts6 := c_X15_living (l := l) (D := D) (cy := cy) (ka := ka) hcs6
    refine v_callV cb_16 hk_p0 (As := []) (rest := []) hts6 yb_X15_living kw_2285 kw_2287 kp_140 rfl ⟨Nat.le_of_ble_eq_true rfl, Nat.le_of_ble_eq_true rfl⟩ rfl (cat_len (Nat.le_of_ble_eq_true rfl)) dX15_count_83 ?_
    have hk_p0 := tk_ hts6.1 hk_p0
    show v_ l D cy ka cX15_count RX15 2 (some FieldType.int) "count" 1 22 (qf_ D cy σ z (some (.int r))) σ z _ 86 [(0, va_rf (some p0)), (1, .int p1)] [.int x5]
    exact v_iret hf dX15_count_86
  rw [if_neg hq2] at hf
  by_cases hq3 : p1 = 3
  · rw [if_pos hq3] at hf
    refine v_tswIn (tgt := 87) (c9 := 3) hq3 dX15_count_6 (by decide) (by decide) rfl (by decide) ?_
    refine v_aload_n (x := (some p0)) dX15_count_87 rfl 0 rfl ?_
    refine v_geti cb_16 hk_p0 17 1617 rfl (by decide) rfl (lk_n kw_1474 rfl) hf dX15_count_88 (fun x7 hf => ?_)
    exact v_iret hf dX15_count_91
  rw [if_neg hq3] at hf
  by_cases hq4 : p1 = 4
  · rw [if_pos hq4] at hf
    refine v_tswIn (tgt := 92) (c9 := 4) hq4 dX15_count_6 (by decide) (by decide) rfl (by decide) ?_
    refine v_aload_n (x := (some p0)) dX15_count_92 rfl 0 rfl ?_
    refine v_geti cb_16 hk_p0 47 1647 rfl (by decide) rfl (lk_n kw_1504 rfl) hf dX15_count_93 (fun x8 hf => ?_)
    exact v_iret hf dX15_count_96
  rw [if_neg hq4] at hf
  by_cases hq5 : p1 = 5
  · rw [if_pos hq5] at hf
    refine v_tswIn (tgt := 97) (c9 := 5) hq5 dX15_count_6 (by decide) (by decide) rfl (by decide) ?_
    refine v_aload_n (x := (some p0)) dX15_count_97 rfl 0 rfl ?_
    refine v_geti cb_16 hk_p0 59 1659 rfl (by decide) rfl (lk_n kw_1516 rfl) hf dX15_count_98 (fun x9 hf => ?_)
    exact v_iret hf dX15_count_101
  rw [if_neg hq5] at hf
  by_cases hq6 : p1 = 6
  · rw [if_pos hq6] at hf
    refine v_tswIn (tgt := 102) (c9 := 6) hq6 dX15_count_6 (by decide) (by decide) rfl (by decide) ?_
    refine v_aload_n (x := (some p0)) dX15_count_102 rfl 0 rfl ?_
    refine v_geti cb_16 hk_p0 58 1658 rfl (by decide) rfl (lk_n kw_1515 rfl) hf dX15_count_103 (fun x10 hf => ?_)
    exact v_iret hf dX15_count_106
  rw [if_neg hq6] at hf
  by_cases hq7 : p1 = 7
  · rw [if_pos hq7] at hf
    refine v_tswIn (tgt := 107) (c9 := 7) hq7 dX15_count_6 (by decide) (by decide) rfl (by decide) ?_
    refine v_aload_n (x := (some p0)) dX15_count_107 rfl 0 rfl ?_
    refine v_geti cb_16 hk_p0 69 1669 rfl (by decide) rfl (lk_n kw_1526 rfl) hf dX15_count_108 (fun x11 hf => ?_)
    exact v_iret hf dX15_count_111
  rw [if_neg hq7] at hf
  by_cases hq8 : p1 = 8
  · rw [if_pos hq8] at hf
    refine v_tswIn (tgt := 112) (c9 := 8) hq8 dX15_count_6 (by decide) (by decide) rfl (by decide) ?_
    refine v_aload_n (x := (some p0)) dX15_count_112 rfl 0 rfl ?_
    refine v_geti cb_16 hk_p0 70 1670 rfl (by decide) rfl (lk_n kw_1527 rfl) hf dX15_count_113 (fun x12 hf => ?_)
    exact v_iret hf dX15_count_116
  rw [if_neg hq8] at hf
  by_cases hq9 : p1 = 9
  · rw [if_pos hq9] at hf
    refine v_tswIn (tgt := 117) (c9 := 9) hq9 dX15_count_6 (by decide) (by decide) rfl (by decide) ?_
    refine v_aload_n (x := (some p0)) dX15_count_117 rfl 0 rfl ?_
    refine v_geti cb_16 hk_p0 71 1671 rfl (by decide) rfl (lk_n kw_1528 rfl) hf dX15_count_118 (fun x13 hf => ?_)
    exact v_iret hf dX15_count_121
  rw [if_neg hq9] at hf
  by_cases hq10 : p1 = 10
  · rw [if_pos hq10] at hf
    refine v_tswIn (tgt := 122) (c9 := 10) hq10 dX15_count_6 (by decide) (by decide) rfl (by decide) ?_
    refine v_aload_n (x := (some p0)) dX15_count_122 rfl 0 rfl ?_
    obtain ⟨x14, s15, hcs15, hf⟩ := bd_of hf
    have hts15 := c_X15_today (l := l) (D := D) (cy := cy) (ka := ka) hcs15
    refine v_callV cb_16 hk_p0 (As := []) (rest := []) hts15 yb_X15_today kw_1774 kw_1776 kp_84 rfl ⟨Nat.le_of_ble_eq_true rfl, Nat.le_of_ble_eq_true rfl⟩ rfl (cat_len (Nat.le_of_ble_eq_true rfl)) dX15_count_123 ?_
    have hk_p0 := tk_ hts15.1 hk_p0
    show v_ l D cy ka cX15_count RX15 2 (some FieldType.int) "count" 1 22 (qf_ D cy σ z (some (.int r))) σ z _ 126 [(0, va_rf (some p0)), (1, .int p1)] [.int x14]
    exact v_iret hf dX15_count_126
  rw [if_neg hq10] at hf
  by_cases hq11 : p1 = 11
  · rw [if_pos hq11] at hf
    refine v_tswIn (tgt := 127) (c9 := 11) hq11 dX15_count_6 (by decide) (by decide) rfl (by decide) ?_
    refine v_aload_n (x := (some p0)) dX15_count_127 rfl 0 rfl ?_
    refine v_geti cb_16 hk_p0 6 1606 rfl (by decide) rfl (lk_n kw_1463 rfl) hf dX15_count_128 (fun x16 hf => ?_)
    refine v_sipush (v := 1440) dX15_count_131 (by decide) ?_
    refine v_irem hf dX15_count_134 (fun hf => ?_)
    exact v_iret hf dX15_count_135
  rw [if_neg hq11] at hf
  by_cases hq12 : p1 = 12
  · rw [if_pos hq12] at hf
    refine v_tswIn (tgt := 136) (c9 := 12) hq12 dX15_count_6 (by decide) (by decide) rfl (by decide) ?_
    refine v_aload_n (x := (some p0)) dX15_count_136 rfl 0 rfl ?_
    refine v_geti cb_16 hk_p0 30 1630 rfl (by decide) rfl (lk_n kw_1487 rfl) hf dX15_count_137 (fun x17 hf => ?_)
    exact v_iret hf dX15_count_140
  rw [if_neg hq12] at hf
  refine v_tswOut (tgt := 141) 13 0 (by decide) (by decide) (fun j hj => ?_) (by decide) (by decide) dX15_count_6 (by decide) ?_
  · match j, hj with
    | 0, _ => exact hq0
    | 1, _ => exact hq1
    | 2, _ => exact hq2
    | 3, _ => exact hq3
    | 4, _ => exact hq4
    | 5, _ => exact hq5
    | 6, _ => exact hq6
    | 7, _ => exact hq7
    | 8, _ => exact hq8
    | 9, _ => exact hq9
    | 10, _ => exact hq10
    | 11, _ => exact hq11
    | 12, _ => exact hq12
    | j + 13, hj => exact absurd hj (by omega)
  · refine v_iconst (v := (-1)) dX15_count_141 (by decide) ?_
    exact v_iret hf dX15_count_142
theorem dX15_at_0 : decode cX15_at 0 = .ok (.iconst 0, 1) := by decide +kernel
theorem dX15_at_1 : decode cX15_at 1 = .ok (.istore_n 3, 1) := by decide +kernel
theorem dX15_at_2 : decode cX15_at 2 = .ok (.iload_n 3, 1) := by decide +kernel
theorem dX15_at_3 : decode cX15_at 3 = .ok (.aload_n 0, 1) := by decide +kernel
theorem dX15_at_4 : decode cX15_at 4 = .ok (.getfield 469, 3) := by decide +kernel
theorem dX15_at_7 : decode cX15_at 7 = .ok (.if_icmp .ge 42, 3) := by decide +kernel
theorem dX15_at_10 : decode cX15_at 10 = .ok (.aload_n 0, 1) := by decide +kernel
theorem dX15_at_11 : decode cX15_at 11 = .ok (.getfield 94, 3) := by decide +kernel
theorem dX15_at_14 : decode cX15_at 14 = .ok (.iload_n 3, 1) := by decide +kernel
theorem dX15_at_15 : decode cX15_at 15 = .ok (.aaload, 1) := by decide +kernel
theorem dX15_at_16 : decode cX15_at 16 = .ok (.getfield 472, 3) := by decide +kernel
theorem dX15_at_19 : decode cX15_at 19 = .ok (.iload_n 1, 1) := by decide +kernel
theorem dX15_at_20 : decode cX15_at 20 = .ok (.if_icmp .ne 23, 3) := by decide +kernel
theorem dX15_at_23 : decode cX15_at 23 = .ok (.aload_n 0, 1) := by decide +kernel
theorem dX15_at_24 : decode cX15_at 24 = .ok (.getfield 94, 3) := by decide +kernel
theorem dX15_at_27 : decode cX15_at 27 = .ok (.iload_n 3, 1) := by decide +kernel
theorem dX15_at_28 : decode cX15_at 28 = .ok (.aaload, 1) := by decide +kernel
theorem dX15_at_29 : decode cX15_at 29 = .ok (.getfield 475, 3) := by decide +kernel
theorem dX15_at_32 : decode cX15_at 32 = .ok (.iload_n 2, 1) := by decide +kernel
theorem dX15_at_33 : decode cX15_at 33 = .ok (.if_icmp .ne 10, 3) := by decide +kernel
theorem dX15_at_36 : decode cX15_at 36 = .ok (.aload_n 0, 1) := by decide +kernel
theorem dX15_at_37 : decode cX15_at 37 = .ok (.getfield 94, 3) := by decide +kernel
theorem dX15_at_40 : decode cX15_at 40 = .ok (.iload_n 3, 1) := by decide +kernel
theorem dX15_at_41 : decode cX15_at 41 = .ok (.aaload, 1) := by decide +kernel
theorem dX15_at_42 : decode cX15_at 42 = .ok (.areturn, 1) := by decide +kernel
theorem dX15_at_43 : decode cX15_at 43 = .ok (.iinc 3 1, 3) := by decide +kernel
theorem dX15_at_46 : decode cX15_at 46 = .ok (.goto (-44), 3) := by decide +kernel
theorem dX15_at_49 : decode cX15_at 49 = .ok (.aconst_null, 1) := by decide +kernel
theorem dX15_at_50 : decode cX15_at 50 = .ok (.areturn, 1) := by decide +kernel
def f_X15_at_b43 (rec_2 : TH → Nat → Int32 → Int32 → Int32 → Option (Option Nat × TH)) (σ : TH) (l0 : Nat) (l1 : Int32) (l2 : Int32) (l3 : Int32) : Option (Option Nat × TH) :=
  lt_ (l3 + 1) fun x15 => rec_2 σ l0 l1 l2 x15
set_option maxHeartbeats 4000000 in
set_option maxRecDepth 100000 in
theorem t_X15_at_b43 {l : Launch} {D : va_G} {cy : Nat → ClassId} {ka : Nat → Nat} {σ0 z : TH} {r : Option Nat} {rec_2 : TH → Nat → Int32 → Int32 → Int32 → Option (Option Nat × TH)} (hrec_2 : ∀ (σ : TH) (l0 : Nat) (l1 : Int32) (l2 : Int32) (l3 : Int32), rec_2 σ l0 l1 l2 l3 = some (r, z) → v_ l D cy ka cX15_at RX15 4 (some (FieldType.object "LivesAheadModel$Paragraph")) "at" 0 0 (qf_ D cy σ0 z (some (va_rf r))) σ0 z σ 2 [(0, va_rf (some l0)), (1, .int l1), (2, .int l2), (3, .int l3)] []) {σ : TH} {l0 : Nat} {l1 : Int32} {l2 : Int32} {l3 : Int32} (hf : f_X15_at_b43 rec_2 σ l0 l1 l2 l3 = some (r, z)) : v_ l D cy ka cX15_at RX15 4 (some (FieldType.object "LivesAheadModel$Paragraph")) "at" 0 0 (qf_ D cy σ0 z (some (va_rf r))) σ0 z σ 43 [(0, va_rf (some l0)), (1, .int l1), (2, .int l2), (3, .int l3)] [] := by
  unfold f_X15_at_b43 at hf
  obtain ⟨x15, ex15⟩ : ∃ y : Int32, y = l3 + 1 := ⟨_, rfl⟩
  rw [lt_e, ← ex15] at hf
  refine v_iinc (v := x15) [(3, .int x15), (0, va_rf (some l0)), (1, .int l1), (2, .int l2)] dX15_at_43 3 rfl (by rw [ex15]; rfl) (by decide) rfl ?_
  refine v_goto (tgt := 2) dX15_at_46 (by decide) ?_
  refine v_sub [1, 2, 3, 0] (L2 := [(0, va_rf (some l0)), (1, .int l1), (2, .int l2), (3, .int x15)]) rfl ?_
  exact hrec_2 _ _ _ _ _ hf
def f_X15_at_b2 : Nat → TH → Nat → Int32 → Int32 → Int32 → Option (Option Nat × TH)
  | 0, _, _, _, _, _ => none
  | n + 1, σ, l0, l1, l2, l3 => gt_ (kd_ σ l0 = 17) <| lt_ (fi_ σ 1647 l0) fun x1 => if x1 ≤ l3 then (some (none, σ)) else (lt_ (fr_ σ 1648 l0) fun r2 => nn_ r2 fun a3 => gt_ (kd_ σ a3 = 27) <| gt_ (¬ (l3 < 0 ∨ ln_ σ a3 ≤ l3.toNatClampNeg)) <| lt_ (ar_ σ a3 l3.toNatClampNeg) fun r4 => nn_ r4 fun a5 => gt_ (kd_ σ a5 = 15) <| lt_ (fi_ σ 1400 a5) fun x6 => if x6 = l1 then (lt_ (fr_ σ 1648 l0) fun r7 => nn_ r7 fun a8 => gt_ (kd_ σ a8 = 27) <| gt_ (¬ (l3 < 0 ∨ ln_ σ a8 ≤ l3.toNatClampNeg)) <| lt_ (ar_ σ a8 l3.toNatClampNeg) fun r9 => nn_ r9 fun a10 => gt_ (kd_ σ a10 = 15) <| lt_ (fi_ σ 1401 a10) fun x11 => if x11 = l2 then (lt_ (fr_ σ 1648 l0) fun r12 => nn_ r12 fun a13 => gt_ (kd_ σ a13 = 27) <| gt_ (¬ (l3 < 0 ∨ ln_ σ a13 ≤ l3.toNatClampNeg)) <| lt_ (ar_ σ a13 l3.toNatClampNeg) fun r14 => some (r14, σ)) else (f_X15_at_b43 (f_X15_at_b2 n) σ l0 l1 l2 l3)) else (f_X15_at_b43 (f_X15_at_b2 n) σ l0 l1 l2 l3))
set_option maxHeartbeats 4000000 in
set_option maxRecDepth 100000 in
theorem t_X15_at_b2 {l : Launch} {D : va_G} {cy : Nat → ClassId} {ka : Nat → Nat} {σ0 z : TH} {r : Option Nat}  : ∀ (n : Nat) (σ : TH) (l0 : Nat) (l1 : Int32) (l2 : Int32) (l3 : Int32), f_X15_at_b2 n σ l0 l1 l2 l3 = some (r, z) → v_ l D cy ka cX15_at RX15 4 (some (FieldType.object "LivesAheadModel$Paragraph")) "at" 0 0 (qf_ D cy σ0 z (some (va_rf r))) σ0 z σ 2 [(0, va_rf (some l0)), (1, .int l1), (2, .int l2), (3, .int l3)] [] := by
  intro n
  induction n with
  | zero => intro σ l0 l1 l2 l3 hf; unfold f_X15_at_b2 at hf; cases hf
  | succ n ih =>
    intro σ l0 l1 l2 l3 hf
    unfold f_X15_at_b2 at hf
    have hrec_2 := ih
    refine v_iload_n (x := l3) dX15_at_2 rfl 3 rfl ?_
    refine v_aload_n (x := (some l0)) dX15_at_3 rfl 0 rfl ?_
    obtain ⟨hk_l0, hf⟩ := gt_of hf
    refine v_geti cb_16 hk_l0 47 1647 rfl (by decide) rfl (lk_n kw_1504 rfl) hf dX15_at_4 (fun x1 hf => ?_)
    refine v_icmp_ge (tgt := 49) hf dX15_at_7 (by decide) (fun hq hf => ?_) (fun hq hf => ?_)
    · refine v_null dX15_at_49 ?_
      exact v_aret (x := none) hf (Or.inl ⟨_, rfl⟩) dX15_at_50
    · refine v_aload_n (x := (some l0)) dX15_at_10 rfl 0 rfl ?_
      refine v_getr cb_16 hk_l0 48 1648 rfl (by decide) rfl (lk_n kw_1505 rfl) hf dX15_at_11 (fun r2 hf => ?_)
      refine v_iload_n (x := l3) dX15_at_14 rfl 3 rfl ?_
      obtain ⟨a3, rfl, hf⟩ := nn_of hf
      obtain ⟨hk_a3, hf⟩ := gt_of hf
      refine v_aald 26 7 RX13 hk_a3 (by decide) rfl hf dX15_at_15 (fun r4 hf => ?_)
      obtain ⟨a5, rfl, hf⟩ := nn_of hf
      obtain ⟨hk_a5, hf⟩ := gt_of hf
      refine v_geti cb_14 hk_a5 0 1400 rfl (by decide) rfl (lk_N kw_2028 rfl) hf dX15_at_16 (fun x6 hf => ?_)
      refine v_iload_n (x := l1) dX15_at_19 rfl 1 rfl ?_
      refine v_icmp_ne (tgt := 43) hf dX15_at_20 (by decide) (fun hq hf => ?_) (fun hq hf => ?_)
      · refine v_aload_n (x := (some l0)) dX15_at_23 rfl 0 rfl ?_
        refine v_getr cb_16 hk_l0 48 1648 rfl (by decide) rfl (lk_n kw_1505 rfl) hf dX15_at_24 (fun r7 hf => ?_)
        refine v_iload_n (x := l3) dX15_at_27 rfl 3 rfl ?_
        obtain ⟨a8, rfl, hf⟩ := nn_of hf
        obtain ⟨hk_a8, hf⟩ := gt_of hf
        refine v_aald 26 7 RX13 hk_a8 (by decide) rfl hf dX15_at_28 (fun r9 hf => ?_)
        obtain ⟨a10, rfl, hf⟩ := nn_of hf
        obtain ⟨hk_a10, hf⟩ := gt_of hf
        refine v_geti cb_14 hk_a10 1 1401 rfl (by decide) rfl (lk_N kw_2029 rfl) hf dX15_at_29 (fun x11 hf => ?_)
        refine v_iload_n (x := l2) dX15_at_32 rfl 2 rfl ?_
        refine v_icmp_ne (tgt := 43) hf dX15_at_33 (by decide) (fun hq hf => ?_) (fun hq hf => ?_)
        · refine v_aload_n (x := (some l0)) dX15_at_36 rfl 0 rfl ?_
          refine v_getr cb_16 hk_l0 48 1648 rfl (by decide) rfl (lk_n kw_1505 rfl) hf dX15_at_37 (fun r12 hf => ?_)
          refine v_iload_n (x := l3) dX15_at_40 rfl 3 rfl ?_
          obtain ⟨a13, rfl, hf⟩ := nn_of hf
          obtain ⟨hk_a13, hf⟩ := gt_of hf
          refine v_aald 26 7 RX13 hk_a13 (by decide) rfl hf dX15_at_41 (fun r14 hf => ?_)
          exact v_aret (x := r14) hf (Or.inl ⟨_, rfl⟩) dX15_at_42
        · refine v_sub [0, 1, 2, 3] (L2 := [(0, va_rf (some l0)), (1, .int l1), (2, .int l2), (3, .int l3)]) rfl ?_
          exact t_X15_at_b43 hrec_2 hf
      · refine v_sub [0, 1, 2, 3] (L2 := [(0, va_rf (some l0)), (1, .int l1), (2, .int l2), (3, .int l3)]) rfl ?_
        exact t_X15_at_b43 hrec_2 hf
/-- LivesAheadModel.at(II)LLivesAheadModel$Paragraph; -/
def f_X15_at (σ : TH) (p0 : Nat) (p1 : Int32) (p2 : Int32) : Option (Option Nat × TH) :=
  f_X15_at_b2 fu_ σ p0 p1 p2 (0 : Int32)
set_option maxHeartbeats 4000000 in
set_option maxRecDepth 100000 in
theorem c_X15_at {l : Launch} {D : va_G} {cy : Nat → ClassId} {ka : Nat → Nat} {σ z : TH} {p0 : Nat} {p1 : Int32} {p2 : Int32} {r : Option Nat} (hf : f_X15_at σ p0 p1 p2 = some (r, z)) : ct_ l D cy ka yX15_at 0 0 [va_rf (some p0), .int p1, .int p2] σ (some (va_rf r)) z := by
  unfold f_X15_at at hf
  refine v_start (cc := cX15_at) (own := RX15) (maxL := 4) (ret := (some (FieldType.object "LivesAheadModel$Paragraph"))) (nm := "at") (by decide +kernel) kw_2061 rfl rfl (by simp [lg_sl, va_rf_cat, cat_i, cat_l]) ?_
  refine v_eqL (L2 := [(0, va_rf (some p0)), (1, .int p1), (2, .int p2)]) (by simp [lv_args, va_rf_cat, cat_i, cat_l]) ?_
  refine v_iconst (v := 0) dX15_at_0 (by decide) ?_
  refine v_istore_n [(3, .int (0 : Int32)), (0, va_rf (some p0)), (1, .int p1), (2, .int p2)] dX15_at_1 rfl (by decide) rfl ?_
  refine v_sub [1, 2, 3, 0] (L2 := [(0, va_rf (some p0)), (1, .int p1), (2, .int p2), (3, .int (0 : Int32))]) rfl ?_
  exact t_X15_at_b2  _ _ _ _ _ _ hf
theorem dX15_isMarked_0 : decode cX15_isMarked 0 = .ok (.iconst 0, 1) := by decide +kernel
theorem dX15_isMarked_1 : decode cX15_isMarked 1 = .ok (.istore_n 2, 1) := by decide +kernel
theorem dX15_isMarked_2 : decode cX15_isMarked 2 = .ok (.iconst 0, 1) := by decide +kernel
theorem dX15_isMarked_3 : decode cX15_isMarked 3 = .ok (.istore_n 3, 1) := by decide +kernel
theorem dX15_isMarked_4 : decode cX15_isMarked 4 = .ok (.iload_n 3, 1) := by decide +kernel
theorem dX15_isMarked_5 : decode cX15_isMarked 5 = .ok (.bipush 10, 2) := by decide +kernel
theorem dX15_isMarked_7 : decode cX15_isMarked 7 = .ok (.if_icmp .ge 65, 3) := by decide +kernel
theorem dX15_isMarked_10 : decode cX15_isMarked 10 = .ok (.iload_n 2, 1) := by decide +kernel
theorem dX15_isMarked_11 : decode cX15_isMarked 11 = .ok (.ifCond .ne 49, 3) := by decide +kernel
theorem dX15_isMarked_14 : decode cX15_isMarked 14 = .ok (.aload_n 1, 1) := by decide +kernel
theorem dX15_isMarked_15 : decode cX15_isMarked 15 = .ok (.getfield 486, 3) := by decide +kernel
theorem dX15_isMarked_18 : decode cX15_isMarked 18 = .ok (.iload_n 3, 1) := by decide +kernel
theorem dX15_isMarked_19 : decode cX15_isMarked 19 = .ok (.ishr, 1) := by decide +kernel
theorem dX15_isMarked_20 : decode cX15_isMarked 20 = .ok (.iconst 1, 1) := by decide +kernel
theorem dX15_isMarked_21 : decode cX15_isMarked 21 = .ok (.iand, 1) := by decide +kernel
theorem dX15_isMarked_22 : decode cX15_isMarked 22 = .ok (.iconst 1, 1) := by decide +kernel
theorem dX15_isMarked_23 : decode cX15_isMarked 23 = .ok (.if_icmp .ne 41, 3) := by decide +kernel
theorem dX15_isMarked_26 : decode cX15_isMarked 26 = .ok (.aload_n 0, 1) := by decide +kernel
theorem dX15_isMarked_27 : decode cX15_isMarked 27 = .ok (.getfield 54, 3) := by decide +kernel
theorem dX15_isMarked_30 : decode cX15_isMarked 30 = .ok (.bipush 10, 2) := by decide +kernel
theorem dX15_isMarked_32 : decode cX15_isMarked 32 = .ok (.aload_n 1, 1) := by decide +kernel
theorem dX15_isMarked_33 : decode cX15_isMarked 33 = .ok (.getfield 472, 3) := by decide +kernel
theorem dX15_isMarked_36 : decode cX15_isMarked 36 = .ok (.imul, 1) := by decide +kernel
theorem dX15_isMarked_37 : decode cX15_isMarked 37 = .ok (.iload_n 3, 1) := by decide +kernel
theorem dX15_isMarked_38 : decode cX15_isMarked 38 = .ok (.iadd, 1) := by decide +kernel
theorem dX15_isMarked_39 : decode cX15_isMarked 39 = .ok (.iaload, 1) := by decide +kernel
theorem dX15_isMarked_40 : decode cX15_isMarked 40 = .ok (.iconst (-1), 1) := by decide +kernel
theorem dX15_isMarked_41 : decode cX15_isMarked 41 = .ok (.if_icmp .eq 19, 3) := by decide +kernel
theorem dX15_isMarked_44 : decode cX15_isMarked 44 = .ok (.aload_n 0, 1) := by decide +kernel
theorem dX15_isMarked_45 : decode cX15_isMarked 45 = .ok (.aload_n 1, 1) := by decide +kernel
theorem dX15_isMarked_46 : decode cX15_isMarked 46 = .ok (.getfield 472, 3) := by decide +kernel
theorem dX15_isMarked_49 : decode cX15_isMarked 49 = .ok (.iload_n 3, 1) := by decide +kernel
theorem dX15_isMarked_50 : decode cX15_isMarked 50 = .ok (.aload_n 0, 1) := by decide +kernel
theorem dX15_isMarked_51 : decode cX15_isMarked 51 = .ok (.invokevirtual 230, 3) := by decide +kernel
theorem dX15_isMarked_54 : decode cX15_isMarked 54 = .ok (.invokevirtual 259, 3) := by decide +kernel
theorem dX15_isMarked_57 : decode cX15_isMarked 57 = .ok (.ifCond .eq 7, 3) := by decide +kernel
theorem dX15_isMarked_60 : decode cX15_isMarked 60 = .ok (.iconst 1, 1) := by decide +kernel
theorem dX15_isMarked_61 : decode cX15_isMarked 61 = .ok (.goto 4, 3) := by decide +kernel
theorem dX15_isMarked_64 : decode cX15_isMarked 64 = .ok (.iconst 0, 1) := by decide +kernel
theorem dX15_isMarked_65 : decode cX15_isMarked 65 = .ok (.istore_n 2, 1) := by decide +kernel
theorem dX15_isMarked_66 : decode cX15_isMarked 66 = .ok (.iinc 3 1, 3) := by decide +kernel
theorem dX15_isMarked_69 : decode cX15_isMarked 69 = .ok (.goto (-65), 3) := by decide +kernel
theorem dX15_isMarked_72 : decode cX15_isMarked 72 = .ok (.iload_n 2, 1) := by decide +kernel
theorem dX15_isMarked_73 : decode cX15_isMarked 73 = .ok (.ireturn, 1) := by decide +kernel
def f_X15_isMarked_b65 (rec_4 : TH → Nat → Option Nat → Int32 → Int32 → Option (Int32 × TH)) (σ : TH) (l0 : Nat) (l1 : Option Nat) (l3 : Int32) (t0 : Int32) : Option (Int32 × TH) :=
  lt_ (l3 + 1) fun x7 => rec_4 σ l0 l1 t0 x7
set_option maxHeartbeats 4000000 in
set_option maxRecDepth 100000 in
theorem t_X15_isMarked_b65 {l : Launch} {D : va_G} {cy : Nat → ClassId} {ka : Nat → Nat} {σ0 z : TH} {r : Int32} {rec_4 : TH → Nat → Option Nat → Int32 → Int32 → Option (Int32 × TH)} (hrec_4 : ∀ (σ : TH) (l0 : Nat) (l1 : Option Nat) (l2 : Int32) (l3 : Int32), rec_4 σ l0 l1 l2 l3 = some (r, z) → v_ l D cy ka cX15_isMarked RX15 4 (some FieldType.boolean) "isMarked" 1 23 (qf_ D cy σ0 z (some (.int r))) σ0 z σ 4 [(0, va_rf (some l0)), (1, va_rf l1), (2, .int l2), (3, .int l3)] []) {σ : TH} {l0 : Nat} {l1 : Option Nat} {l3 : Int32} {t0 : Int32} (hf : f_X15_isMarked_b65 rec_4 σ l0 l1 l3 t0 = some (r, z)) : v_ l D cy ka cX15_isMarked RX15 4 (some FieldType.boolean) "isMarked" 1 23 (qf_ D cy σ0 z (some (.int r))) σ0 z σ 65 [(0, va_rf (some l0)), (1, va_rf l1), (3, .int l3)] [.int t0] := by
  unfold f_X15_isMarked_b65 at hf
  refine v_istore_n [(2, .int t0), (0, va_rf (some l0)), (1, va_rf l1), (3, .int l3)] dX15_isMarked_65 rfl (by decide) (by simp [va_rf_cat, cat_i, cat_l]) ?_
  obtain ⟨x7, ex7⟩ : ∃ y : Int32, y = l3 + 1 := ⟨_, rfl⟩
  rw [lt_e, ← ex7] at hf
  refine v_iinc (v := x7) [(3, .int x7), (2, .int t0), (0, va_rf (some l0)), (1, va_rf l1)] dX15_isMarked_66 3 rfl (by rw [ex7]; rfl) (by decide) rfl ?_
  refine v_goto (tgt := 4) dX15_isMarked_69 (by decide) ?_
  refine v_sub [2, 3, 1, 0] (L2 := [(0, va_rf (some l0)), (1, va_rf l1), (2, .int t0), (3, .int x7)]) rfl ?_
  exact hrec_4 _ _ _ _ _ hf
def f_X15_isMarked_b60 (rec_4 : TH → Nat → Option Nat → Int32 → Int32 → Option (Int32 × TH)) (σ : TH) (l0 : Nat) (l1 : Option Nat) (l3 : Int32) : Option (Int32 × TH) :=
  f_X15_isMarked_b65 rec_4 σ l0 l1 l3 (1 : Int32)
set_option maxHeartbeats 4000000 in
set_option maxRecDepth 100000 in
theorem t_X15_isMarked_b60 {l : Launch} {D : va_G} {cy : Nat → ClassId} {ka : Nat → Nat} {σ0 z : TH} {r : Int32} {rec_4 : TH → Nat → Option Nat → Int32 → Int32 → Option (Int32 × TH)} (hrec_4 : ∀ (σ : TH) (l0 : Nat) (l1 : Option Nat) (l2 : Int32) (l3 : Int32), rec_4 σ l0 l1 l2 l3 = some (r, z) → v_ l D cy ka cX15_isMarked RX15 4 (some FieldType.boolean) "isMarked" 1 23 (qf_ D cy σ0 z (some (.int r))) σ0 z σ 4 [(0, va_rf (some l0)), (1, va_rf l1), (2, .int l2), (3, .int l3)] []) {σ : TH} {l0 : Nat} {l1 : Option Nat} {l3 : Int32} (hf : f_X15_isMarked_b60 rec_4 σ l0 l1 l3 = some (r, z)) : v_ l D cy ka cX15_isMarked RX15 4 (some FieldType.boolean) "isMarked" 1 23 (qf_ D cy σ0 z (some (.int r))) σ0 z σ 60 [(0, va_rf (some l0)), (1, va_rf l1), (3, .int l3)] [] := by
  unfold f_X15_isMarked_b60 at hf
  refine v_iconst (v := 1) dX15_isMarked_60 (by decide) ?_
  refine v_goto (tgt := 65) dX15_isMarked_61 (by decide) ?_
  refine v_sub [0, 1, 2] (L2 := [(0, va_rf (some l0)), (1, va_rf l1), (3, .int l3)]) rfl ?_
  exact t_X15_isMarked_b65 hrec_4 hf
def f_X15_isMarked_b64 (rec_4 : TH → Nat → Option Nat → Int32 → Int32 → Option (Int32 × TH)) (σ : TH) (l0 : Nat) (l1 : Option Nat) (l3 : Int32) : Option (Int32 × TH) :=
  f_X15_isMarked_b65 rec_4 σ l0 l1 l3 (0 : Int32)
set_option maxHeartbeats 4000000 in
set_option maxRecDepth 100000 in
theorem t_X15_isMarked_b64 {l : Launch} {D : va_G} {cy : Nat → ClassId} {ka : Nat → Nat} {σ0 z : TH} {r : Int32} {rec_4 : TH → Nat → Option Nat → Int32 → Int32 → Option (Int32 × TH)} (hrec_4 : ∀ (σ : TH) (l0 : Nat) (l1 : Option Nat) (l2 : Int32) (l3 : Int32), rec_4 σ l0 l1 l2 l3 = some (r, z) → v_ l D cy ka cX15_isMarked RX15 4 (some FieldType.boolean) "isMarked" 1 23 (qf_ D cy σ0 z (some (.int r))) σ0 z σ 4 [(0, va_rf (some l0)), (1, va_rf l1), (2, .int l2), (3, .int l3)] []) {σ : TH} {l0 : Nat} {l1 : Option Nat} {l3 : Int32} (hf : f_X15_isMarked_b64 rec_4 σ l0 l1 l3 = some (r, z)) : v_ l D cy ka cX15_isMarked RX15 4 (some FieldType.boolean) "isMarked" 1 23 (qf_ D cy σ0 z (some (.int r))) σ0 z σ 64 [(0, va_rf (some l0)), (1, va_rf l1), (3, .int l3)] [] := by
  unfold f_X15_isMarked_b64 at hf
  refine v_iconst (v := 0) dX15_isMarked_64 (by decide) ?_
  refine v_sub [0, 1, 2] (L2 := [(0, va_rf (some l0)), (1, va_rf l1), (3, .int l3)]) rfl ?_
  exact t_X15_isMarked_b65 hrec_4 hf
def f_X15_isMarked_b4 : Nat → TH → Nat → Option Nat → Int32 → Int32 → Option (Int32 × TH)
  | 0, _, _, _, _, _ => none
  | n + 1, σ, l0, l1, l2, l3 => if (10 : Int32) ≤ l3 then (gt_ (l2 = 0 ∨ l2 = 1) <| some (l2, σ)) else (if l2 = 0 then (nn_ l1 fun a1 => gt_ (kd_ σ a1 = 15) <| lt_ (fi_ σ 1404 a1) fun x2 => if ((x2 >>> (l3 &&& 31)) &&& (1 : Int32)) = (1 : Int32) then (gt_ (kd_ σ l0 = 17) <| lt_ (fr_ σ 1619 l0) fun r3 => lt_ (fi_ σ 1400 a1) fun x4 => nn_ r3 fun a5 => gt_ (kd_ σ a5 = 20) <| gt_ (¬ ((((10 : Int32) * x4) + l3) < 0 ∨ ln_ σ a5 ≤ (((10 : Int32) * x4) + l3 : Int32).toNatClampNeg)) <| lt_ (ai_ σ a5 ((((10 : Int32) * x4) + l3 : Int32).toNatClampNeg)) fun x6 => if x6 = (-1 : Int32) then (f_X15_isMarked_b60 (f_X15_isMarked_b4 n) σ l0 (some a1) l3) else (lt_ (fi_ σ 1400 a1) fun x8 => bd_ (f_X15_today σ l0) fun x9 s10 => bd_ (f_X15_isStale s10 l0 x8 l3 x9) fun x11 s12 => if x11 = 0 then (f_X15_isMarked_b64 (f_X15_isMarked_b4 n) s12 l0 (some a1) l3) else (f_X15_isMarked_b60 (f_X15_isMarked_b4 n) s12 l0 (some a1) l3))) else (f_X15_isMarked_b64 (f_X15_isMarked_b4 n) σ l0 (some a1) l3)) else (f_X15_isMarked_b60 (f_X15_isMarked_b4 n) σ l0 l1 l3))
set_option maxHeartbeats 4000000 in
set_option maxRecDepth 100000 in
theorem t_X15_isMarked_b4 {l : Launch} {D : va_G} {cy : Nat → ClassId} {ka : Nat → Nat} {σ0 z : TH} {r : Int32}  : ∀ (n : Nat) (σ : TH) (l0 : Nat) (l1 : Option Nat) (l2 : Int32) (l3 : Int32), f_X15_isMarked_b4 n σ l0 l1 l2 l3 = some (r, z) → v_ l D cy ka cX15_isMarked RX15 4 (some FieldType.boolean) "isMarked" 1 23 (qf_ D cy σ0 z (some (.int r))) σ0 z σ 4 [(0, va_rf (some l0)), (1, va_rf l1), (2, .int l2), (3, .int l3)] [] := by
  intro n
  induction n with
  | zero => intro σ l0 l1 l2 l3 hf; unfold f_X15_isMarked_b4 at hf; cases hf
  | succ n ih =>
    intro σ l0 l1 l2 l3 hf
    unfold f_X15_isMarked_b4 at hf
    have hrec_4 := ih
    refine v_iload_n (x := l3) dX15_isMarked_4 rfl 3 rfl ?_
    refine v_bipush (v := 10) dX15_isMarked_5 (by decide) ?_
    refine v_icmp_ge (tgt := 72) hf dX15_isMarked_7 (by decide) (fun hq hf => ?_) (fun hq hf => ?_)
    · refine v_iload_n (x := l2) dX15_isMarked_72 rfl 2 rfl ?_
      obtain ⟨hb9, hf⟩ := gt_of hf
      exact v_zret hf (nz_ hb9) dX15_isMarked_73
    · refine v_iload_n (x := l2) dX15_isMarked_10 rfl 2 rfl ?_
      refine v_if_ne (tgt := 60) hf dX15_isMarked_11 (by decide) (fun hq hf => ?_) (fun hq hf => ?_)
      · refine v_aload_n (x := l1) dX15_isMarked_14 rfl 1 rfl ?_
        obtain ⟨a1, rfl, hf⟩ := nn_of hf
        obtain ⟨hk_a1, hf⟩ := gt_of hf
        refine v_geti cb_14 hk_a1 4 1404 rfl (by decide) rfl (lk_N kw_2032 rfl) hf dX15_isMarked_15 (fun x2 hf => ?_)
        refine v_iload_n (x := l3) dX15_isMarked_18 rfl 3 rfl ?_
        refine v_ishr dX15_isMarked_19 ?_
        refine v_iconst (v := 1) dX15_isMarked_20 (by decide) ?_
        refine v_iand dX15_isMarked_21 ?_
        refine v_iconst (v := 1) dX15_isMarked_22 (by decide) ?_
        refine v_icmp_ne (tgt := 64) hf dX15_isMarked_23 (by decide) (fun hq hf => ?_) (fun hq hf => ?_)
        · refine v_aload_n (x := (some l0)) dX15_isMarked_26 rfl 0 rfl ?_
          obtain ⟨hk_l0, hf⟩ := gt_of hf
          refine v_getr cb_16 hk_l0 19 1619 rfl (by decide) rfl (lk_n kw_1476 rfl) hf dX15_isMarked_27 (fun r3 hf => ?_)
          refine v_bipush (v := 10) dX15_isMarked_30 (by decide) ?_
          refine v_aload_n (x := (some a1)) dX15_isMarked_32 rfl 1 rfl ?_
          refine v_geti cb_14 hk_a1 0 1400 rfl (by decide) rfl (lk_N kw_2028 rfl) hf dX15_isMarked_33 (fun x4 hf => ?_)
          refine v_imul dX15_isMarked_36 ?_
          refine v_iload_n (x := l3) dX15_isMarked_37 rfl 3 rfl ?_
          refine v_iadd dX15_isMarked_38 ?_
          obtain ⟨a5, rfl, hf⟩ := nn_of hf
          obtain ⟨hk_a5, hf⟩ := gt_of hf
          refine v_iald hk_a5 hf dX15_isMarked_39 (fun x6 hf => ?_)
          refine v_iconst (v := (-1)) dX15_isMarked_40 (by decide) ?_
          refine v_icmp_eq (tgt := 60) hf dX15_isMarked_41 (by decide) (fun hq hf => ?_) (fun hq hf => ?_)
          · refine v_sub [0, 1, 3] (L2 := [(0, va_rf (some l0)), (1, va_rf (some a1)), (3, .int l3)]) rfl ?_
            exact t_X15_isMarked_b60 hrec_4 hf
          · refine v_aload_n (x := (some l0)) dX15_isMarked_44 rfl 0 rfl ?_
            refine v_aload_n (x := (some a1)) dX15_isMarked_45 rfl 1 rfl ?_
            refine v_geti cb_14 hk_a1 0 1400 rfl (by decide) rfl (lk_N kw_2028 rfl) hf dX15_isMarked_46 (fun x8 hf => ?_)
            refine v_iload_n (x := l3) dX15_isMarked_49 rfl 3 rfl ?_
            refine v_aload_n (x := (some l0)) dX15_isMarked_50 rfl 0 rfl ?_
            obtain ⟨x9, s10, hcs10, hf⟩ := bd_of hf
            have hts10 := c_X15_today (l := l) (D := D) (cy := cy) (ka := ka) hcs10
            refine v_callV cb_16 hk_l0 (As := []) (rest := [.int l3, .int x8, va_rf (some l0)]) hts10 yb_X15_today kw_1774 kw_1776 kp_84 rfl ⟨Nat.le_of_ble_eq_true rfl, Nat.le_of_ble_eq_true rfl⟩ rfl (cat_len (Nat.le_of_ble_eq_true rfl)) dX15_isMarked_51 ?_
            have hk_a1 := tk_ hts10.1 hk_a1
            have hk_l0 := tk_ hts10.1 hk_l0
            show v_ l D cy ka cX15_isMarked RX15 4 (some FieldType.boolean) "isMarked" 1 23 (qf_ D cy σ0 z (some (.int r))) σ0 z _ 54 [(0, va_rf (some l0)), (1, va_rf (some a1)), (2, .int l2), (3, .int l3)] [.int x9, .int l3, .int x8, va_rf (some l0)]
            obtain ⟨x11, s12, hcs12, hf⟩ := bd_of hf
            have hts12 := c_X15_isStale (l := l) (D := D) (cy := cy) (ka := ka) hcs12
            refine v_callV cb_16 hk_l0 (As := [.int x8, .int l3, .int x9]) (rest := []) hts12 yb_X15_isStale kw_1801 kw_1803 kp_90 rfl ⟨Nat.le_of_ble_eq_true rfl, Nat.le_of_ble_eq_true rfl⟩ rfl (cat_len (Nat.le_of_ble_eq_true rfl)) dX15_isMarked_54 ?_
            have hk_a1 := tk_ hts12.1 hk_a1
            have hk_l0 := tk_ hts12.1 hk_l0
            show v_ l D cy ka cX15_isMarked RX15 4 (some FieldType.boolean) "isMarked" 1 23 (qf_ D cy σ0 z (some (.int r))) σ0 z _ 57 [(0, va_rf (some l0)), (1, va_rf (some a1)), (2, .int l2), (3, .int l3)] [.int x11]
            refine v_if_eq (tgt := 64) hf dX15_isMarked_57 (by decide) (fun hq hf => ?_) (fun hq hf => ?_)
            · refine v_sub [0, 1, 3] (L2 := [(0, va_rf (some l0)), (1, va_rf (some a1)), (3, .int l3)]) rfl ?_
              exact t_X15_isMarked_b64 hrec_4 hf
            · refine v_sub [0, 1, 3] (L2 := [(0, va_rf (some l0)), (1, va_rf (some a1)), (3, .int l3)]) rfl ?_
              exact t_X15_isMarked_b60 hrec_4 hf
        · refine v_sub [0, 1, 3] (L2 := [(0, va_rf (some l0)), (1, va_rf (some a1)), (3, .int l3)]) rfl ?_
          exact t_X15_isMarked_b64 hrec_4 hf
      · refine v_sub [0, 1, 3] (L2 := [(0, va_rf (some l0)), (1, va_rf l1), (3, .int l3)]) rfl ?_
        exact t_X15_isMarked_b60 hrec_4 hf
/-- LivesAheadModel.isMarked(LLivesAheadModel$Paragraph;)Z -/
def f_X15_isMarked (σ : TH) (p0 : Nat) (p1 : Option Nat) : Option (Int32 × TH) :=
  f_X15_isMarked_b4 fu_ σ p0 p1 (0 : Int32) (0 : Int32)
set_option maxHeartbeats 4000000 in
set_option maxRecDepth 100000 in
theorem c_X15_isMarked {l : Launch} {D : va_G} {cy : Nat → ClassId} {ka : Nat → Nat} {σ z : TH} {p0 : Nat} {p1 : Option Nat} {r : Int32} (hf : f_X15_isMarked σ p0 p1 = some (r, z)) : ct_ l D cy ka yX15_isMarked 1 23 [va_rf (some p0), va_rf p1] σ (some (.int r)) z := by
  unfold f_X15_isMarked at hf
  refine v_start (cc := cX15_isMarked) (own := RX15) (maxL := 4) (ret := (some FieldType.boolean)) (nm := "isMarked") (by decide +kernel) kw_2081 rfl rfl (by simp [lg_sl, va_rf_cat, cat_i, cat_l]) ?_
  refine v_eqL (L2 := [(0, va_rf (some p0)), (1, va_rf p1)]) (by simp [lv_args, va_rf_cat, cat_i, cat_l]) ?_
  refine v_iconst (v := 0) dX15_isMarked_0 (by decide) ?_
  refine v_istore_n [(2, .int (0 : Int32)), (0, va_rf (some p0)), (1, va_rf p1)] dX15_isMarked_1 rfl (by decide) (by simp [va_rf_cat, cat_i, cat_l]) ?_
  refine v_iconst (v := 0) dX15_isMarked_2 (by decide) ?_
  refine v_istore_n [(3, .int (0 : Int32)), (2, .int (0 : Int32)), (0, va_rf (some p0)), (1, va_rf p1)] dX15_isMarked_3 rfl (by decide) rfl ?_
  refine v_sub [2, 3, 1, 0] (L2 := [(0, va_rf (some p0)), (1, va_rf p1), (2, .int (0 : Int32)), (3, .int (0 : Int32))]) rfl ?_
  exact t_X15_isMarked_b4  _ _ _ _ _ _ hf
theorem dX15_byteAt_0 : decode cX15_byteAt 0 = .ok (.iload_n 1, 1) := by decide +kernel
theorem dX15_byteAt_1 : decode cX15_byteAt 1 = .ok (.aload_n 0, 1) := by decide +kernel
theorem dX15_byteAt_2 : decode cX15_byteAt 2 = .ok (.getfield 275, 3) := by decide +kernel
theorem dX15_byteAt_5 : decode cX15_byteAt 5 = .ok (.if_icmp .ge 16, 3) := by decide +kernel
theorem dX15_byteAt_8 : decode cX15_byteAt 8 = .ok (.aload_n 0, 1) := by decide +kernel
theorem dX15_byteAt_9 : decode cX15_byteAt 9 = .ok (.getfield 89, 3) := by decide +kernel
theorem dX15_byteAt_12 : decode cX15_byteAt 12 = .ok (.iload_n 1, 1) := by decide +kernel
theorem dX15_byteAt_13 : decode cX15_byteAt 13 = .ok (.baload, 1) := by decide +kernel
theorem dX15_byteAt_14 : decode cX15_byteAt 14 = .ok (.sipush 255, 3) := by decide +kernel
theorem dX15_byteAt_17 : decode cX15_byteAt 17 = .ok (.iand, 1) := by decide +kernel
theorem dX15_byteAt_18 : decode cX15_byteAt 18 = .ok (.goto 4, 3) := by decide +kernel
theorem dX15_byteAt_21 : decode cX15_byteAt 21 = .ok (.iconst (-1), 1) := by decide +kernel
theorem dX15_byteAt_22 : decode cX15_byteAt 22 = .ok (.ireturn, 1) := by decide +kernel
def f_X15_byteAt_b22 (σ : TH) (t0 : Int32) : Option (Int32 × TH) :=
  some (t0, σ)
set_option maxHeartbeats 4000000 in
set_option maxRecDepth 100000 in
theorem t_X15_byteAt_b22 {l : Launch} {D : va_G} {cy : Nat → ClassId} {ka : Nat → Nat} {σ0 z : TH} {r : Int32}  {σ : TH} {t0 : Int32} (hf : f_X15_byteAt_b22 σ t0 = some (r, z)) : v_ l D cy ka cX15_byteAt RX15 2 (some FieldType.int) "byteAt" 0 0 (qf_ D cy σ0 z (some (.int r))) σ0 z σ 22 [] [.int t0] := by
  unfold f_X15_byteAt_b22 at hf
  exact v_iret hf dX15_byteAt_22
/-- LivesAheadModel.byteAt(I)I -/
def f_X15_byteAt (σ : TH) (p0 : Nat) (p1 : Int32) : Option (Int32 × TH) :=
  gt_ (kd_ σ p0 = 17) <| lt_ (fi_ σ 1631 p0) fun x1 => if x1 ≤ p1 then (f_X15_byteAt_b22 σ (-1 : Int32)) else (lt_ (fr_ σ 1629 p0) fun r2 => nn_ r2 fun a3 => gt_ (kd_ σ a3 = 21) <| gt_ (¬ (p1 < 0 ∨ ln_ σ a3 ≤ p1.toNatClampNeg)) <| lt_ (ai_ σ a3 p1.toNatClampNeg) fun x4 => f_X15_byteAt_b22 σ (x4 &&& (255 : Int32)))
set_option maxHeartbeats 4000000 in
set_option maxRecDepth 100000 in
theorem c_X15_byteAt {l : Launch} {D : va_G} {cy : Nat → ClassId} {ka : Nat → Nat} {σ z : TH} {p0 : Nat} {p1 : Int32} {r : Int32} (hf : f_X15_byteAt σ p0 p1 = some (r, z)) : ct_ l D cy ka yX15_byteAt 0 0 [va_rf (some p0), .int p1] σ (some (.int r)) z := by
  unfold f_X15_byteAt at hf
  refine v_start (cc := cX15_byteAt) (own := RX15) (maxL := 2) (ret := (some FieldType.int)) (nm := "byteAt") (by decide +kernel) kw_1884 rfl rfl (by simp [lg_sl, va_rf_cat, cat_i, cat_l]) ?_
  refine v_eqL (L2 := [(0, va_rf (some p0)), (1, .int p1)]) (by simp [lv_args, va_rf_cat, cat_i, cat_l]) ?_
  refine v_iload_n (x := p1) dX15_byteAt_0 rfl 1 rfl ?_
  refine v_aload_n (x := (some p0)) dX15_byteAt_1 rfl 0 rfl ?_
  obtain ⟨hk_p0, hf⟩ := gt_of hf
  refine v_geti cb_16 hk_p0 31 1631 rfl (by decide) rfl (lk_n kw_1488 rfl) hf dX15_byteAt_2 (fun x1 hf => ?_)
  refine v_icmp_ge (tgt := 21) hf dX15_byteAt_5 (by decide) (fun hq hf => ?_) (fun hq hf => ?_)
  · refine v_iconst (v := (-1)) dX15_byteAt_21 (by decide) ?_
    refine v_sub [] (L2 := []) rfl ?_
    exact t_X15_byteAt_b22  hf
  · refine v_aload_n (x := (some p0)) dX15_byteAt_8 rfl 0 rfl ?_
    refine v_getr cb_16 hk_p0 29 1629 rfl (by decide) rfl (lk_n kw_1486 rfl) hf dX15_byteAt_9 (fun r2 hf => ?_)
    refine v_iload_n (x := p1) dX15_byteAt_12 rfl 1 rfl ?_
    obtain ⟨a3, rfl, hf⟩ := nn_of hf
    obtain ⟨hk_a3, hf⟩ := gt_of hf
    refine v_bald hk_a3 hf dX15_byteAt_13 (fun x4 hf => ?_)
    refine v_sipush (v := 255) dX15_byteAt_14 (by decide) ?_
    refine v_iand dX15_byteAt_17 ?_
    refine v_goto (tgt := 22) dX15_byteAt_18 (by decide) ?_
    refine v_sub [] (L2 := []) rfl ?_
    exact t_X15_byteAt_b22  hf
theorem dX15_is_0 : decode cX15_is 0 = .ok (.aload_n 0, 1) := by decide +kernel
theorem dX15_is_1 : decode cX15_is 1 = .ok (.getfield 296, 3) := by decide +kernel
theorem dX15_is_4 : decode cX15_is 4 = .ok (.iconst 4, 1) := by decide +kernel
theorem dX15_is_5 : decode cX15_is 5 = .ok (.if_icmp .ne 15, 3) := by decide +kernel
theorem dX15_is_8 : decode cX15_is 8 = .ok (.aload_n 0, 1) := by decide +kernel
theorem dX15_is_9 : decode cX15_is 9 = .ok (.getfield 299, 3) := by decide +kernel
theorem dX15_is_12 : decode cX15_is 12 = .ok (.iload_n 1, 1) := by decide +kernel
theorem dX15_is_13 : decode cX15_is 13 = .ok (.if_icmp .ne 7, 3) := by decide +kernel
theorem dX15_is_16 : decode cX15_is 16 = .ok (.iconst 1, 1) := by decide +kernel
theorem dX15_is_17 : decode cX15_is 17 = .ok (.goto 4, 3) := by decide +kernel
theorem dX15_is_20 : decode cX15_is 20 = .ok (.iconst 0, 1) := by decide +kernel
theorem dX15_is_21 : decode cX15_is 21 = .ok (.ireturn, 1) := by decide +kernel
def f_X15_is_b21 (σ : TH) (t0 : Int32) : Option (Int32 × TH) :=
  gt_ (t0 = 0 ∨ t0 = 1) <| some (t0, σ)
set_option maxHeartbeats 4000000 in
set_option maxRecDepth 100000 in
theorem t_X15_is_b21 {l : Launch} {D : va_G} {cy : Nat → ClassId} {ka : Nat → Nat} {σ0 z : TH} {r : Int32}  {σ : TH} {t0 : Int32} (hf : f_X15_is_b21 σ t0 = some (r, z)) : v_ l D cy ka cX15_is RX15 2 (some FieldType.boolean) "is" 0 0 (qf_ D cy σ0 z (some (.int r))) σ0 z σ 21 [] [.int t0] := by
  unfold f_X15_is_b21 at hf
  obtain ⟨hb9, hf⟩ := gt_of hf
  exact v_zret hf (nz_ hb9) dX15_is_21
def f_X15_is_b20 (σ : TH) : Option (Int32 × TH) :=
  f_X15_is_b21 σ (0 : Int32)
set_option maxHeartbeats 4000000 in
set_option maxRecDepth 100000 in
theorem t_X15_is_b20 {l : Launch} {D : va_G} {cy : Nat → ClassId} {ka : Nat → Nat} {σ0 z : TH} {r : Int32}  {σ : TH}  (hf : f_X15_is_b20 σ  = some (r, z)) : v_ l D cy ka cX15_is RX15 2 (some FieldType.boolean) "is" 0 0 (qf_ D cy σ0 z (some (.int r))) σ0 z σ 20 [] [] := by
  unfold f_X15_is_b20 at hf
  refine v_iconst (v := 0) dX15_is_20 (by decide) ?_
  refine v_sub [] (L2 := []) rfl ?_
  exact t_X15_is_b21  hf
/-- LivesAheadModel.is(I)Z -/
def f_X15_is (σ : TH) (p0 : Nat) (p1 : Int32) : Option (Int32 × TH) :=
  gt_ (kd_ σ p0 = 17) <| lt_ (fi_ σ 1633 p0) fun x1 => if x1 = (4 : Int32) then (lt_ (fi_ σ 1635 p0) fun x2 => if x2 = p1 then (f_X15_is_b21 σ (1 : Int32)) else (f_X15_is_b20 σ )) else (f_X15_is_b20 σ )
set_option maxHeartbeats 4000000 in
set_option maxRecDepth 100000 in
theorem c_X15_is {l : Launch} {D : va_G} {cy : Nat → ClassId} {ka : Nat → Nat} {σ z : TH} {p0 : Nat} {p1 : Int32} {r : Int32} (hf : f_X15_is σ p0 p1 = some (r, z)) : ct_ l D cy ka yX15_is 0 0 [va_rf (some p0), .int p1] σ (some (.int r)) z := by
  unfold f_X15_is at hf
  refine v_start (cc := cX15_is) (own := RX15) (maxL := 2) (ret := (some FieldType.boolean)) (nm := "is") (by decide +kernel) kw_2001 rfl rfl (by simp [lg_sl, va_rf_cat, cat_i, cat_l]) ?_
  refine v_eqL (L2 := [(0, va_rf (some p0)), (1, .int p1)]) (by simp [lv_args, va_rf_cat, cat_i, cat_l]) ?_
  refine v_aload_n (x := (some p0)) dX15_is_0 rfl 0 rfl ?_
  obtain ⟨hk_p0, hf⟩ := gt_of hf
  refine v_geti cb_16 hk_p0 33 1633 rfl (by decide) rfl (lk_n kw_1490 rfl) hf dX15_is_1 (fun x1 hf => ?_)
  refine v_iconst (v := 4) dX15_is_4 (by decide) ?_
  refine v_icmp_ne (tgt := 20) hf dX15_is_5 (by decide) (fun hq hf => ?_) (fun hq hf => ?_)
  · refine v_aload_n (x := (some p0)) dX15_is_8 rfl 0 rfl ?_
    refine v_geti cb_16 hk_p0 35 1635 rfl (by decide) rfl (lk_n kw_1492 rfl) hf dX15_is_9 (fun x2 hf => ?_)
    refine v_iload_n (x := p1) dX15_is_12 rfl 1 rfl ?_
    refine v_icmp_ne (tgt := 20) hf dX15_is_13 (by decide) (fun hq hf => ?_) (fun hq hf => ?_)
    · refine v_iconst (v := 1) dX15_is_16 (by decide) ?_
      refine v_goto (tgt := 21) dX15_is_17 (by decide) ?_
      refine v_sub [] (L2 := []) rfl ?_
      exact t_X15_is_b21  hf
    · refine v_sub [] (L2 := []) rfl ?_
      exact t_X15_is_b20  hf
  · refine v_sub [] (L2 := []) rfl ?_
    exact t_X15_is_b20  hf
theorem dX15_isDigit_0 : decode cX15_isDigit 0 = .ok (.iload_n 0, 1) := by decide +kernel
theorem dX15_isDigit_1 : decode cX15_isDigit 1 = .ok (.bipush 48, 2) := by decide +kernel
theorem dX15_isDigit_3 : decode cX15_isDigit 3 = .ok (.if_icmp .lt 13, 3) := by decide +kernel
theorem dX15_isDigit_6 : decode cX15_isDigit 6 = .ok (.iload_n 0, 1) := by decide +kernel
theorem dX15_isDigit_7 : decode cX15_isDigit 7 = .ok (.bipush 57, 2) := by decide +kernel
theorem dX15_isDigit_9 : decode cX15_isDigit 9 = .ok (.if_icmp .gt 7, 3) := by decide +kernel
theorem dX15_isDigit_12 : decode cX15_isDigit 12 = .ok (.iconst 1, 1) := by decide +kernel
theorem dX15_isDigit_13 : decode cX15_isDigit 13 = .ok (.goto 4, 3) := by decide +kernel
theorem dX15_isDigit_16 : decode cX15_isDigit 16 = .ok (.iconst 0, 1) := by decide +kernel
theorem dX15_isDigit_17 : decode cX15_isDigit 17 = .ok (.ireturn, 1) := by decide +kernel
def f_X15_isDigit_b17 (σ : TH) (t0 : Int32) : Option (Int32 × TH) :=
  gt_ (t0 = 0 ∨ t0 = 1) <| some (t0, σ)
set_option maxHeartbeats 4000000 in
set_option maxRecDepth 100000 in
theorem t_X15_isDigit_b17 {l : Launch} {D : va_G} {cy : Nat → ClassId} {ka : Nat → Nat} {σ0 z : TH} {r : Int32}  {σ : TH} {t0 : Int32} (hf : f_X15_isDigit_b17 σ t0 = some (r, z)) : v_ l D cy ka cX15_isDigit RX15 1 (some FieldType.boolean) "isDigit" 0 0 (qf_ D cy σ0 z (some (.int r))) σ0 z σ 17 [] [.int t0] := by
  unfold f_X15_isDigit_b17 at hf
  obtain ⟨hb9, hf⟩ := gt_of hf
  exact v_zret hf (nz_ hb9) dX15_isDigit_17
def f_X15_isDigit_b16 (σ : TH) : Option (Int32 × TH) :=
  f_X15_isDigit_b17 σ (0 : Int32)
set_option maxHeartbeats 4000000 in
set_option maxRecDepth 100000 in
theorem t_X15_isDigit_b16 {l : Launch} {D : va_G} {cy : Nat → ClassId} {ka : Nat → Nat} {σ0 z : TH} {r : Int32}  {σ : TH}  (hf : f_X15_isDigit_b16 σ  = some (r, z)) : v_ l D cy ka cX15_isDigit RX15 1 (some FieldType.boolean) "isDigit" 0 0 (qf_ D cy σ0 z (some (.int r))) σ0 z σ 16 [] [] := by
  unfold f_X15_isDigit_b16 at hf
  refine v_iconst (v := 0) dX15_isDigit_16 (by decide) ?_
  refine v_sub [] (L2 := []) rfl ?_
  exact t_X15_isDigit_b17  hf
/-- LivesAheadModel.isDigit(I)Z -/
def f_X15_isDigit (σ : TH) (p0 : Int32) : Option (Int32 × TH) :=
  if p0 < (48 : Int32) then (f_X15_isDigit_b16 σ ) else (if (57 : Int32) < p0 then (f_X15_isDigit_b16 σ ) else (f_X15_isDigit_b17 σ (1 : Int32)))
set_option maxHeartbeats 4000000 in
set_option maxRecDepth 100000 in
theorem c_X15_isDigit {l : Launch} {D : va_G} {cy : Nat → ClassId} {ka : Nat → Nat} {σ z : TH} {p0 : Int32} {r : Int32} (hf : f_X15_isDigit σ p0 = some (r, z)) : ct_ l D cy ka yX15_isDigit 0 0 [.int p0] σ (some (.int r)) z := by
  unfold f_X15_isDigit at hf
  refine v_start (cc := cX15_isDigit) (own := RX15) (maxL := 1) (ret := (some FieldType.boolean)) (nm := "isDigit") (by decide +kernel) kw_1906 rfl rfl (by simp [lg_sl, va_rf_cat, cat_i, cat_l]) ?_
  refine v_eqL (L2 := [(0, .int p0)]) (by simp [lv_args, va_rf_cat, cat_i, cat_l]) ?_
  refine v_iload_n (x := p0) dX15_isDigit_0 rfl 0 rfl ?_
  refine v_bipush (v := 48) dX15_isDigit_1 (by decide) ?_
  refine v_icmp_lt (tgt := 16) hf dX15_isDigit_3 (by decide) (fun hq hf => ?_) (fun hq hf => ?_)
  · refine v_sub [] (L2 := []) rfl ?_
    exact t_X15_isDigit_b16  hf
  · refine v_iload_n (x := p0) dX15_isDigit_6 rfl 0 rfl ?_
    refine v_bipush (v := 57) dX15_isDigit_7 (by decide) ?_
    refine v_icmp_gt (tgt := 16) hf dX15_isDigit_9 (by decide) (fun hq hf => ?_) (fun hq hf => ?_)
    · refine v_sub [] (L2 := []) rfl ?_
      exact t_X15_isDigit_b16  hf
    · refine v_iconst (v := 1) dX15_isDigit_12 (by decide) ?_
      refine v_goto (tgt := 17) dX15_isDigit_13 (by decide) ?_
      refine v_sub [] (L2 := []) rfl ?_
      exact t_X15_isDigit_b17  hf
theorem dX15_isLetter_0 : decode cX15_isLetter 0 = .ok (.iload_n 0, 1) := by decide +kernel
theorem dX15_isLetter_1 : decode cX15_isLetter 1 = .ok (.bipush 97, 2) := by decide +kernel
theorem dX15_isLetter_3 : decode cX15_isLetter 3 = .ok (.if_icmp .lt 13, 3) := by decide +kernel
theorem dX15_isLetter_6 : decode cX15_isLetter 6 = .ok (.iload_n 0, 1) := by decide +kernel
theorem dX15_isLetter_7 : decode cX15_isLetter 7 = .ok (.bipush 122, 2) := by decide +kernel
theorem dX15_isLetter_9 : decode cX15_isLetter 9 = .ok (.if_icmp .gt 7, 3) := by decide +kernel
theorem dX15_isLetter_12 : decode cX15_isLetter 12 = .ok (.iconst 1, 1) := by decide +kernel
theorem dX15_isLetter_13 : decode cX15_isLetter 13 = .ok (.goto 4, 3) := by decide +kernel
theorem dX15_isLetter_16 : decode cX15_isLetter 16 = .ok (.iconst 0, 1) := by decide +kernel
theorem dX15_isLetter_17 : decode cX15_isLetter 17 = .ok (.ireturn, 1) := by decide +kernel
def f_X15_isLetter_b17 (σ : TH) (t0 : Int32) : Option (Int32 × TH) :=
  gt_ (t0 = 0 ∨ t0 = 1) <| some (t0, σ)
set_option maxHeartbeats 4000000 in
set_option maxRecDepth 100000 in
theorem t_X15_isLetter_b17 {l : Launch} {D : va_G} {cy : Nat → ClassId} {ka : Nat → Nat} {σ0 z : TH} {r : Int32}  {σ : TH} {t0 : Int32} (hf : f_X15_isLetter_b17 σ t0 = some (r, z)) : v_ l D cy ka cX15_isLetter RX15 1 (some FieldType.boolean) "isLetter" 0 0 (qf_ D cy σ0 z (some (.int r))) σ0 z σ 17 [] [.int t0] := by
  unfold f_X15_isLetter_b17 at hf
  obtain ⟨hb9, hf⟩ := gt_of hf
  exact v_zret hf (nz_ hb9) dX15_isLetter_17
def f_X15_isLetter_b16 (σ : TH) : Option (Int32 × TH) :=
  f_X15_isLetter_b17 σ (0 : Int32)
set_option maxHeartbeats 4000000 in
set_option maxRecDepth 100000 in
theorem t_X15_isLetter_b16 {l : Launch} {D : va_G} {cy : Nat → ClassId} {ka : Nat → Nat} {σ0 z : TH} {r : Int32}  {σ : TH}  (hf : f_X15_isLetter_b16 σ  = some (r, z)) : v_ l D cy ka cX15_isLetter RX15 1 (some FieldType.boolean) "isLetter" 0 0 (qf_ D cy σ0 z (some (.int r))) σ0 z σ 16 [] [] := by
  unfold f_X15_isLetter_b16 at hf
  refine v_iconst (v := 0) dX15_isLetter_16 (by decide) ?_
  refine v_sub [] (L2 := []) rfl ?_
  exact t_X15_isLetter_b17  hf
/-- LivesAheadModel.isLetter(I)Z -/
def f_X15_isLetter (σ : TH) (p0 : Int32) : Option (Int32 × TH) :=
  if p0 < (97 : Int32) then (f_X15_isLetter_b16 σ ) else (if (122 : Int32) < p0 then (f_X15_isLetter_b16 σ ) else (f_X15_isLetter_b17 σ (1 : Int32)))
set_option maxHeartbeats 4000000 in
set_option maxRecDepth 100000 in
theorem c_X15_isLetter {l : Launch} {D : va_G} {cy : Nat → ClassId} {ka : Nat → Nat} {σ z : TH} {p0 : Int32} {r : Int32} (hf : f_X15_isLetter σ p0 = some (r, z)) : ct_ l D cy ka yX15_isLetter 0 0 [.int p0] σ (some (.int r)) z := by
  unfold f_X15_isLetter at hf
  refine v_start (cc := cX15_isLetter) (own := RX15) (maxL := 1) (ret := (some FieldType.boolean)) (nm := "isLetter") (by decide +kernel) kw_1902 rfl rfl (by simp [lg_sl, va_rf_cat, cat_i, cat_l]) ?_
  refine v_eqL (L2 := [(0, .int p0)]) (by simp [lv_args, va_rf_cat, cat_i, cat_l]) ?_
  refine v_iload_n (x := p0) dX15_isLetter_0 rfl 0 rfl ?_
  refine v_bipush (v := 97) dX15_isLetter_1 (by decide) ?_
  refine v_icmp_lt (tgt := 16) hf dX15_isLetter_3 (by decide) (fun hq hf => ?_) (fun hq hf => ?_)
  · refine v_sub [] (L2 := []) rfl ?_
    exact t_X15_isLetter_b16  hf
  · refine v_iload_n (x := p0) dX15_isLetter_6 rfl 0 rfl ?_
    refine v_bipush (v := 122) dX15_isLetter_7 (by decide) ?_
    refine v_icmp_gt (tgt := 16) hf dX15_isLetter_9 (by decide) (fun hq hf => ?_) (fun hq hf => ?_)
    · refine v_sub [] (L2 := []) rfl ?_
      exact t_X15_isLetter_b16  hf
    · refine v_iconst (v := 1) dX15_isLetter_12 (by decide) ?_
      refine v_goto (tgt := 17) dX15_isLetter_13 (by decide) ?_
      refine v_sub [] (L2 := []) rfl ?_
      exact t_X15_isLetter_b17  hf
theorem dX15_isMark_0 : decode cX15_isMark 0 = .ok (.iload_n 0, 1) := by decide +kernel
theorem dX15_isMark_1 : decode cX15_isMark 1 = .ok (.bipush 60, 2) := by decide +kernel
theorem dX15_isMark_3 : decode cX15_isMark 3 = .ok (.if_icmp .eq 57, 3) := by decide +kernel
theorem dX15_isMark_6 : decode cX15_isMark 6 = .ok (.iload_n 0, 1) := by decide +kernel
theorem dX15_isMark_7 : decode cX15_isMark 7 = .ok (.bipush 62, 2) := by decide +kernel
theorem dX15_isMark_9 : decode cX15_isMark 9 = .ok (.if_icmp .eq 51, 3) := by decide +kernel
theorem dX15_isMark_12 : decode cX15_isMark 12 = .ok (.iload_n 0, 1) := by decide +kernel
theorem dX15_isMark_13 : decode cX15_isMark 13 = .ok (.bipush 61, 2) := by decide +kernel
theorem dX15_isMark_15 : decode cX15_isMark 15 = .ok (.if_icmp .eq 45, 3) := by decide +kernel
theorem dX15_isMark_18 : decode cX15_isMark 18 = .ok (.iload_n 0, 1) := by decide +kernel
theorem dX15_isMark_19 : decode cX15_isMark 19 = .ok (.bipush 43, 2) := by decide +kernel
theorem dX15_isMark_21 : decode cX15_isMark 21 = .ok (.if_icmp .eq 39, 3) := by decide +kernel
theorem dX15_isMark_24 : decode cX15_isMark 24 = .ok (.iload_n 0, 1) := by decide +kernel
theorem dX15_isMark_25 : decode cX15_isMark 25 = .ok (.bipush 45, 2) := by decide +kernel
theorem dX15_isMark_27 : decode cX15_isMark 27 = .ok (.if_icmp .eq 33, 3) := by decide +kernel
theorem dX15_isMark_30 : decode cX15_isMark 30 = .ok (.iload_n 0, 1) := by decide +kernel
theorem dX15_isMark_31 : decode cX15_isMark 31 = .ok (.bipush 40, 2) := by decide +kernel
theorem dX15_isMark_33 : decode cX15_isMark 33 = .ok (.if_icmp .eq 27, 3) := by decide +kernel
theorem dX15_isMark_36 : decode cX15_isMark 36 = .ok (.iload_n 0, 1) := by decide +kernel
theorem dX15_isMark_37 : decode cX15_isMark 37 = .ok (.bipush 41, 2) := by decide +kernel
theorem dX15_isMark_39 : decode cX15_isMark 39 = .ok (.if_icmp .eq 21, 3) := by decide +kernel
theorem dX15_isMark_42 : decode cX15_isMark 42 = .ok (.iload_n 0, 1) := by decide +kernel
theorem dX15_isMark_43 : decode cX15_isMark 43 = .ok (.bipush 58, 2) := by decide +kernel
theorem dX15_isMark_45 : decode cX15_isMark 45 = .ok (.if_icmp .eq 15, 3) := by decide +kernel
theorem dX15_isMark_48 : decode cX15_isMark 48 = .ok (.iload_n 0, 1) := by decide +kernel
theorem dX15_isMark_49 : decode cX15_isMark 49 = .ok (.bipush 123, 2) := by decide +kernel
theorem dX15_isMark_51 : decode cX15_isMark 51 = .ok (.if_icmp .eq 9, 3) := by decide +kernel
theorem dX15_isMark_54 : decode cX15_isMark 54 = .ok (.iload_n 0, 1) := by decide +kernel
theorem dX15_isMark_55 : decode cX15_isMark 55 = .ok (.bipush 125, 2) := by decide +kernel
theorem dX15_isMark_57 : decode cX15_isMark 57 = .ok (.if_icmp .ne 7, 3) := by decide +kernel
theorem dX15_isMark_60 : decode cX15_isMark 60 = .ok (.iconst 1, 1) := by decide +kernel
theorem dX15_isMark_61 : decode cX15_isMark 61 = .ok (.goto 4, 3) := by decide +kernel
theorem dX15_isMark_64 : decode cX15_isMark 64 = .ok (.iconst 0, 1) := by decide +kernel
theorem dX15_isMark_65 : decode cX15_isMark 65 = .ok (.ireturn, 1) := by decide +kernel
def f_X15_isMark_b65 (σ : TH) (t0 : Int32) : Option (Int32 × TH) :=
  gt_ (t0 = 0 ∨ t0 = 1) <| some (t0, σ)
set_option maxHeartbeats 4000000 in
set_option maxRecDepth 100000 in
theorem t_X15_isMark_b65 {l : Launch} {D : va_G} {cy : Nat → ClassId} {ka : Nat → Nat} {σ0 z : TH} {r : Int32}  {σ : TH} {t0 : Int32} (hf : f_X15_isMark_b65 σ t0 = some (r, z)) : v_ l D cy ka cX15_isMark RX15 1 (some FieldType.boolean) "isMark" 0 0 (qf_ D cy σ0 z (some (.int r))) σ0 z σ 65 [] [.int t0] := by
  unfold f_X15_isMark_b65 at hf
  obtain ⟨hb9, hf⟩ := gt_of hf
  exact v_zret hf (nz_ hb9) dX15_isMark_65
def f_X15_isMark_b60 (σ : TH) : Option (Int32 × TH) :=
  f_X15_isMark_b65 σ (1 : Int32)
set_option maxHeartbeats 4000000 in
set_option maxRecDepth 100000 in
theorem t_X15_isMark_b60 {l : Launch} {D : va_G} {cy : Nat → ClassId} {ka : Nat → Nat} {σ0 z : TH} {r : Int32}  {σ : TH}  (hf : f_X15_isMark_b60 σ  = some (r, z)) : v_ l D cy ka cX15_isMark RX15 1 (some FieldType.boolean) "isMark" 0 0 (qf_ D cy σ0 z (some (.int r))) σ0 z σ 60 [] [] := by
  unfold f_X15_isMark_b60 at hf
  refine v_iconst (v := 1) dX15_isMark_60 (by decide) ?_
  refine v_goto (tgt := 65) dX15_isMark_61 (by decide) ?_
  refine v_sub [] (L2 := []) rfl ?_
  exact t_X15_isMark_b65  hf
/-- LivesAheadModel.isMark(I)Z -/
def f_X15_isMark (σ : TH) (p0 : Int32) : Option (Int32 × TH) :=
  if p0 = (60 : Int32) then (f_X15_isMark_b60 σ ) else (if p0 = (62 : Int32) then (f_X15_isMark_b60 σ ) else (if p0 = (61 : Int32) then (f_X15_isMark_b60 σ ) else (if p0 = (43 : Int32) then (f_X15_isMark_b60 σ ) else (if p0 = (45 : Int32) then (f_X15_isMark_b60 σ ) else (if p0 = (40 : Int32) then (f_X15_isMark_b60 σ ) else (if p0 = (41 : Int32) then (f_X15_isMark_b60 σ ) else (if p0 = (58 : Int32) then (f_X15_isMark_b60 σ ) else (if p0 = (123 : Int32) then (f_X15_isMark_b60 σ ) else (if p0 = (125 : Int32) then (f_X15_isMark_b60 σ ) else (f_X15_isMark_b65 σ (0 : Int32)))))))))))
set_option maxHeartbeats 4000000 in
set_option maxRecDepth 100000 in
theorem c_X15_isMark {l : Launch} {D : va_G} {cy : Nat → ClassId} {ka : Nat → Nat} {σ z : TH} {p0 : Int32} {r : Int32} (hf : f_X15_isMark σ p0 = some (r, z)) : ct_ l D cy ka yX15_isMark 0 0 [.int p0] σ (some (.int r)) z := by
  unfold f_X15_isMark at hf
  refine v_start (cc := cX15_isMark) (own := RX15) (maxL := 1) (ret := (some FieldType.boolean)) (nm := "isMark") (by decide +kernel) kw_1909 rfl rfl (by simp [lg_sl, va_rf_cat, cat_i, cat_l]) ?_
  refine v_eqL (L2 := [(0, .int p0)]) (by simp [lv_args, va_rf_cat, cat_i, cat_l]) ?_
  refine v_iload_n (x := p0) dX15_isMark_0 rfl 0 rfl ?_
  refine v_bipush (v := 60) dX15_isMark_1 (by decide) ?_
  refine v_icmp_eq (tgt := 60) hf dX15_isMark_3 (by decide) (fun hq hf => ?_) (fun hq hf => ?_)
  · refine v_sub [] (L2 := []) rfl ?_
    exact t_X15_isMark_b60  hf
  · refine v_iload_n (x := p0) dX15_isMark_6 rfl 0 rfl ?_
    refine v_bipush (v := 62) dX15_isMark_7 (by decide) ?_
    refine v_icmp_eq (tgt := 60) hf dX15_isMark_9 (by decide) (fun hq hf => ?_) (fun hq hf => ?_)
    · refine v_sub [] (L2 := []) rfl ?_
      exact t_X15_isMark_b60  hf
    · refine v_iload_n (x := p0) dX15_isMark_12 rfl 0 rfl ?_
      refine v_bipush (v := 61) dX15_isMark_13 (by decide) ?_
      refine v_icmp_eq (tgt := 60) hf dX15_isMark_15 (by decide) (fun hq hf => ?_) (fun hq hf => ?_)
      · refine v_sub [] (L2 := []) rfl ?_
        exact t_X15_isMark_b60  hf
      · refine v_iload_n (x := p0) dX15_isMark_18 rfl 0 rfl ?_
        refine v_bipush (v := 43) dX15_isMark_19 (by decide) ?_
        refine v_icmp_eq (tgt := 60) hf dX15_isMark_21 (by decide) (fun hq hf => ?_) (fun hq hf => ?_)
        · refine v_sub [] (L2 := []) rfl ?_
          exact t_X15_isMark_b60  hf
        · refine v_iload_n (x := p0) dX15_isMark_24 rfl 0 rfl ?_
          refine v_bipush (v := 45) dX15_isMark_25 (by decide) ?_
          refine v_icmp_eq (tgt := 60) hf dX15_isMark_27 (by decide) (fun hq hf => ?_) (fun hq hf => ?_)
          · refine v_sub [] (L2 := []) rfl ?_
            exact t_X15_isMark_b60  hf
          · refine v_iload_n (x := p0) dX15_isMark_30 rfl 0 rfl ?_
            refine v_bipush (v := 40) dX15_isMark_31 (by decide) ?_
            refine v_icmp_eq (tgt := 60) hf dX15_isMark_33 (by decide) (fun hq hf => ?_) (fun hq hf => ?_)
            · refine v_sub [] (L2 := []) rfl ?_
              exact t_X15_isMark_b60  hf
            · refine v_iload_n (x := p0) dX15_isMark_36 rfl 0 rfl ?_
              refine v_bipush (v := 41) dX15_isMark_37 (by decide) ?_
              refine v_icmp_eq (tgt := 60) hf dX15_isMark_39 (by decide) (fun hq hf => ?_) (fun hq hf => ?_)
              · refine v_sub [] (L2 := []) rfl ?_
                exact t_X15_isMark_b60  hf
              · refine v_iload_n (x := p0) dX15_isMark_42 rfl 0 rfl ?_
                refine v_bipush (v := 58) dX15_isMark_43 (by decide) ?_
                refine v_icmp_eq (tgt := 60) hf dX15_isMark_45 (by decide) (fun hq hf => ?_) (fun hq hf => ?_)
                · refine v_sub [] (L2 := []) rfl ?_
                  exact t_X15_isMark_b60  hf
                · refine v_iload_n (x := p0) dX15_isMark_48 rfl 0 rfl ?_
                  refine v_bipush (v := 123) dX15_isMark_49 (by decide) ?_
                  refine v_icmp_eq (tgt := 60) hf dX15_isMark_51 (by decide) (fun hq hf => ?_) (fun hq hf => ?_)
                  · refine v_sub [] (L2 := []) rfl ?_
                    exact t_X15_isMark_b60  hf
                  · refine v_iload_n (x := p0) dX15_isMark_54 rfl 0 rfl ?_
                    refine v_bipush (v := 125) dX15_isMark_55 (by decide) ?_
                    refine v_icmp_ne (tgt := 64) hf dX15_isMark_57 (by decide) (fun hq hf => ?_) (fun hq hf => ?_)
                    · refine v_sub [] (L2 := []) rfl ?_
                      exact t_X15_isMark_b60  hf
                    · refine v_iconst (v := 0) dX15_isMark_64 (by decide) ?_
                      refine v_sub [] (L2 := []) rfl ?_
                      exact t_X15_isMark_b65  hf
