/-! Functions over the typed heap and contracts, by wip/gen/gen.py: X11_gatherStories X11_keepChosen X11_withdraw X11_writer X11_wrong X15_wordOf X15_isWord X15_isKept X15_isFact X15_isName X15_sourceHere X15_isRuleName X15_ruleValue X15_value -/
theorem dX11_gatherStories_0 : decode cX11_gatherStories 0 = .ok (.iconst 0, 1) := by decide +kernel
theorem dX11_gatherStories_1 : decode cX11_gatherStories 1 = .ok (.istore_n 2, 1) := by decide +kernel
theorem dX11_gatherStories_2 : decode cX11_gatherStories 2 = .ok (.iload_n 2, 1) := by decide +kernel
theorem dX11_gatherStories_3 : decode cX11_gatherStories 3 = .ok (.aload_n 0, 1) := by decide +kernel
theorem dX11_gatherStories_4 : decode cX11_gatherStories 4 = .ok (.getfield 16, 3) := by decide +kernel
theorem dX11_gatherStories_7 : decode cX11_gatherStories 7 = .ok (.invokevirtual 101, 3) := by decide +kernel
theorem dX11_gatherStories_10 : decode cX11_gatherStories 10 = .ok (.if_icmp .ge 85, 3) := by decide +kernel
theorem dX11_gatherStories_13 : decode cX11_gatherStories 13 = .ok (.aload_n 0, 1) := by decide +kernel
theorem dX11_gatherStories_14 : decode cX11_gatherStories 14 = .ok (.getfield 16, 3) := by decide +kernel
theorem dX11_gatherStories_17 : decode cX11_gatherStories 17 = .ok (.iload_n 2, 1) := by decide +kernel
theorem dX11_gatherStories_18 : decode cX11_gatherStories 18 = .ok (.invokevirtual 238, 3) := by decide +kernel
theorem dX11_gatherStories_21 : decode cX11_gatherStories 21 = .ok (.checkcast 144, 3) := by decide +kernel
theorem dX11_gatherStories_24 : decode cX11_gatherStories 24 = .ok (.astore_n 3, 1) := by decide +kernel
theorem dX11_gatherStories_25 : decode cX11_gatherStories 25 = .ok (.aload_n 3, 1) := by decide +kernel
theorem dX11_gatherStories_26 : decode cX11_gatherStories 26 = .ok (.invokevirtual 166, 3) := by decide +kernel
theorem dX11_gatherStories_29 : decode cX11_gatherStories 29 = .ok (.ifCond .eq 7, 3) := by decide +kernel
theorem dX11_gatherStories_32 : decode cX11_gatherStories 32 = .ok (.iconst 0, 1) := by decide +kernel
theorem dX11_gatherStories_33 : decode cX11_gatherStories 33 = .ok (.goto 15, 3) := by decide +kernel
theorem dX11_gatherStories_36 : decode cX11_gatherStories 36 = .ok (.aload_n 0, 1) := by decide +kernel
theorem dX11_gatherStories_37 : decode cX11_gatherStories 37 = .ok (.aload_n 3, 1) := by decide +kernel
theorem dX11_gatherStories_38 : decode cX11_gatherStories 38 = .ok (.aload_n 0, 1) := by decide +kernel
theorem dX11_gatherStories_39 : decode cX11_gatherStories 39 = .ok (.invokevirtual 188, 3) := by decide +kernel
theorem dX11_gatherStories_42 : decode cX11_gatherStories 42 = .ok (.invokevirtual 191, 3) := by decide +kernel
theorem dX11_gatherStories_45 : decode cX11_gatherStories 45 = .ok (.invokestatic 183, 3) := by decide +kernel
theorem dX11_gatherStories_48 : decode cX11_gatherStories 48 = .ok (.istore 4, 2) := by decide +kernel
theorem dX11_gatherStories_50 : decode cX11_gatherStories 50 = .ok (.aload_n 3, 1) := by decide +kernel
theorem dX11_gatherStories_51 : decode cX11_gatherStories 51 = .ok (.getfield 163, 3) := by decide +kernel
theorem dX11_gatherStories_54 : decode cX11_gatherStories 54 = .ok (.iload_n 1, 1) := by decide +kernel
theorem dX11_gatherStories_55 : decode cX11_gatherStories 55 = .ok (.if_icmp .ne 34, 3) := by decide +kernel
theorem dX11_gatherStories_58 : decode cX11_gatherStories 58 = .ok (.iload 4, 2) := by decide +kernel
theorem dX11_gatherStories_60 : decode cX11_gatherStories 60 = .ok (.ifCond .le 29, 3) := by decide +kernel
theorem dX11_gatherStories_63 : decode cX11_gatherStories 63 = .ok (.aload_n 3, 1) := by decide +kernel
theorem dX11_gatherStories_64 : decode cX11_gatherStories 64 = .ok (.aload_n 0, 1) := by decide +kernel
theorem dX11_gatherStories_65 : decode cX11_gatherStories 65 = .ok (.aload_n 3, 1) := by decide +kernel
theorem dX11_gatherStories_66 : decode cX11_gatherStories 66 = .ok (.invokevirtual 515, 3) := by decide +kernel
theorem dX11_gatherStories_69 : decode cX11_gatherStories 69 = .ok (.aload_n 3, 1) := by decide +kernel
theorem dX11_gatherStories_70 : decode cX11_gatherStories 70 = .ok (.getfield 160, 3) := by decide +kernel
theorem dX11_gatherStories_73 : decode cX11_gatherStories 73 = .ok (.imul, 1) := by decide +kernel
theorem dX11_gatherStories_74 : decode cX11_gatherStories 74 = .ok (.iload 4, 2) := by decide +kernel
theorem dX11_gatherStories_76 : decode cX11_gatherStories 76 = .ok (.imul, 1) := by decide +kernel
theorem dX11_gatherStories_77 : decode cX11_gatherStories 77 = .ok (.putfield 440, 3) := by decide +kernel
theorem dX11_gatherStories_80 : decode cX11_gatherStories 80 = .ok (.aload_n 0, 1) := by decide +kernel
theorem dX11_gatherStories_81 : decode cX11_gatherStories 81 = .ok (.getfield 81, 3) := by decide +kernel
theorem dX11_gatherStories_84 : decode cX11_gatherStories 84 = .ok (.aload_n 3, 1) := by decide +kernel
theorem dX11_gatherStories_85 : decode cX11_gatherStories 85 = .ok (.invokevirtual 110, 3) := by decide +kernel
theorem dX11_gatherStories_88 : decode cX11_gatherStories 88 = .ok (.pop, 1) := by decide +kernel
theorem dX11_gatherStories_89 : decode cX11_gatherStories 89 = .ok (.iinc 2 1, 3) := by decide +kernel
theorem dX11_gatherStories_92 : decode cX11_gatherStories 92 = .ok (.goto (-90), 3) := by decide +kernel
theorem dX11_gatherStories_95 : decode cX11_gatherStories 95 = .ok (.aload_n 0, 1) := by decide +kernel
theorem dX11_gatherStories_96 : decode cX11_gatherStories 96 = .ok (.getfield 81, 3) := by decide +kernel
theorem dX11_gatherStories_99 : decode cX11_gatherStories 99 = .ok (.invokevirtual 101, 3) := by decide +kernel
theorem dX11_gatherStories_102 : decode cX11_gatherStories 102 = .ok (.bipush 12, 2) := by decide +kernel
theorem dX11_gatherStories_104 : decode cX11_gatherStories 104 = .ok (.isub, 1) := by decide +kernel
theorem dX11_gatherStories_105 : decode cX11_gatherStories 105 = .ok (.istore_n 2, 1) := by decide +kernel
theorem dX11_gatherStories_106 : decode cX11_gatherStories 106 = .ok (.iload_n 2, 1) := by decide +kernel
theorem dX11_gatherStories_107 : decode cX11_gatherStories 107 = .ok (.ifCond .le 24, 3) := by decide +kernel
theorem dX11_gatherStories_110 : decode cX11_gatherStories 110 = .ok (.aload_n 0, 1) := by decide +kernel
theorem dX11_gatherStories_111 : decode cX11_gatherStories 111 = .ok (.getfield 81, 3) := by decide +kernel
theorem dX11_gatherStories_114 : decode cX11_gatherStories 114 = .ok (.aload_n 0, 1) := by decide +kernel
theorem dX11_gatherStories_115 : decode cX11_gatherStories 115 = .ok (.getfield 81, 3) := by decide +kernel
theorem dX11_gatherStories_118 : decode cX11_gatherStories 118 = .ok (.invokestatic 518, 3) := by decide +kernel
theorem dX11_gatherStories_121 : decode cX11_gatherStories 121 = .ok (.invokevirtual 521, 3) := by decide +kernel
theorem dX11_gatherStories_124 : decode cX11_gatherStories 124 = .ok (.pop, 1) := by decide +kernel
theorem dX11_gatherStories_125 : decode cX11_gatherStories 125 = .ok (.iinc 2 (-1), 3) := by decide +kernel
theorem dX11_gatherStories_128 : decode cX11_gatherStories 128 = .ok (.goto (-22), 3) := by decide +kernel
theorem dX11_gatherStories_131 : decode cX11_gatherStories 131 = .ok (.return_, 1) := by decide +kernel
def f_X11_gatherStories_b106 (ka : Nat → Nat) : Nat → TH → Nat → Int32 → Option (Unit × TH)
  | 0, _, _, _ => none
  | n + 1, σ, l0, l2 => if l2 ≤ 0 then (some ((), σ)) else (gt_ (kd_ σ l0 = 13) <| lt_ (fr_ σ 1218 l0) fun r10 => lt_ (fr_ σ 1218 l0) fun r11 => bd_ (f_X11_placeOfLeast σ r11) fun x12 s13 => nn_ r10 fun a14 => gt_ (kd_ s13 a14 = 1) <| bd_ (f_Jx4a65c_remove_915e3 s13 a14 x12) fun r15 s16 => lt_ (l2 + (-1)) fun x17 => (f_X11_gatherStories_b106 ka n) s16 l0 x17)
set_option maxHeartbeats 4000000 in
set_option maxRecDepth 100000 in
theorem t_X11_gatherStories_b106 {l : Launch} {D : va_G} {cy : Nat → ClassId} {ka : Nat → Nat} {σ0 z : TH} {r : Unit}  : ∀ (n : Nat) (σ : TH) (l0 : Nat) (l2 : Int32), f_X11_gatherStories_b106 ka n σ l0 l2 = some (r, z) → v_ l D cy ka cX11_gatherStories RX11 5 none "gatherStories" 7 191 (qf_ D cy σ0 z none) σ0 z σ 106 [(0, va_rf (some l0)), (2, .int l2)] [] := by
  intro n
  induction n with
  | zero => intro σ l0 l2 hf; unfold f_X11_gatherStories_b106 at hf; cases hf
  | succ n ih =>
    intro σ l0 l2 hf
    unfold f_X11_gatherStories_b106 at hf
    have hrec_106 := ih
    refine v_iload_n (x := l2) dX11_gatherStories_106 rfl 1 rfl ?_
    refine v_if_le (tgt := 131) hf dX11_gatherStories_107 (by decide) (fun hq hf => ?_) (fun hq hf => ?_)
    · exact v_vret hf dX11_gatherStories_131
    · refine v_aload_n (x := (some l0)) dX11_gatherStories_110 rfl 0 rfl ?_
      obtain ⟨hk_l0, hf⟩ := gt_of hf
      refine v_getr cb_12 hk_l0 18 1218 rfl (by decide) rfl (lk_n kw_257 rfl) hf dX11_gatherStories_111 (fun r10 hf => ?_)
      refine v_aload_n (x := (some l0)) dX11_gatherStories_114 rfl 0 rfl ?_
      refine v_getr cb_12 hk_l0 18 1218 rfl (by decide) rfl (lk_n kw_257 rfl) hf dX11_gatherStories_115 (fun r11 hf => ?_)
      obtain ⟨x12, s13, hcs13, hf⟩ := bd_of hf
      have hts13 := c_X11_placeOfLeast (l := l) (D := D) (cy := cy) (ka := ka) hcs13
      refine v_callS (As := [va_rf r11]) (rest := [va_rf r10]) hts13 yb_X11_placeOfLeast kw_1286 kw_1287 rfl ⟨Nat.le_of_ble_eq_true rfl, Nat.le_of_ble_eq_true rfl⟩ rfl (cat_len (Nat.le_of_ble_eq_true rfl)) dX11_gatherStories_118 ?_
      have hk_l0 := tk_ hts13.1 hk_l0
      show v_ l D cy ka cX11_gatherStories RX11 5 none "gatherStories" 7 191 (qf_ D cy σ0 z none) σ0 z _ 121 [(0, va_rf (some l0)), (2, .int l2)] [.int x12, va_rf r10]
      obtain ⟨a14, rfl, hf⟩ := nn_of hf
      obtain ⟨hk_a14, hf⟩ := gt_of hf
      obtain ⟨r15, s16, hcs16, hf⟩ := bd_of hf
      have hts16 := c_Jx4a65c_remove_915e3 (l := l) (D := D) (cy := cy) (ka := ka) hcs16
      refine v_callV cb_0 hk_a14 (As := [.int x12]) (rest := []) hts16 yb_Jx4a65c_remove_915e3 kw_1289 kw_1290 kw_1291 rfl ⟨Nat.le_of_ble_eq_true rfl, Nat.le_of_ble_eq_true rfl⟩ rfl (cat_len (Nat.le_of_ble_eq_true rfl)) dX11_gatherStories_121 ?_
      have hk_l0 := tk_ hts16.1 hk_l0
      show v_ l D cy ka cX11_gatherStories RX11 5 none "gatherStories" 7 191 (qf_ D cy σ0 z none) σ0 z _ 124 [(0, va_rf (some l0)), (2, .int l2)] [va_rf r15]
      refine v_pop dX11_gatherStories_124 (va_rf_cat _) ?_
      obtain ⟨x17, ex17⟩ : ∃ y : Int32, y = l2 + (-1) := ⟨_, rfl⟩
      rw [lt_e, ← ex17] at hf
      refine v_iinc (v := x17) [(2, .int x17), (0, va_rf (some l0))] dX11_gatherStories_125 1 rfl (by rw [ex17]; rfl) (by decide) rfl ?_
      refine v_goto (tgt := 106) dX11_gatherStories_128 (by decide) ?_
      refine v_sub [1, 0] (L2 := [(0, va_rf (some l0)), (2, .int x17)]) rfl ?_
      exact hrec_106 _ _ _ hf
def f_X11_gatherStories_b89 (ka : Nat → Nat) (rec_2 : TH → Nat → Int32 → Int32 → Option (Unit × TH)) (σ : TH) (l0 : Nat) (l1 : Int32) (l2 : Int32) : Option (Unit × TH) :=
  lt_ (l2 + 1) fun x33 => rec_2 σ l0 l1 x33
set_option maxHeartbeats 4000000 in
set_option maxRecDepth 100000 in
theorem t_X11_gatherStories_b89 {l : Launch} {D : va_G} {cy : Nat → ClassId} {ka : Nat → Nat} {σ0 z : TH} {r : Unit} {rec_2 : TH → Nat → Int32 → Int32 → Option (Unit × TH)} (hrec_2 : ∀ (σ : TH) (l0 : Nat) (l1 : Int32) (l2 : Int32), rec_2 σ l0 l1 l2 = some (r, z) → v_ l D cy ka cX11_gatherStories RX11 5 none "gatherStories" 7 191 (qf_ D cy σ0 z none) σ0 z σ 2 [(0, va_rf (some l0)), (1, .int l1), (2, .int l2)] []) {σ : TH} {l0 : Nat} {l1 : Int32} {l2 : Int32} (hf : f_X11_gatherStories_b89 ka rec_2 σ l0 l1 l2 = some (r, z)) : v_ l D cy ka cX11_gatherStories RX11 5 none "gatherStories" 7 191 (qf_ D cy σ0 z none) σ0 z σ 89 [(0, va_rf (some l0)), (1, .int l1), (2, .int l2)] [] := by
  unfold f_X11_gatherStories_b89 at hf
  obtain ⟨x33, ex33⟩ : ∃ y : Int32, y = l2 + 1 := ⟨_, rfl⟩
  rw [lt_e, ← ex33] at hf
  refine v_iinc (v := x33) [(2, .int x33), (0, va_rf (some l0)), (1, .int l1)] dX11_gatherStories_89 2 rfl (by rw [ex33]; rfl) (by decide) rfl ?_
  refine v_goto (tgt := 2) dX11_gatherStories_92 (by decide) ?_
  refine v_sub [1, 2, 0] (L2 := [(0, va_rf (some l0)), (1, .int l1), (2, .int x33)]) rfl ?_
  exact hrec_2 _ _ _ _ hf
def f_X11_gatherStories_b48 (ka : Nat → Nat) (rec_2 : TH → Nat → Int32 → Int32 → Option (Unit × TH)) (σ : TH) (l0 : Nat) (l1 : Int32) (l2 : Int32) (l3 : Option Nat) (t0 : Int32) : Option (Unit × TH) :=
  nn_ l3 fun a31 => gt_ (kd_ σ a31 = 4) <| lt_ (fi_ σ 304 a31) fun x32 => if x32 = l1 then (if t0 ≤ 0 then (f_X11_gatherStories_b89 ka rec_2 σ l0 l1 l2) else (gt_ (kd_ σ l0 = 13) <| bd_ (f_X11_chanceOf σ l0 (some a31)) fun x34 s35 => lt_ (fi_ s35 303 a31) fun x36 => lt_ (si_ s35 308 a31 ((x34 * x36) * t0)) fun s37 => lt_ (fr_ s37 1218 l0) fun r38 => nn_ r38 fun a39 => gt_ (kd_ s37 a39 = 1) <| bd_ (f_Jx4a65c_add_9ea2d ka s37 a39 (some a31)) fun x40 s41 => f_X11_gatherStories_b89 ka rec_2 s41 l0 l1 l2)) else (f_X11_gatherStories_b89 ka rec_2 σ l0 l1 l2)
set_option maxHeartbeats 4000000 in
set_option maxRecDepth 100000 in
theorem t_X11_gatherStories_b48 {l : Launch} {D : va_G} {cy : Nat → ClassId} {ka : Nat → Nat} {σ0 z : TH} {r : Unit} {rec_2 : TH → Nat → Int32 → Int32 → Option (Unit × TH)} (hrec_2 : ∀ (σ : TH) (l0 : Nat) (l1 : Int32) (l2 : Int32), rec_2 σ l0 l1 l2 = some (r, z) → v_ l D cy ka cX11_gatherStories RX11 5 none "gatherStories" 7 191 (qf_ D cy σ0 z none) σ0 z σ 2 [(0, va_rf (some l0)), (1, .int l1), (2, .int l2)] []) {σ : TH} {l0 : Nat} {l1 : Int32} {l2 : Int32} {l3 : Option Nat} {t0 : Int32} (hf : f_X11_gatherStories_b48 ka rec_2 σ l0 l1 l2 l3 t0 = some (r, z)) : v_ l D cy ka cX11_gatherStories RX11 5 none "gatherStories" 7 191 (qf_ D cy σ0 z none) σ0 z σ 48 [(0, va_rf (some l0)), (1, .int l1), (2, .int l2), (3, va_rf l3)] [.int t0] := by
  unfold f_X11_gatherStories_b48 at hf
  refine v_istore [(4, .int t0), (0, va_rf (some l0)), (1, .int l1), (2, .int l2), (3, va_rf l3)] dX11_gatherStories_48 (by decide) (by simp [va_rf_cat, cat_i, cat_l]) ?_
  refine v_aload_n (x := l3) dX11_gatherStories_50 rfl 4 rfl ?_
  obtain ⟨a31, rfl, hf⟩ := nn_of hf
  obtain ⟨hk_a31, hf⟩ := gt_of hf
  refine v_geti cb_3 hk_a31 4 304 rfl (by decide) rfl (lk_n kw_473 rfl) hf dX11_gatherStories_51 (fun x32 hf => ?_)
  refine v_iload_n (x := l1) dX11_gatherStories_54 rfl 2 rfl ?_
  refine v_icmp_ne (tgt := 89) hf dX11_gatherStories_55 (by decide) (fun hq hf => ?_) (fun hq hf => ?_)
  · refine v_iload (x := t0) dX11_gatherStories_58 0 rfl ?_
    refine v_if_le (tgt := 89) hf dX11_gatherStories_60 (by decide) (fun hq hf => ?_) (fun hq hf => ?_)
    · refine v_sub [1, 2, 3] (L2 := [(0, va_rf (some l0)), (1, .int l1), (2, .int l2)]) rfl ?_
      exact t_X11_gatherStories_b89 hrec_2 hf
    · refine v_aload_n (x := (some a31)) dX11_gatherStories_63 rfl 4 rfl ?_
      refine v_aload_n (x := (some l0)) dX11_gatherStories_64 rfl 1 rfl ?_
      refine v_aload_n (x := (some a31)) dX11_gatherStories_65 rfl 4 rfl ?_
      obtain ⟨hk_l0, hf⟩ := gt_of hf
      obtain ⟨x34, s35, hcs35, hf⟩ := bd_of hf
      have hts35 := c_X11_chanceOf (l := l) (D := D) (cy := cy) (ka := ka) hcs35
      refine v_callV cb_12 hk_l0 (As := [va_rf (some a31)]) (rest := [va_rf (some a31)]) hts35 yb_X11_chanceOf kw_1279 kw_1281 kp_69 rfl ⟨Nat.le_of_ble_eq_true rfl, Nat.le_of_ble_eq_true rfl⟩ rfl (cat_len (Nat.le_of_ble_eq_true rfl)) dX11_gatherStories_66 ?_
      have hk_a31 := tk_ hts35.1 hk_a31
      have hk_l0 := tk_ hts35.1 hk_l0
      show v_ l D cy ka cX11_gatherStories RX11 5 none "gatherStories" 7 191 (qf_ D cy σ0 z none) σ0 z _ 69 [(4, .int t0), (0, va_rf (some l0)), (1, .int l1), (2, .int l2), (3, va_rf (some a31))] [.int x34, va_rf (some a31)]
      refine v_aload_n (x := (some a31)) dX11_gatherStories_69 rfl 4 rfl ?_
      refine v_geti cb_3 hk_a31 3 303 rfl (by decide) rfl (lk_n kw_471 rfl) hf dX11_gatherStories_70 (fun x36 hf => ?_)
      refine v_imul dX11_gatherStories_73 ?_
      refine v_iload (x := t0) dX11_gatherStories_74 0 rfl ?_
      refine v_imul dX11_gatherStories_76 ?_
      refine v_puti2 cb_3 hk_a31 8 308 rfl (by decide) rfl (lk_n kw_481 rfl) (Or.inl rfl) rfl rfl hf dX11_gatherStories_77 (fun s37 hts37 hf => ?_)
      have hk_a31 := tk_ hts37 hk_a31
      have hk_l0 := tk_ hts37 hk_l0
      refine v_aload_n (x := (some l0)) dX11_gatherStories_80 rfl 1 rfl ?_
      refine v_getr cb_12 hk_l0 18 1218 rfl (by decide) rfl (lk_n kw_257 rfl) hf dX11_gatherStories_81 (fun r38 hf => ?_)
      refine v_aload_n (x := (some a31)) dX11_gatherStories_84 rfl 4 rfl ?_
      obtain ⟨a39, rfl, hf⟩ := nn_of hf
      obtain ⟨hk_a39, hf⟩ := gt_of hf
      obtain ⟨x40, s41, hcs41, hf⟩ := bd_of hf
      have hts41 := c_Jx4a65c_add_9ea2d (l := l) (D := D) (cy := cy) (ka := ka) hcs41
      refine v_callV cb_0 hk_a39 (As := [va_rf (some a31)]) (rest := []) hts41 yb_Jx4a65c_add_9ea2d kw_330 kw_331 kw_332 rfl ⟨Nat.le_of_ble_eq_true rfl, Nat.le_of_ble_eq_true rfl⟩ rfl (cat_len (Nat.le_of_ble_eq_true rfl)) dX11_gatherStories_85 ?_
      have hk_a31 := tk_ hts41.1 hk_a31
      have hk_l0 := tk_ hts41.1 hk_l0
      show v_ l D cy ka cX11_gatherStories RX11 5 none "gatherStories" 7 191 (qf_ D cy σ0 z none) σ0 z _ 88 [(4, .int t0), (0, va_rf (some l0)), (1, .int l1), (2, .int l2), (3, va_rf (some a31))] [.int x40]
      refine v_pop dX11_gatherStories_88 rfl ?_
      refine v_sub [1, 2, 3] (L2 := [(0, va_rf (some l0)), (1, .int l1), (2, .int l2)]) rfl ?_
      exact t_X11_gatherStories_b89 hrec_2 hf
  · refine v_sub [1, 2, 3] (L2 := [(0, va_rf (some l0)), (1, .int l1), (2, .int l2)]) rfl ?_
    exact t_X11_gatherStories_b89 hrec_2 hf
def f_X11_gatherStories_b2 (ka : Nat → Nat) : Nat → TH → Nat → Int32 → Int32 → Option (Unit × TH)
  | 0, _, _, _, _ => none
  | n + 1, σ, l0, l1, l2 => gt_ (kd_ σ l0 = 13) <| lt_ (fr_ σ 1201 l0) fun r1 => nn_ r1 fun a2 => gt_ (kd_ σ a2 = 1) <| bd_ (f_Jx4a65c_size_8abf5 σ a2) fun x3 s4 => if x3 ≤ l2 then (lt_ (fr_ s4 1218 l0) fun r5 => nn_ r5 fun a6 => gt_ (kd_ s4 a6 = 1) <| bd_ (f_Jx4a65c_size_8abf5 s4 a6) fun x7 s8 => lt_ (x7 - (12 : Int32)) fun x9 => f_X11_gatherStories_b106 ka fu_ s8 l0 x9) else (lt_ (fr_ s4 1201 l0) fun r18 => nn_ r18 fun a19 => gt_ (kd_ s4 a19 = 1) <| bd_ (f_Jx4a65c_get_915e3 s4 a19 l2) fun r20 s21 => gt_ (Option.elim r20 4 (kd_ s21) = 4) <| nn_ r20 fun a22 => gt_ (kd_ s21 a22 = 4) <| bd_ (f_X2_isDead s21 a22) fun x23 s24 => if x23 = 0 then (bd_ (f_X11_today s24 l0) fun x25 s26 => bd_ (f_X11_staleKinds s26 l0 (some a22) x25) fun x27 s28 => bd_ (f_J6_bitCount_0f7a4 s28 x27) fun x29 s30 => f_X11_gatherStories_b48 ka (f_X11_gatherStories_b2 ka n) s30 l0 l1 l2 (some a22) x29) else (f_X11_gatherStories_b48 ka (f_X11_gatherStories_b2 ka n) s24 l0 l1 l2 (some a22) (0 : Int32)))
set_option maxHeartbeats 4000000 in
set_option maxRecDepth 100000 in
theorem t_X11_gatherStories_b2 {l : Launch} {D : va_G} {cy : Nat → ClassId} {ka : Nat → Nat} {σ0 z : TH} {r : Unit}  : ∀ (n : Nat) (σ : TH) (l0 : Nat) (l1 : Int32) (l2 : Int32), f_X11_gatherStories_b2 ka n σ l0 l1 l2 = some (r, z) → v_ l D cy ka cX11_gatherStories RX11 5 none "gatherStories" 7 191 (qf_ D cy σ0 z none) σ0 z σ 2 [(0, va_rf (some l0)), (1, .int l1), (2, .int l2)] [] := by
  intro n
  induction n with
  | zero => intro σ l0 l1 l2 hf; unfold f_X11_gatherStories_b2 at hf; cases hf
  | succ n ih =>
    intro σ l0 l1 l2 hf
    unfold f_X11_gatherStories_b2 at hf
    have hrec_2 := ih
    refine v_iload_n (x := l2) dX11_gatherStories_2 rfl 2 rfl ?_
    refine v_aload_n (x := (some l0)) dX11_gatherStories_3 rfl 0 rfl ?_
    obtain ⟨hk_l0, hf⟩ := gt_of hf
    refine v_getr cb_12 hk_l0 1 1201 rfl (by decide) rfl (lk_n kw_240 rfl) hf dX11_gatherStories_4 (fun r1 hf => ?_)
    obtain ⟨a2, rfl, hf⟩ := nn_of hf
    obtain ⟨hk_a2, hf⟩ := gt_of hf
    obtain ⟨x3, s4, hcs4, hf⟩ := bd_of hf
    have hts4 := c_Jx4a65c_size_8abf5 (l := l) (D := D) (cy := cy) (ka := ka) hcs4
    refine v_callV cb_0 hk_a2 (As := []) (rest := [.int l2]) hts4 yb_Jx4a65c_size_8abf5 kw_311 kw_312 kw_313 rfl ⟨Nat.le_of_ble_eq_true rfl, Nat.le_of_ble_eq_true rfl⟩ rfl (cat_len (Nat.le_of_ble_eq_true rfl)) dX11_gatherStories_7 ?_
    have hk_l0 := tk_ hts4.1 hk_l0
    show v_ l D cy ka cX11_gatherStories RX11 5 none "gatherStories" 7 191 (qf_ D cy σ0 z none) σ0 z _ 10 [(0, va_rf (some l0)), (1, .int l1), (2, .int l2)] [.int x3, .int l2]
    refine v_icmp_ge (tgt := 95) hf dX11_gatherStories_10 (by decide) (fun hq hf => ?_) (fun hq hf => ?_)
    · refine v_aload_n (x := (some l0)) dX11_gatherStories_95 rfl 0 rfl ?_
      refine v_getr cb_12 hk_l0 18 1218 rfl (by decide) rfl (lk_n kw_257 rfl) hf dX11_gatherStories_96 (fun r5 hf => ?_)
      obtain ⟨a6, rfl, hf⟩ := nn_of hf
      obtain ⟨hk_a6, hf⟩ := gt_of hf
      obtain ⟨x7, s8, hcs8, hf⟩ := bd_of hf
      have hts8 := c_Jx4a65c_size_8abf5 (l := l) (D := D) (cy := cy) (ka := ka) hcs8
      refine v_callV cb_0 hk_a6 (As := []) (rest := []) hts8 yb_Jx4a65c_size_8abf5 kw_311 kw_312 kw_313 rfl ⟨Nat.le_of_ble_eq_true rfl, Nat.le_of_ble_eq_true rfl⟩ rfl (cat_len (Nat.le_of_ble_eq_true rfl)) dX11_gatherStories_99 ?_
      have hk_l0 := tk_ hts8.1 hk_l0
      show v_ l D cy ka cX11_gatherStories RX11 5 none "gatherStories" 7 191 (qf_ D cy σ0 z none) σ0 z _ 102 [(0, va_rf (some l0)), (1, .int l1), (2, .int l2)] [.int x7]
      refine v_bipush (v := 12) dX11_gatherStories_102 (by decide) ?_
      refine v_isub dX11_gatherStories_104 ?_
      obtain ⟨x9, ex9⟩ : ∃ y : Int32, y = x7 - (12 : Int32) := ⟨_, rfl⟩
      rw [lt_e, ← ex9] at hf
      rw [← ex9]
      refine v_istore_n [(2, .int x9), (0, va_rf (some l0)), (1, .int l1)] dX11_gatherStories_105 rfl (by decide) rfl ?_
      refine v_sub [1, 0] (L2 := [(0, va_rf (some l0)), (2, .int x9)]) rfl ?_
      exact t_X11_gatherStories_b106  _ _ _ _ hf
    · refine v_aload_n (x := (some l0)) dX11_gatherStories_13 rfl 0 rfl ?_
      refine v_getr cb_12 hk_l0 1 1201 rfl (by decide) rfl (lk_n kw_240 rfl) hf dX11_gatherStories_14 (fun r18 hf => ?_)
      refine v_iload_n (x := l2) dX11_gatherStories_17 rfl 2 rfl ?_
      obtain ⟨a19, rfl, hf⟩ := nn_of hf
      obtain ⟨hk_a19, hf⟩ := gt_of hf
      obtain ⟨r20, s21, hcs21, hf⟩ := bd_of hf
      have hts21 := c_Jx4a65c_get_915e3 (l := l) (D := D) (cy := cy) (ka := ka) hcs21
      refine v_callV cb_0 hk_a19 (As := [.int l2]) (rest := []) hts21 yb_Jx4a65c_get_915e3 kw_407 kw_408 kw_409 rfl ⟨Nat.le_of_ble_eq_true rfl, Nat.le_of_ble_eq_true rfl⟩ rfl (cat_len (Nat.le_of_ble_eq_true rfl)) dX11_gatherStories_18 ?_
      have hk_l0 := tk_ hts21.1 hk_l0
      show v_ l D cy ka cX11_gatherStories RX11 5 none "gatherStories" 7 191 (qf_ D cy σ0 z none) σ0 z _ 21 [(0, va_rf (some l0)), (1, .int l1), (2, .int l2)] [va_rf r20]
      refine v_cast cb_3 4 rfl kw_441 hf dX11_gatherStories_21 (fun hf => ?_)
      refine v_astore_n [(3, va_rf r20), (0, va_rf (some l0)), (1, .int l1), (2, .int l2)] dX11_gatherStories_24 rfl (by decide) rfl ?_
      refine v_aload_n (x := r20) dX11_gatherStories_25 rfl 0 rfl ?_
      obtain ⟨a22, rfl, hf⟩ := nn_of hf
      obtain ⟨hk_a22, hf⟩ := gt_of hf
      obtain ⟨x23, s24, hcs24, hf⟩ := bd_of hf
      have hts24 := c_X2_isDead (l := l) (D := D) (cy := cy) (ka := ka) hcs24
      refine v_callV cb_3 hk_a22 (As := []) (rest := []) hts24 yb_X2_isDead kw_534 kw_535 kw_536 rfl ⟨Nat.le_of_ble_eq_true rfl, Nat.le_of_ble_eq_true rfl⟩ rfl (cat_len (Nat.le_of_ble_eq_true rfl)) dX11_gatherStories_26 ?_
      have hk_l0 := tk_ hts24.1 hk_l0
      have hk_a22 := tk_ hts24.1 hk_a22
      show v_ l D cy ka cX11_gatherStories RX11 5 none "gatherStories" 7 191 (qf_ D cy σ0 z none) σ0 z _ 29 [(3, va_rf (some a22)), (0, va_rf (some l0)), (1, .int l1), (2, .int l2)] [.int x23]
      refine v_if_eq (tgt := 36) hf dX11_gatherStories_29 (by decide) (fun hq hf => ?_) (fun hq hf => ?_)
      · refine v_aload_n (x := (some l0)) dX11_gatherStories_36 rfl 1 rfl ?_
        refine v_aload_n (x := (some a22)) dX11_gatherStories_37 rfl 0 rfl ?_
        refine v_aload_n (x := (some l0)) dX11_gatherStories_38 rfl 1 rfl ?_
        obtain ⟨x25, s26, hcs26, hf⟩ := bd_of hf
        have hts26 := c_X11_today (l := l) (D := D) (cy := cy) (ka := ka) hcs26
        refine v_callV cb_12 hk_l0 (As := []) (rest := [va_rf (some a22), va_rf (some l0)]) hts26 yb_X11_today kw_538 kw_540 kp_13 rfl ⟨Nat.le_of_ble_eq_true rfl, Nat.le_of_ble_eq_true rfl⟩ rfl (cat_len (Nat.le_of_ble_eq_true rfl)) dX11_gatherStories_39 ?_
        have hk_l0 := tk_ hts26.1 hk_l0
        have hk_a22 := tk_ hts26.1 hk_a22
        show v_ l D cy ka cX11_gatherStories RX11 5 none "gatherStories" 7 191 (qf_ D cy σ0 z none) σ0 z _ 42 [(3, va_rf (some a22)), (0, va_rf (some l0)), (1, .int l1), (2, .int l2)] [.int x25, va_rf (some a22), va_rf (some l0)]
        obtain ⟨x27, s28, hcs28, hf⟩ := bd_of hf
        have hts28 := c_X11_staleKinds (l := l) (D := D) (cy := cy) (ka := ka) hcs28
        refine v_callV cb_12 hk_l0 (As := [va_rf (some a22), .int x25]) (rest := []) hts28 yb_X11_staleKinds kw_552 kw_554 kp_14 rfl ⟨Nat.le_of_ble_eq_true rfl, Nat.le_of_ble_eq_true rfl⟩ rfl (cat_len (Nat.le_of_ble_eq_true rfl)) dX11_gatherStories_42 ?_
        have hk_l0 := tk_ hts28.1 hk_l0
        have hk_a22 := tk_ hts28.1 hk_a22
        show v_ l D cy ka cX11_gatherStories RX11 5 none "gatherStories" 7 191 (qf_ D cy σ0 z none) σ0 z _ 45 [(3, va_rf (some a22)), (0, va_rf (some l0)), (1, .int l1), (2, .int l2)] [.int x27]
        obtain ⟨x29, s30, hcs30, hf⟩ := bd_of hf
        have hts30 := c_J6_bitCount_0f7a4 (l := l) (D := D) (cy := cy) (ka := ka) hcs30
        refine v_callS (As := [.int x27]) (rest := []) hts30 yb_J6_bitCount_0f7a4 kw_546 kw_547 rfl ⟨Nat.le_of_ble_eq_true rfl, Nat.le_of_ble_eq_true rfl⟩ rfl (cat_len (Nat.le_of_ble_eq_true rfl)) dX11_gatherStories_45 ?_
        have hk_l0 := tk_ hts30.1 hk_l0
        have hk_a22 := tk_ hts30.1 hk_a22
        show v_ l D cy ka cX11_gatherStories RX11 5 none "gatherStories" 7 191 (qf_ D cy σ0 z none) σ0 z _ 48 [(3, va_rf (some a22)), (0, va_rf (some l0)), (1, .int l1), (2, .int l2)] [.int x29]
        refine v_sub [1, 2, 3, 0] (L2 := [(0, va_rf (some l0)), (1, .int l1), (2, .int l2), (3, va_rf (some a22))]) rfl ?_
        exact t_X11_gatherStories_b48 hrec_2 hf
      · refine v_iconst (v := 0) dX11_gatherStories_32 (by decide) ?_
        refine v_goto (tgt := 48) dX11_gatherStories_33 (by decide) ?_
        refine v_sub [1, 2, 3, 0] (L2 := [(0, va_rf (some l0)), (1, .int l1), (2, .int l2), (3, va_rf (some a22))]) rfl ?_
        exact t_X11_gatherStories_b48 hrec_2 hf
/-- LivesAhead.gatherStories(I)V -/
def f_X11_gatherStories (ka : Nat → Nat) (σ : TH) (p0 : Nat) (p1 : Int32) : Option (Unit × TH) :=
  f_X11_gatherStories_b2 ka fu_ σ p0 p1 (0 : Int32)
set_option maxHeartbeats 4000000 in
set_option maxRecDepth 100000 in
theorem c_X11_gatherStories {l : Launch} {D : va_G} {cy : Nat → ClassId} {ka : Nat → Nat} {σ z : TH} {p0 : Nat} {p1 : Int32} {r : Unit} (hf : f_X11_gatherStories ka σ p0 p1 = some (r, z)) : ct_ l D cy ka yX11_gatherStories 7 191 [va_rf (some p0), .int p1] σ none z := by
  unfold f_X11_gatherStories at hf
  refine v_start (cc := cX11_gatherStories) (own := RX11) (maxL := 5) (ret := none) (nm := "gatherStories") (by decide +kernel) kw_1278 rfl rfl (by simp [lg_sl, va_rf_cat, cat_i, cat_l]) ?_
  refine v_eqL (L2 := [(0, va_rf (some p0)), (1, .int p1)]) (by simp [lv_args, va_rf_cat, cat_i, cat_l]) ?_
  refine v_iconst (v := 0) dX11_gatherStories_0 (by decide) ?_
  refine v_istore_n [(2, .int (0 : Int32)), (0, va_rf (some p0)), (1, .int p1)] dX11_gatherStories_1 rfl (by decide) rfl ?_
  refine v_sub [1, 2, 0] (L2 := [(0, va_rf (some p0)), (1, .int p1), (2, .int (0 : Int32))]) rfl ?_
  exact t_X11_gatherStories_b2  _ _ _ _ _ hf
theorem dX11_keepChosen_0 : decode cX11_keepChosen 0 = .ok (.aload_n 0, 1) := by decide +kernel
theorem dX11_keepChosen_1 : decode cX11_keepChosen 1 = .ok (.getfield 81, 3) := by decide +kernel
theorem dX11_keepChosen_4 : decode cX11_keepChosen 4 = .ok (.invokevirtual 101, 3) := by decide +kernel
theorem dX11_keepChosen_7 : decode cX11_keepChosen 7 = .ok (.iconst 1, 1) := by decide +kernel
theorem dX11_keepChosen_8 : decode cX11_keepChosen 8 = .ok (.isub, 1) := by decide +kernel
theorem dX11_keepChosen_9 : decode cX11_keepChosen 9 = .ok (.istore_n 2, 1) := by decide +kernel
theorem dX11_keepChosen_10 : decode cX11_keepChosen 10 = .ok (.iload_n 2, 1) := by decide +kernel
theorem dX11_keepChosen_11 : decode cX11_keepChosen 11 = .ok (.ifCond .lt 26, 3) := by decide +kernel
theorem dX11_keepChosen_14 : decode cX11_keepChosen 14 = .ok (.iload_n 1, 1) := by decide +kernel
theorem dX11_keepChosen_15 : decode cX11_keepChosen 15 = .ok (.iconst 1, 1) := by decide +kernel
theorem dX11_keepChosen_16 : decode cX11_keepChosen 16 = .ok (.iload_n 2, 1) := by decide +kernel
theorem dX11_keepChosen_17 : decode cX11_keepChosen 17 = .ok (.ishl, 1) := by decide +kernel
theorem dX11_keepChosen_18 : decode cX11_keepChosen 18 = .ok (.iand, 1) := by decide +kernel
theorem dX11_keepChosen_19 : decode cX11_keepChosen 19 = .ok (.ifCond .ne 12, 3) := by decide +kernel
theorem dX11_keepChosen_22 : decode cX11_keepChosen 22 = .ok (.aload_n 0, 1) := by decide +kernel
theorem dX11_keepChosen_23 : decode cX11_keepChosen 23 = .ok (.getfield 81, 3) := by decide +kernel
theorem dX11_keepChosen_26 : decode cX11_keepChosen 26 = .ok (.iload_n 2, 1) := by decide +kernel
theorem dX11_keepChosen_27 : decode cX11_keepChosen 27 = .ok (.invokevirtual 521, 3) := by decide +kernel
theorem dX11_keepChosen_30 : decode cX11_keepChosen 30 = .ok (.pop, 1) := by decide +kernel
theorem dX11_keepChosen_31 : decode cX11_keepChosen 31 = .ok (.iinc 2 (-1), 3) := by decide +kernel
theorem dX11_keepChosen_34 : decode cX11_keepChosen 34 = .ok (.goto (-24), 3) := by decide +kernel
theorem dX11_keepChosen_37 : decode cX11_keepChosen 37 = .ok (.return_, 1) := by decide +kernel
def f_X11_keepChosen_b31 (rec_10 : TH → Nat → Int32 → Int32 → Option (Unit × TH)) (σ : TH) (l0 : Nat) (l1 : Int32) (l2 : Int32) : Option (Unit × TH) :=
  lt_ (l2 + (-1)) fun x10 => rec_10 σ l0 l1 x10
set_option maxHeartbeats 4000000 in
set_option maxRecDepth 100000 in
theorem t_X11_keepChosen_b31 {l : Launch} {D : va_G} {cy : Nat → ClassId} {ka : Nat → Nat} {σ0 z : TH} {r : Unit} {rec_10 : TH → Nat → Int32 → Int32 → Option (Unit × TH)} (hrec_10 : ∀ (σ : TH) (l0 : Nat) (l1 : Int32) (l2 : Int32), rec_10 σ l0 l1 l2 = some (r, z) → v_ l D cy ka cX11_keepChosen RX11 3 none "keepChosen" 3 106 (qf_ D cy σ0 z none) σ0 z σ 10 [(0, va_rf (some l0)), (1, .int l1), (2, .int l2)] []) {σ : TH} {l0 : Nat} {l1 : Int32} {l2 : Int32} (hf : f_X11_keepChosen_b31 rec_10 σ l0 l1 l2 = some (r, z)) : v_ l D cy ka cX11_keepChosen RX11 3 none "keepChosen" 3 106 (qf_ D cy σ0 z none) σ0 z σ 31 [(0, va_rf (some l0)), (1, .int l1), (2, .int l2)] [] := by
  unfold f_X11_keepChosen_b31 at hf
  obtain ⟨x10, ex10⟩ : ∃ y : Int32, y = l2 + (-1) := ⟨_, rfl⟩
  rw [lt_e, ← ex10] at hf
  refine v_iinc (v := x10) [(2, .int x10), (0, va_rf (some l0)), (1, .int l1)] dX11_keepChosen_31 2 rfl (by rw [ex10]; rfl) (by decide) rfl ?_
  refine v_goto (tgt := 10) dX11_keepChosen_34 (by decide) ?_
  refine v_sub [1, 2, 0] (L2 := [(0, va_rf (some l0)), (1, .int l1), (2, .int x10)]) rfl ?_
  exact hrec_10 _ _ _ _ hf
def f_X11_keepChosen_b10 : Nat → TH → Nat → Int32 → Int32 → Option (Unit × TH)
  | 0, _, _, _, _ => none
  | n + 1, σ, l0, l1, l2 => if l2 < 0 then (some ((), σ)) else (if (l1 &&& ((1 : Int32) <<< (l2 &&& 31))) = 0 then (gt_ (kd_ σ l0 = 13) <| lt_ (fr_ σ 1218 l0) fun r6 => nn_ r6 fun a7 => gt_ (kd_ σ a7 = 1) <| bd_ (f_Jx4a65c_remove_915e3 σ a7 l2) fun r8 s9 => f_X11_keepChosen_b31 (f_X11_keepChosen_b10 n) s9 l0 l1 l2) else (f_X11_keepChosen_b31 (f_X11_keepChosen_b10 n) σ l0 l1 l2))
set_option maxHeartbeats 4000000 in
set_option maxRecDepth 100000 in
theorem t_X11_keepChosen_b10 {l : Launch} {D : va_G} {cy : Nat → ClassId} {ka : Nat → Nat} {σ0 z : TH} {r : Unit}  : ∀ (n : Nat) (σ : TH) (l0 : Nat) (l1 : Int32) (l2 : Int32), f_X11_keepChosen_b10 n σ l0 l1 l2 = some (r, z) → v_ l D cy ka cX11_keepChosen RX11 3 none "keepChosen" 3 106 (qf_ D cy σ0 z none) σ0 z σ 10 [(0, va_rf (some l0)), (1, .int l1), (2, .int l2)] [] := by
  intro n
  induction n with
  | zero => intro σ l0 l1 l2 hf; unfold f_X11_keepChosen_b10 at hf; cases hf
  | succ n ih =>
    intro σ l0 l1 l2 hf
    unfold f_X11_keepChosen_b10 at hf
    have hrec_10 := ih
    refine v_iload_n (x := l2) dX11_keepChosen_10 rfl 2 rfl ?_
    refine v_if_lt (tgt := 37) hf dX11_keepChosen_11 (by decide) (fun hq hf => ?_) (fun hq hf => ?_)
    · exact v_vret hf dX11_keepChosen_37
    · refine v_iload_n (x := l1) dX11_keepChosen_14 rfl 1 rfl ?_
      refine v_iconst (v := 1) dX11_keepChosen_15 (by decide) ?_
      refine v_iload_n (x := l2) dX11_keepChosen_16 rfl 2 rfl ?_
      refine v_ishl dX11_keepChosen_17 ?_
      refine v_iand dX11_keepChosen_18 ?_
      refine v_if_ne (tgt := 31) hf dX11_keepChosen_19 (by decide) (fun hq hf => ?_) (fun hq hf => ?_)
      · refine v_aload_n (x := (some l0)) dX11_keepChosen_22 rfl 0 rfl ?_
        obtain ⟨hk_l0, hf⟩ := gt_of hf
        refine v_getr cb_12 hk_l0 18 1218 rfl (by decide) rfl (lk_n kw_257 rfl) hf dX11_keepChosen_23 (fun r6 hf => ?_)
        refine v_iload_n (x := l2) dX11_keepChosen_26 rfl 2 rfl ?_
        obtain ⟨a7, rfl, hf⟩ := nn_of hf
        obtain ⟨hk_a7, hf⟩ := gt_of hf
        obtain ⟨r8, s9, hcs9, hf⟩ := bd_of hf
        have hts9 := c_Jx4a65c_remove_915e3 (l := l) (D := D) (cy := cy) (ka := ka) hcs9
        refine v_callV cb_0 hk_a7 (As := [.int l2]) (rest := []) hts9 yb_Jx4a65c_remove_915e3 kw_1289 kw_1290 kw_1291 rfl ⟨Nat.le_of_ble_eq_true rfl, Nat.le_of_ble_eq_true rfl⟩ rfl (cat_len (Nat.le_of_ble_eq_true rfl)) dX11_keepChosen_27 ?_
        have hk_l0 := tk_ hts9.1 hk_l0
        show v_ l D cy ka cX11_keepChosen RX11 3 none "keepChosen" 3 106 (qf_ D cy σ0 z none) σ0 z _ 30 [(0, va_rf (some l0)), (1, .int l1), (2, .int l2)] [va_rf r8]
        refine v_pop dX11_keepChosen_30 (va_rf_cat _) ?_
        refine v_sub [0, 1, 2] (L2 := [(0, va_rf (some l0)), (1, .int l1), (2, .int l2)]) rfl ?_
        exact t_X11_keepChosen_b31 hrec_10 hf
      · refine v_sub [0, 1, 2] (L2 := [(0, va_rf (some l0)), (1, .int l1), (2, .int l2)]) rfl ?_
        exact t_X11_keepChosen_b31 hrec_10 hf
/-- LivesAhead.keepChosen(I)V -/
def f_X11_keepChosen (σ : TH) (p0 : Nat) (p1 : Int32) : Option (Unit × TH) :=
  gt_ (kd_ σ p0 = 13) <| lt_ (fr_ σ 1218 p0) fun r1 => nn_ r1 fun a2 => gt_ (kd_ σ a2 = 1) <| bd_ (f_Jx4a65c_size_8abf5 σ a2) fun x3 s4 => lt_ (x3 - (1 : Int32)) fun x5 => f_X11_keepChosen_b10 fu_ s4 p0 p1 x5
set_option maxHeartbeats 4000000 in
set_option maxRecDepth 100000 in
theorem c_X11_keepChosen {l : Launch} {D : va_G} {cy : Nat → ClassId} {ka : Nat → Nat} {σ z : TH} {p0 : Nat} {p1 : Int32} {r : Unit} (hf : f_X11_keepChosen σ p0 p1 = some (r, z)) : ct_ l D cy ka yX11_keepChosen 3 106 [va_rf (some p0), .int p1] σ none z := by
  unfold f_X11_keepChosen at hf
  refine v_start (cc := cX11_keepChosen) (own := RX11) (maxL := 3) (ret := none) (nm := "keepChosen") (by decide +kernel) kw_1305 rfl rfl (by simp [lg_sl, va_rf_cat, cat_i, cat_l]) ?_
  refine v_eqL (L2 := [(0, va_rf (some p0)), (1, .int p1)]) (by simp [lv_args, va_rf_cat, cat_i, cat_l]) ?_
  refine v_aload_n (x := (some p0)) dX11_keepChosen_0 rfl 0 rfl ?_
  obtain ⟨hk_p0, hf⟩ := gt_of hf
  refine v_getr cb_12 hk_p0 18 1218 rfl (by decide) rfl (lk_n kw_257 rfl) hf dX11_keepChosen_1 (fun r1 hf => ?_)
  obtain ⟨a2, rfl, hf⟩ := nn_of hf
  obtain ⟨hk_a2, hf⟩ := gt_of hf
  obtain ⟨x3, s4, hcs4, hf⟩ := bd_of hf
  have hts4 := c_Jx4a65c_size_8abf5 (l := l) (D := D) (cy := cy) (ka := ka) hcs4
  refine v_callV cb_0 hk_a2 (As := []) (rest := []) hts4 yb_Jx4a65c_size_8abf5 kw_311 kw_312 kw_313 rfl ⟨Nat.le_of_ble_eq_true rfl, Nat.le_of_ble_eq_true rfl⟩ rfl (cat_len (Nat.le_of_ble_eq_true rfl)) dX11_keepChosen_4 ?_
  have hk_p0 := tk_ hts4.1 hk_p0
  show v_ l D cy ka cX11_keepChosen RX11 3 none "keepChosen" 3 106 (qf_ D cy σ z none) σ z _ 7 [(0, va_rf (some p0)), (1, .int p1)] [.int x3]
  refine v_iconst (v := 1) dX11_keepChosen_7 (by decide) ?_
  refine v_isub dX11_keepChosen_8 ?_
  obtain ⟨x5, ex5⟩ : ∃ y : Int32, y = x3 - (1 : Int32) := ⟨_, rfl⟩
  rw [lt_e, ← ex5] at hf
  rw [← ex5]
  refine v_istore_n [(2, .int x5), (0, va_rf (some p0)), (1, .int p1)] dX11_keepChosen_9 rfl (by decide) rfl ?_
  refine v_sub [1, 2, 0] (L2 := [(0, va_rf (some p0)), (1, .int p1), (2, .int x5)]) rfl ?_
  exact t_X11_keepChosen_b10  _ _ _ _ _ hf
theorem dX11_withdraw_0 : decode cX11_withdraw 0 = .ok (.iload_n 1, 1) := by decide +kernel
theorem dX11_withdraw_1 : decode cX11_withdraw 1 = .ok (.iconst 0, 1) := by decide +kernel
theorem dX11_withdraw_2 : decode cX11_withdraw 2 = .ok (.aload_n 0, 1) := by decide +kernel
theorem dX11_withdraw_3 : decode cX11_withdraw 3 = .ok (.getfield 22, 3) := by decide +kernel
theorem dX11_withdraw_6 : decode cX11_withdraw 6 = .ok (.invokevirtual 101, 3) := by decide +kernel
theorem dX11_withdraw_9 : decode cX11_withdraw 9 = .ok (.iconst 1, 1) := by decide +kernel
theorem dX11_withdraw_10 : decode cX11_withdraw 10 = .ok (.isub, 1) := by decide +kernel
theorem dX11_withdraw_11 : decode cX11_withdraw 11 = .ok (.invokestatic 93, 3) := by decide +kernel
theorem dX11_withdraw_14 : decode cX11_withdraw 14 = .ok (.ifCond .ne 9, 3) := by decide +kernel
theorem dX11_withdraw_17 : decode cX11_withdraw 17 = .ok (.aload_n 0, 1) := by decide +kernel
theorem dX11_withdraw_18 : decode cX11_withdraw 18 = .ok (.iconst 1, 1) := by decide +kernel
theorem dX11_withdraw_19 : decode cX11_withdraw 19 = .ok (.invokevirtual 121, 3) := by decide +kernel
theorem dX11_withdraw_22 : decode cX11_withdraw 22 = .ok (.ireturn, 1) := by decide +kernel
theorem dX11_withdraw_23 : decode cX11_withdraw 23 = .ok (.aload_n 0, 1) := by decide +kernel
theorem dX11_withdraw_24 : decode cX11_withdraw 24 = .ok (.getfield 22, 3) := by decide +kernel
theorem dX11_withdraw_27 : decode cX11_withdraw 27 = .ok (.iload_n 1, 1) := by decide +kernel
theorem dX11_withdraw_28 : decode cX11_withdraw 28 = .ok (.invokevirtual 238, 3) := by decide +kernel
theorem dX11_withdraw_31 : decode cX11_withdraw 31 = .ok (.checkcast 331, 3) := by decide +kernel
theorem dX11_withdraw_34 : decode cX11_withdraw 34 = .ok (.astore_n 2, 1) := by decide +kernel
theorem dX11_withdraw_35 : decode cX11_withdraw 35 = .ok (.aload_n 2, 1) := by decide +kernel
theorem dX11_withdraw_36 : decode cX11_withdraw 36 = .ok (.getfield 344, 3) := by decide +kernel
theorem dX11_withdraw_39 : decode cX11_withdraw 39 = .ok (.ifCond .eq 9, 3) := by decide +kernel
theorem dX11_withdraw_42 : decode cX11_withdraw 42 = .ok (.aload_n 0, 1) := by decide +kernel
theorem dX11_withdraw_43 : decode cX11_withdraw 43 = .ok (.iconst 5, 1) := by decide +kernel
theorem dX11_withdraw_44 : decode cX11_withdraw 44 = .ok (.invokevirtual 121, 3) := by decide +kernel
theorem dX11_withdraw_47 : decode cX11_withdraw 47 = .ok (.ireturn, 1) := by decide +kernel
theorem dX11_withdraw_48 : decode cX11_withdraw 48 = .ok (.aload_n 2, 1) := by decide +kernel
theorem dX11_withdraw_49 : decode cX11_withdraw 49 = .ok (.iconst 1, 1) := by decide +kernel
theorem dX11_withdraw_50 : decode cX11_withdraw 50 = .ok (.putfield 344, 3) := by decide +kernel
theorem dX11_withdraw_53 : decode cX11_withdraw 53 = .ok (.aload_n 0, 1) := by decide +kernel
theorem dX11_withdraw_54 : decode cX11_withdraw 54 = .ok (.invokevirtual 128, 3) := by decide +kernel
theorem dX11_withdraw_57 : decode cX11_withdraw 57 = .ok (.ireturn, 1) := by decide +kernel
/-- LivesAhead.withdraw(I)Z -/
def f_X11_withdraw (σ : TH) (p0 : Nat) (p1 : Int32) : Option (Int32 × TH) :=
  gt_ (kd_ σ p0 = 13) <| lt_ (fr_ σ 1203 p0) fun r1 => nn_ r1 fun a2 => gt_ (kd_ σ a2 = 1) <| bd_ (f_Jx4a65c_size_8abf5 σ a2) fun x3 s4 => bd_ (f_X11_within s4 p1 (0 : Int32) (x3 - (1 : Int32))) fun x5 s6 => if x5 = 0 then (bd_ (f_X11_denied s6 p0 (1 : Int32)) fun x7 s8 => gt_ (x7 = 0 ∨ x7 = 1) <| some (x7, s8)) else (lt_ (fr_ s6 1203 p0) fun r9 => nn_ r9 fun a10 => gt_ (kd_ s6 a10 = 1) <| bd_ (f_Jx4a65c_get_915e3 s6 a10 p1) fun r11 s12 => gt_ (Option.elim r11 9 (kd_ s12) = 9) <| nn_ r11 fun a13 => gt_ (kd_ s12 a13 = 9) <| lt_ (fi_ s12 809 a13) fun x14 => if x14 = 0 then (lt_ (si_ s12 809 a13 (1 : Int32)) fun s15 => bd_ (f_X11_allowed s15 p0) fun x16 s17 => gt_ (x16 = 0 ∨ x16 = 1) <| some (x16, s17)) else (bd_ (f_X11_denied s12 p0 (5 : Int32)) fun x18 s19 => gt_ (x18 = 0 ∨ x18 = 1) <| some (x18, s19)))
set_option maxHeartbeats 4000000 in
set_option maxRecDepth 100000 in
theorem c_X11_withdraw {l : Launch} {D : va_G} {cy : Nat → ClassId} {ka : Nat → Nat} {σ z : TH} {p0 : Nat} {p1 : Int32} {r : Int32} (hf : f_X11_withdraw σ p0 p1 = some (r, z)) : ct_ l D cy ka yX11_withdraw 3 64 [va_rf (some p0), .int p1] σ (some (.int r)) z := by
  unfold f_X11_withdraw at hf
  refine v_start (cc := cX11_withdraw) (own := RX11) (maxL := 3) (ret := (some FieldType.boolean)) (nm := "withdraw") (by decide +kernel) kw_1067 rfl rfl (by simp [lg_sl, va_rf_cat, cat_i, cat_l]) ?_
  refine v_eqL (L2 := [(0, va_rf (some p0)), (1, .int p1)]) (by simp [lv_args, va_rf_cat, cat_i, cat_l]) ?_
  refine v_iload_n (x := p1) dX11_withdraw_0 rfl 1 rfl ?_
  refine v_iconst (v := 0) dX11_withdraw_1 (by decide) ?_
  refine v_aload_n (x := (some p0)) dX11_withdraw_2 rfl 0 rfl ?_
  obtain ⟨hk_p0, hf⟩ := gt_of hf
  refine v_getr cb_12 hk_p0 3 1203 rfl (by decide) rfl (lk_n kw_242 rfl) hf dX11_withdraw_3 (fun r1 hf => ?_)
  obtain ⟨a2, rfl, hf⟩ := nn_of hf
  obtain ⟨hk_a2, hf⟩ := gt_of hf
  obtain ⟨x3, s4, hcs4, hf⟩ := bd_of hf
  have hts4 := c_Jx4a65c_size_8abf5 (l := l) (D := D) (cy := cy) (ka := ka) hcs4
  refine v_callV cb_0 hk_a2 (As := []) (rest := [.int (0 : Int32), .int p1]) hts4 yb_Jx4a65c_size_8abf5 kw_311 kw_312 kw_313 rfl ⟨Nat.le_of_ble_eq_true rfl, Nat.le_of_ble_eq_true rfl⟩ rfl (cat_len (Nat.le_of_ble_eq_true rfl)) dX11_withdraw_6 ?_
  have hk_p0 := tk_ hts4.1 hk_p0
  show v_ l D cy ka cX11_withdraw RX11 3 (some FieldType.boolean) "withdraw" 3 64 (qf_ D cy σ z (some (.int r))) σ z _ 9 [(0, va_rf (some p0)), (1, .int p1)] [.int x3, .int (0 : Int32), .int p1]
  refine v_iconst (v := 1) dX11_withdraw_9 (by decide) ?_
  refine v_isub dX11_withdraw_10 ?_
  obtain ⟨x5, s6, hcs6, hf⟩ := bd_of hf
  have hts6 := c_X11_within (l := l) (D := D) (cy := cy) (ka := ka) hcs6
  refine v_callS (As := [.int p1, .int (0 : Int32), .int (x3 - (1 : Int32))]) (rest := []) hts6 yb_X11_within kw_304 kw_305 rfl ⟨Nat.le_of_ble_eq_true rfl, Nat.le_of_ble_eq_true rfl⟩ rfl (cat_len (Nat.le_of_ble_eq_true rfl)) dX11_withdraw_11 ?_
  have hk_p0 := tk_ hts6.1 hk_p0
  show v_ l D cy ka cX11_withdraw RX11 3 (some FieldType.boolean) "withdraw" 3 64 (qf_ D cy σ z (some (.int r))) σ z _ 14 [(0, va_rf (some p0)), (1, .int p1)] [.int x5]
  refine v_if_ne (tgt := 23) hf dX11_withdraw_14 (by decide) (fun hq hf => ?_) (fun hq hf => ?_)
  · refine v_aload_n (x := (some p0)) dX11_withdraw_17 rfl 0 rfl ?_
    refine v_iconst (v := 1) dX11_withdraw_18 (by decide) ?_
    obtain ⟨x7, s8, hcs8, hf⟩ := bd_of hf
    have hts8 := c_X11_denied (l := l) (D := D) (cy := cy) (ka := ka) hcs8
    refine v_callV cb_12 hk_p0 (As := [.int (1 : Int32)]) (rest := []) hts8 yb_X11_denied kw_421 kw_423 kp_6 rfl ⟨Nat.le_of_ble_eq_true rfl, Nat.le_of_ble_eq_true rfl⟩ rfl (cat_len (Nat.le_of_ble_eq_true rfl)) dX11_withdraw_19 ?_
    have hk_p0 := tk_ hts8.1 hk_p0
    show v_ l D cy ka cX11_withdraw RX11 3 (some FieldType.boolean) "withdraw" 3 64 (qf_ D cy σ z (some (.int r))) σ z _ 22 [(0, va_rf (some p0)), (1, .int p1)] [.int x7]
    obtain ⟨hb9, hf⟩ := gt_of hf
    exact v_zret hf (nz_ hb9) dX11_withdraw_22
  · refine v_aload_n (x := (some p0)) dX11_withdraw_23 rfl 0 rfl ?_
    refine v_getr cb_12 hk_p0 3 1203 rfl (by decide) rfl (lk_n kw_242 rfl) hf dX11_withdraw_24 (fun r9 hf => ?_)
    refine v_iload_n (x := p1) dX11_withdraw_27 rfl 1 rfl ?_
    obtain ⟨a10, rfl, hf⟩ := nn_of hf
    obtain ⟨hk_a10, hf⟩ := gt_of hf
    obtain ⟨r11, s12, hcs12, hf⟩ := bd_of hf
    have hts12 := c_Jx4a65c_get_915e3 (l := l) (D := D) (cy := cy) (ka := ka) hcs12
    refine v_callV cb_0 hk_a10 (As := [.int p1]) (rest := []) hts12 yb_Jx4a65c_get_915e3 kw_407 kw_408 kw_409 rfl ⟨Nat.le_of_ble_eq_true rfl, Nat.le_of_ble_eq_true rfl⟩ rfl (cat_len (Nat.le_of_ble_eq_true rfl)) dX11_withdraw_28 ?_
    have hk_p0 := tk_ hts12.1 hk_p0
    show v_ l D cy ka cX11_withdraw RX11 3 (some FieldType.boolean) "withdraw" 3 64 (qf_ D cy σ z (some (.int r))) σ z _ 31 [(0, va_rf (some p0)), (1, .int p1)] [va_rf r11]
    refine v_cast cb_8 9 rfl kw_996 hf dX11_withdraw_31 (fun hf => ?_)
    refine v_astore_n [(2, va_rf r11), (0, va_rf (some p0)), (1, .int p1)] dX11_withdraw_34 rfl (by decide) rfl ?_
    refine v_aload_n (x := r11) dX11_withdraw_35 rfl 0 rfl ?_
    obtain ⟨a13, rfl, hf⟩ := nn_of hf
    obtain ⟨hk_a13, hf⟩ := gt_of hf
    refine v_geti cb_8 hk_a13 9 809 rfl (by decide) rfl (lk_n kw_1016 rfl) hf dX11_withdraw_36 (fun x14 hf => ?_)
    refine v_if_eq (tgt := 48) hf dX11_withdraw_39 (by decide) (fun hq hf => ?_) (fun hq hf => ?_)
    · refine v_aload_n (x := (some a13)) dX11_withdraw_48 rfl 0 rfl ?_
      refine v_iconst (v := 1) dX11_withdraw_49 (by decide) ?_
      refine v_puti2 cb_8 hk_a13 9 809 rfl (by decide) rfl (lk_n kw_1016 rfl) (Or.inl rfl) rfl rfl hf dX11_withdraw_50 (fun s15 hts15 hf => ?_)
      have hk_p0 := tk_ hts15 hk_p0
      have hk_a13 := tk_ hts15 hk_a13
      refine v_aload_n (x := (some p0)) dX11_withdraw_53 rfl 1 rfl ?_
      obtain ⟨x16, s17, hcs17, hf⟩ := bd_of hf
      have hts17 := c_X11_allowed (l := l) (D := D) (cy := cy) (ka := ka) hcs17
      refine v_callV cb_12 hk_p0 (As := []) (rest := []) hts17 yb_X11_allowed kw_425 kw_427 kp_7 rfl ⟨Nat.le_of_ble_eq_true rfl, Nat.le_of_ble_eq_true rfl⟩ rfl (cat_len (Nat.le_of_ble_eq_true rfl)) dX11_withdraw_54 ?_
      have hk_p0 := tk_ hts17.1 hk_p0
      have hk_a13 := tk_ hts17.1 hk_a13
      show v_ l D cy ka cX11_withdraw RX11 3 (some FieldType.boolean) "withdraw" 3 64 (qf_ D cy σ z (some (.int r))) σ z _ 57 [(2, va_rf (some a13)), (0, va_rf (some p0)), (1, .int p1)] [.int x16]
      obtain ⟨hb9, hf⟩ := gt_of hf
      exact v_zret hf (nz_ hb9) dX11_withdraw_57
    · refine v_aload_n (x := (some p0)) dX11_withdraw_42 rfl 1 rfl ?_
      refine v_iconst (v := 5) dX11_withdraw_43 (by decide) ?_
      obtain ⟨x18, s19, hcs19, hf⟩ := bd_of hf
      have hts19 := c_X11_denied (l := l) (D := D) (cy := cy) (ka := ka) hcs19
      refine v_callV cb_12 hk_p0 (As := [.int (5 : Int32)]) (rest := []) hts19 yb_X11_denied kw_421 kw_423 kp_6 rfl ⟨Nat.le_of_ble_eq_true rfl, Nat.le_of_ble_eq_true rfl⟩ rfl (cat_len (Nat.le_of_ble_eq_true rfl)) dX11_withdraw_44 ?_
      have hk_p0 := tk_ hts19.1 hk_p0
      have hk_a13 := tk_ hts19.1 hk_a13
      show v_ l D cy ka cX11_withdraw RX11 3 (some FieldType.boolean) "withdraw" 3 64 (qf_ D cy σ z (some (.int r))) σ z _ 47 [(2, va_rf (some a13)), (0, va_rf (some p0)), (1, .int p1)] [.int x18]
      obtain ⟨hb9, hf⟩ := gt_of hf
      exact v_zret hf (nz_ hb9) dX11_withdraw_47
theorem dX11_writer_0 : decode cX11_writer 0 = .ok (.iload_n 1, 1) := by decide +kernel
theorem dX11_writer_1 : decode cX11_writer 1 = .ok (.iconst 0, 1) := by decide +kernel
theorem dX11_writer_2 : decode cX11_writer 2 = .ok (.bipush 60, 2) := by decide +kernel
theorem dX11_writer_4 : decode cX11_writer 4 = .ok (.invokestatic 93, 3) := by decide +kernel
theorem dX11_writer_7 : decode cX11_writer 7 = .ok (.ifCond .ne 9, 3) := by decide +kernel
theorem dX11_writer_10 : decode cX11_writer 10 = .ok (.aload_n 0, 1) := by decide +kernel
theorem dX11_writer_11 : decode cX11_writer 11 = .ok (.iconst 2, 1) := by decide +kernel
theorem dX11_writer_12 : decode cX11_writer 12 = .ok (.invokevirtual 97, 3) := by decide +kernel
theorem dX11_writer_15 : decode cX11_writer 15 = .ok (.ireturn, 1) := by decide +kernel
theorem dX11_writer_16 : decode cX11_writer 16 = .ok (.aload_n 0, 1) := by decide +kernel
theorem dX11_writer_17 : decode cX11_writer 17 = .ok (.getfield 10, 3) := by decide +kernel
theorem dX11_writer_20 : decode cX11_writer 20 = .ok (.invokevirtual 101, 3) := by decide +kernel
theorem dX11_writer_23 : decode cX11_writer 23 = .ok (.bipush 6, 2) := by decide +kernel
theorem dX11_writer_25 : decode cX11_writer 25 = .ok (.if_icmp .lt 9, 3) := by decide +kernel
theorem dX11_writer_28 : decode cX11_writer 28 = .ok (.aload_n 0, 1) := by decide +kernel
theorem dX11_writer_29 : decode cX11_writer 29 = .ok (.iconst 3, 1) := by decide +kernel
theorem dX11_writer_30 : decode cX11_writer 30 = .ok (.invokevirtual 97, 3) := by decide +kernel
theorem dX11_writer_33 : decode cX11_writer 33 = .ok (.ireturn, 1) := by decide +kernel
theorem dX11_writer_34 : decode cX11_writer 34 = .ok (.aload_n 0, 1) := by decide +kernel
theorem dX11_writer_35 : decode cX11_writer 35 = .ok (.getfield 10, 3) := by decide +kernel
theorem dX11_writer_38 : decode cX11_writer 38 = .ok (.new 105, 3) := by decide +kernel
theorem dX11_writer_41 : decode cX11_writer 41 = .ok (.dup, 1) := by decide +kernel
theorem dX11_writer_42 : decode cX11_writer 42 = .ok (.iload_n 1, 1) := by decide +kernel
theorem dX11_writer_43 : decode cX11_writer 43 = .ok (.invokespecial 107, 3) := by decide +kernel
theorem dX11_writer_46 : decode cX11_writer 46 = .ok (.invokevirtual 110, 3) := by decide +kernel
theorem dX11_writer_49 : decode cX11_writer 49 = .ok (.pop, 1) := by decide +kernel
theorem dX11_writer_50 : decode cX11_writer 50 = .ok (.aload_n 0, 1) := by decide +kernel
theorem dX11_writer_51 : decode cX11_writer 51 = .ok (.aload_n 0, 1) := by decide +kernel
theorem dX11_writer_52 : decode cX11_writer 52 = .ok (.getfield 10, 3) := by decide +kernel
theorem dX11_writer_55 : decode cX11_writer 55 = .ok (.invokevirtual 101, 3) := by decide +kernel
theorem dX11_writer_58 : decode cX11_writer 58 = .ok (.iconst 1, 1) := by decide +kernel
theorem dX11_writer_59 : decode cX11_writer 59 = .ok (.isub, 1) := by decide +kernel
theorem dX11_writer_60 : decode cX11_writer 60 = .ok (.invokevirtual 114, 3) := by decide +kernel
theorem dX11_writer_63 : decode cX11_writer 63 = .ok (.ireturn, 1) := by decide +kernel
/-- LivesAhead.writer(I)I -/
def f_X11_writer (ka : Nat → Nat) (σ : TH) (p0 : Nat) (p1 : Int32) : Option (Int32 × TH) :=
  bd_ (f_X11_within σ p1 (0 : Int32) (60 : Int32)) fun x1 s2 => if x1 = 0 then (gt_ (kd_ s2 p0 = 13) <| bd_ (f_X11_refused s2 p0 (2 : Int32)) fun x3 s4 => some (x3, s4)) else (gt_ (kd_ s2 p0 = 13) <| lt_ (fr_ s2 1200 p0) fun r5 => nn_ r5 fun a6 => gt_ (kd_ s2 a6 = 1) <| bd_ (f_Jx4a65c_size_8abf5 s2 a6) fun x7 s8 => if x7 < (6 : Int32) then (lt_ (fr_ s8 1200 p0) fun r9 => gt_ (kd_ s8 (nx_ s8) = 0) <| lt_ (nx_ s8) fun a10 => lt_ (nw_ s8 12 0 2) fun s11 => bd_ (f_X10_init s11 a10 p1) fun x12 s13 => nn_ r9 fun a14 => gt_ (kd_ s13 a14 = 1) <| bd_ (f_Jx4a65c_add_9ea2d ka s13 a14 (some a10)) fun x15 s16 => lt_ (fr_ s16 1200 p0) fun r17 => nn_ r17 fun a18 => gt_ (kd_ s16 a18 = 1) <| bd_ (f_Jx4a65c_size_8abf5 s16 a18) fun x19 s20 => bd_ (f_X11_granted s20 p0 (x19 - (1 : Int32))) fun x21 s22 => some (x21, s22)) else (bd_ (f_X11_refused s8 p0 (3 : Int32)) fun x23 s24 => some (x23, s24)))
set_option maxHeartbeats 4000000 in
set_option maxRecDepth 100000 in
theorem c_X11_writer {l : Launch} {D : va_G} {cy : Nat → ClassId} {ka : Nat → Nat} {σ z : TH} {p0 : Nat} {p1 : Int32} {r : Int32} (hf : f_X11_writer ka σ p0 p1 = some (r, z)) : ct_ l D cy ka yX11_writer 7 191 [va_rf (some p0), .int p1] σ (some (.int r)) z := by
  unfold f_X11_writer at hf
  refine v_start (cc := cX11_writer) (own := RX11) (maxL := 2) (ret := (some FieldType.int)) (nm := "writer") (by decide +kernel) kw_303 rfl rfl (by simp [lg_sl, va_rf_cat, cat_i, cat_l]) ?_
  refine v_eqL (L2 := [(0, va_rf (some p0)), (1, .int p1)]) (by simp [lv_args, va_rf_cat, cat_i, cat_l]) ?_
  refine v_iload_n (x := p1) dX11_writer_0 rfl 1 rfl ?_
  refine v_iconst (v := 0) dX11_writer_1 (by decide) ?_
  refine v_bipush (v := 60) dX11_writer_2 (by decide) ?_
  obtain ⟨x1, s2, hcs2, hf⟩ := bd_of hf
  have hts2 := c_X11_within (l := l) (D := D) (cy := cy) (ka := ka) hcs2
  refine v_callS (As := [.int p1, .int (0 : Int32), .int (60 : Int32)]) (rest := []) hts2 yb_X11_within kw_304 kw_305 rfl ⟨Nat.le_of_ble_eq_true rfl, Nat.le_of_ble_eq_true rfl⟩ rfl (cat_len (Nat.le_of_ble_eq_true rfl)) dX11_writer_4 ?_
  show v_ l D cy ka cX11_writer RX11 2 (some FieldType.int) "writer" 7 191 (qf_ D cy σ z (some (.int r))) σ z _ 7 [(0, va_rf (some p0)), (1, .int p1)] [.int x1]
  refine v_if_ne (tgt := 16) hf dX11_writer_7 (by decide) (fun hq hf => ?_) (fun hq hf => ?_)
  · refine v_aload_n (x := (some p0)) dX11_writer_10 rfl 0 rfl ?_
    refine v_iconst (v := 2) dX11_writer_11 (by decide) ?_
    obtain ⟨hk_p0, hf⟩ := gt_of hf
    obtain ⟨x3, s4, hcs4, hf⟩ := bd_of hf
    have hts4 := c_X11_refused (l := l) (D := D) (cy := cy) (ka := ka) hcs4
    refine v_callV cb_12 hk_p0 (As := [.int (2 : Int32)]) (rest := []) hts4 yb_X11_refused kw_307 kw_309 kp_0 rfl ⟨Nat.le_of_ble_eq_true rfl, Nat.le_of_ble_eq_true rfl⟩ rfl (cat_len (Nat.le_of_ble_eq_true rfl)) dX11_writer_12 ?_
    have hk_p0 := tk_ hts4.1 hk_p0
    show v_ l D cy ka cX11_writer RX11 2 (some FieldType.int) "writer" 7 191 (qf_ D cy σ z (some (.int r))) σ z _ 15 [(0, va_rf (some p0)), (1, .int p1)] [.int x3]
    exact v_iret hf dX11_writer_15
  · refine v_aload_n (x := (some p0)) dX11_writer_16 rfl 0 rfl ?_
    obtain ⟨hk_p0, hf⟩ := gt_of hf
    refine v_getr cb_12 hk_p0 0 1200 rfl (by decide) rfl (lk_n kw_239 rfl) hf dX11_writer_17 (fun r5 hf => ?_)
    obtain ⟨a6, rfl, hf⟩ := nn_of hf
    obtain ⟨hk_a6, hf⟩ := gt_of hf
    obtain ⟨x7, s8, hcs8, hf⟩ := bd_of hf
    have hts8 := c_Jx4a65c_size_8abf5 (l := l) (D := D) (cy := cy) (ka := ka) hcs8
    refine v_callV cb_0 hk_a6 (As := []) (rest := []) hts8 yb_Jx4a65c_size_8abf5 kw_311 kw_312 kw_313 rfl ⟨Nat.le_of_ble_eq_true rfl, Nat.le_of_ble_eq_true rfl⟩ rfl (cat_len (Nat.le_of_ble_eq_true rfl)) dX11_writer_20 ?_
    have hk_p0 := tk_ hts8.1 hk_p0
    show v_ l D cy ka cX11_writer RX11 2 (some FieldType.int) "writer" 7 191 (qf_ D cy σ z (some (.int r))) σ z _ 23 [(0, va_rf (some p0)), (1, .int p1)] [.int x7]
    refine v_bipush (v := 6) dX11_writer_23 (by decide) ?_
    refine v_icmp_lt (tgt := 34) hf dX11_writer_25 (by decide) (fun hq hf => ?_) (fun hq hf => ?_)
    · refine v_aload_n (x := (some p0)) dX11_writer_34 rfl 0 rfl ?_
      refine v_getr cb_12 hk_p0 0 1200 rfl (by decide) rfl (lk_n kw_239 rfl) hf dX11_writer_35 (fun r9 hf => ?_)
      refine v_new2 cb_11 df_11 kw_315 kw_316 kw_14 12 rfl hf dX11_writer_38 (fun a10 s11 hts11 hk_a10 hf => ?_)
      have hk_p0 := tk_ hts11 hk_p0
      refine v_dup dX11_writer_41 (va_rf_cat _) ?_
      refine v_iload_n (x := p1) dX11_writer_42 rfl 1 rfl ?_
      obtain ⟨x12, s13, hcs13, hf⟩ := bd_of hf
      have hts13 := c_X10_init (l := l) (D := D) (cy := cy) (ka := ka) hcs13
      refine v_callI (As := [.int p1]) (rest := [va_rf (some a10), va_rf r9]) hts13 yb_X10_init kw_317 kw_318 rfl rfl ⟨Nat.le_of_ble_eq_true rfl, Nat.le_of_ble_eq_true rfl⟩ rfl (cat_len (Nat.le_of_ble_eq_true rfl)) dX11_writer_43 ?_
      have hk_p0 := tk_ hts13.1 hk_p0
      have hk_a10 := tk_ hts13.1 hk_a10
      show v_ l D cy ka cX11_writer RX11 2 (some FieldType.int) "writer" 7 191 (qf_ D cy σ z (some (.int r))) σ z _ 46 [(0, va_rf (some p0)), (1, .int p1)] [va_rf (some a10), va_rf r9]
      obtain ⟨a14, rfl, hf⟩ := nn_of hf
      obtain ⟨hk_a14, hf⟩ := gt_of hf
      obtain ⟨x15, s16, hcs16, hf⟩ := bd_of hf
      have hts16 := c_Jx4a65c_add_9ea2d (l := l) (D := D) (cy := cy) (ka := ka) hcs16
      refine v_callV cb_0 hk_a14 (As := [va_rf (some a10)]) (rest := []) hts16 yb_Jx4a65c_add_9ea2d kw_330 kw_331 kw_332 rfl ⟨Nat.le_of_ble_eq_true rfl, Nat.le_of_ble_eq_true rfl⟩ rfl (cat_len (Nat.le_of_ble_eq_true rfl)) dX11_writer_46 ?_
      have hk_p0 := tk_ hts16.1 hk_p0
      show v_ l D cy ka cX11_writer RX11 2 (some FieldType.int) "writer" 7 191 (qf_ D cy σ z (some (.int r))) σ z _ 49 [(0, va_rf (some p0)), (1, .int p1)] [.int x15]
      refine v_pop dX11_writer_49 rfl ?_
      refine v_aload_n (x := (some p0)) dX11_writer_50 rfl 0 rfl ?_
      refine v_aload_n (x := (some p0)) dX11_writer_51 rfl 0 rfl ?_
      refine v_getr cb_12 hk_p0 0 1200 rfl (by decide) rfl (lk_n kw_239 rfl) hf dX11_writer_52 (fun r17 hf => ?_)
      obtain ⟨a18, rfl, hf⟩ := nn_of hf
      obtain ⟨hk_a18, hf⟩ := gt_of hf
      obtain ⟨x19, s20, hcs20, hf⟩ := bd_of hf
      have hts20 := c_Jx4a65c_size_8abf5 (l := l) (D := D) (cy := cy) (ka := ka) hcs20
      refine v_callV cb_0 hk_a18 (As := []) (rest := [va_rf (some p0)]) hts20 yb_Jx4a65c_size_8abf5 kw_311 kw_312 kw_313 rfl ⟨Nat.le_of_ble_eq_true rfl, Nat.le_of_ble_eq_true rfl⟩ rfl (cat_len (Nat.le_of_ble_eq_true rfl)) dX11_writer_55 ?_
      have hk_p0 := tk_ hts20.1 hk_p0
      show v_ l D cy ka cX11_writer RX11 2 (some FieldType.int) "writer" 7 191 (qf_ D cy σ z (some (.int r))) σ z _ 58 [(0, va_rf (some p0)), (1, .int p1)] [.int x19, va_rf (some p0)]
      refine v_iconst (v := 1) dX11_writer_58 (by decide) ?_
      refine v_isub dX11_writer_59 ?_
      obtain ⟨x21, s22, hcs22, hf⟩ := bd_of hf
      have hts22 := c_X11_granted (l := l) (D := D) (cy := cy) (ka := ka) hcs22
      refine v_callV cb_12 hk_p0 (As := [.int (x19 - (1 : Int32))]) (rest := []) hts22 yb_X11_granted kw_395 kw_397 kp_4 rfl ⟨Nat.le_of_ble_eq_true rfl, Nat.le_of_ble_eq_true rfl⟩ rfl (cat_len (Nat.le_of_ble_eq_true rfl)) dX11_writer_60 ?_
      have hk_p0 := tk_ hts22.1 hk_p0
      show v_ l D cy ka cX11_writer RX11 2 (some FieldType.int) "writer" 7 191 (qf_ D cy σ z (some (.int r))) σ z _ 63 [(0, va_rf (some p0)), (1, .int p1)] [.int x21]
      exact v_iret hf dX11_writer_63
    · refine v_aload_n (x := (some p0)) dX11_writer_28 rfl 0 rfl ?_
      refine v_iconst (v := 3) dX11_writer_29 (by decide) ?_
      obtain ⟨x23, s24, hcs24, hf⟩ := bd_of hf
      have hts24 := c_X11_refused (l := l) (D := D) (cy := cy) (ka := ka) hcs24
      refine v_callV cb_12 hk_p0 (As := [.int (3 : Int32)]) (rest := []) hts24 yb_X11_refused kw_307 kw_309 kp_0 rfl ⟨Nat.le_of_ble_eq_true rfl, Nat.le_of_ble_eq_true rfl⟩ rfl (cat_len (Nat.le_of_ble_eq_true rfl)) dX11_writer_30 ?_
      have hk_p0 := tk_ hts24.1 hk_p0
      show v_ l D cy ka cX11_writer RX11 2 (some FieldType.int) "writer" 7 191 (qf_ D cy σ z (some (.int r))) σ z _ 33 [(0, va_rf (some p0)), (1, .int p1)] [.int x23]
      exact v_iret hf dX11_writer_33
theorem dX11_wrong_0 : decode cX11_wrong 0 = .ok (.aload_n 0, 1) := by decide +kernel
theorem dX11_wrong_1 : decode cX11_wrong 1 = .ok (.iload_n 1, 1) := by decide +kernel
theorem dX11_wrong_2 : decode cX11_wrong 2 = .ok (.invokevirtual 397, 3) := by decide +kernel
theorem dX11_wrong_5 : decode cX11_wrong 5 = .ok (.astore_n 2, 1) := by decide +kernel
theorem dX11_wrong_6 : decode cX11_wrong 6 = .ok (.aload_n 2, 1) := by decide +kernel
theorem dX11_wrong_7 : decode cX11_wrong 7 = .ok (.ifnonnull 5, 3) := by decide +kernel
theorem dX11_wrong_10 : decode cX11_wrong 10 = .ok (.iconst (-1), 1) := by decide +kernel
theorem dX11_wrong_11 : decode cX11_wrong 11 = .ok (.ireturn, 1) := by decide +kernel
theorem dX11_wrong_12 : decode cX11_wrong 12 = .ok (.iconst 0, 1) := by decide +kernel
theorem dX11_wrong_13 : decode cX11_wrong 13 = .ok (.istore_n 3, 1) := by decide +kernel
theorem dX11_wrong_14 : decode cX11_wrong 14 = .ok (.iconst 0, 1) := by decide +kernel
theorem dX11_wrong_15 : decode cX11_wrong 15 = .ok (.istore 4, 2) := by decide +kernel
theorem dX11_wrong_17 : decode cX11_wrong 17 = .ok (.iload 4, 2) := by decide +kernel
theorem dX11_wrong_19 : decode cX11_wrong 19 = .ok (.bipush 10, 2) := by decide +kernel
theorem dX11_wrong_21 : decode cX11_wrong 21 = .ok (.if_icmp .ge 26, 3) := by decide +kernel
theorem dX11_wrong_24 : decode cX11_wrong 24 = .ok (.aload_n 0, 1) := by decide +kernel
theorem dX11_wrong_25 : decode cX11_wrong 25 = .ok (.aload_n 2, 1) := by decide +kernel
theorem dX11_wrong_26 : decode cX11_wrong 26 = .ok (.iload 4, 2) := by decide +kernel
theorem dX11_wrong_28 : decode cX11_wrong 28 = .ok (.invokevirtual 414, 3) := by decide +kernel
theorem dX11_wrong_31 : decode cX11_wrong 31 = .ok (.ifCond .eq 10, 3) := by decide +kernel
theorem dX11_wrong_34 : decode cX11_wrong 34 = .ok (.iload_n 3, 1) := by decide +kernel
theorem dX11_wrong_35 : decode cX11_wrong 35 = .ok (.iconst 1, 1) := by decide +kernel
theorem dX11_wrong_36 : decode cX11_wrong 36 = .ok (.iload 4, 2) := by decide +kernel
theorem dX11_wrong_38 : decode cX11_wrong 38 = .ok (.ishl, 1) := by decide +kernel
theorem dX11_wrong_39 : decode cX11_wrong 39 = .ok (.ior, 1) := by decide +kernel
theorem dX11_wrong_40 : decode cX11_wrong 40 = .ok (.istore_n 3, 1) := by decide +kernel
theorem dX11_wrong_41 : decode cX11_wrong 41 = .ok (.iinc 4 1, 3) := by decide +kernel
theorem dX11_wrong_44 : decode cX11_wrong 44 = .ok (.goto (-27), 3) := by decide +kernel
theorem dX11_wrong_47 : decode cX11_wrong 47 = .ok (.iload_n 3, 1) := by decide +kernel
theorem dX11_wrong_48 : decode cX11_wrong 48 = .ok (.ireturn, 1) := by decide +kernel
def f_X11_wrong_b41 (rec_17 : TH → Nat → Option Nat → Int32 → Int32 → Option (Int32 × TH)) (σ : TH) (l0 : Nat) (l2 : Option Nat) (l3 : Int32) (l4 : Int32) : Option (Int32 × TH) :=
  lt_ (l4 + 1) fun x6 => rec_17 σ l0 l2 l3 x6
set_option maxHeartbeats 4000000 in
set_option maxRecDepth 100000 in
theorem t_X11_wrong_b41 {l : Launch} {D : va_G} {cy : Nat → ClassId} {ka : Nat → Nat} {σ0 z : TH} {r : Int32} {rec_17 : TH → Nat → Option Nat → Int32 → Int32 → Option (Int32 × TH)} (hrec_17 : ∀ (σ : TH) (l0 : Nat) (l2 : Option Nat) (l3 : Int32) (l4 : Int32), rec_17 σ l0 l2 l3 l4 = some (r, z) → v_ l D cy ka cX11_wrong RX11 5 (some FieldType.int) "wrong" 7 155 (qf_ D cy σ0 z (some (.int r))) σ0 z σ 17 [(0, va_rf (some l0)), (2, va_rf l2), (3, .int l3), (4, .int l4)] []) {σ : TH} {l0 : Nat} {l2 : Option Nat} {l3 : Int32} {l4 : Int32} (hf : f_X11_wrong_b41 rec_17 σ l0 l2 l3 l4 = some (r, z)) : v_ l D cy ka cX11_wrong RX11 5 (some FieldType.int) "wrong" 7 155 (qf_ D cy σ0 z (some (.int r))) σ0 z σ 41 [(0, va_rf (some l0)), (2, va_rf l2), (3, .int l3), (4, .int l4)] [] := by
  unfold f_X11_wrong_b41 at hf
  obtain ⟨x6, ex6⟩ : ∃ y : Int32, y = l4 + 1 := ⟨_, rfl⟩
  rw [lt_e, ← ex6] at hf
  refine v_iinc (v := x6) [(4, .int x6), (0, va_rf (some l0)), (2, va_rf l2), (3, .int l3)] dX11_wrong_41 3 rfl (by rw [ex6]; rfl) (by decide) rfl ?_
  refine v_goto (tgt := 17) dX11_wrong_44 (by decide) ?_
  refine v_sub [1, 2, 3, 0] (L2 := [(0, va_rf (some l0)), (2, va_rf l2), (3, .int l3), (4, .int x6)]) rfl ?_
  exact hrec_17 _ _ _ _ _ hf
def f_X11_wrong_b17 : Nat → TH → Nat → Option Nat → Int32 → Int32 → Option (Int32 × TH)
  | 0, _, _, _, _, _ => none
  | n + 1, σ, l0, l2, l3, l4 => if (10 : Int32) ≤ l4 then (some (l3, σ)) else (gt_ (kd_ σ l0 = 13) <| bd_ (f_X11_isWrong σ l0 l2 l4) fun x4 s5 => if x4 = 0 then (f_X11_wrong_b41 (f_X11_wrong_b17 n) s5 l0 l2 l3 l4) else (lt_ (l3 ||| ((1 : Int32) <<< (l4 &&& 31))) fun x7 => f_X11_wrong_b41 (f_X11_wrong_b17 n) s5 l0 l2 x7 l4))
set_option maxHeartbeats 4000000 in
set_option maxRecDepth 100000 in
theorem t_X11_wrong_b17 {l : Launch} {D : va_G} {cy : Nat → ClassId} {ka : Nat → Nat} {σ0 z : TH} {r : Int32}  : ∀ (n : Nat) (σ : TH) (l0 : Nat) (l2 : Option Nat) (l3 : Int32) (l4 : Int32), f_X11_wrong_b17 n σ l0 l2 l3 l4 = some (r, z) → v_ l D cy ka cX11_wrong RX11 5 (some FieldType.int) "wrong" 7 155 (qf_ D cy σ0 z (some (.int r))) σ0 z σ 17 [(0, va_rf (some l0)), (2, va_rf l2), (3, .int l3), (4, .int l4)] [] := by
  intro n
  induction n with
  | zero => intro σ l0 l2 l3 l4 hf; unfold f_X11_wrong_b17 at hf; cases hf
  | succ n ih =>
    intro σ l0 l2 l3 l4 hf
    unfold f_X11_wrong_b17 at hf
    have hrec_17 := ih
    refine v_iload (x := l4) dX11_wrong_17 3 rfl ?_
    refine v_bipush (v := 10) dX11_wrong_19 (by decide) ?_
    refine v_icmp_ge (tgt := 47) hf dX11_wrong_21 (by decide) (fun hq hf => ?_) (fun hq hf => ?_)
    · refine v_iload_n (x := l3) dX11_wrong_47 rfl 2 rfl ?_
      exact v_iret hf dX11_wrong_48
    · refine v_aload_n (x := (some l0)) dX11_wrong_24 rfl 0 rfl ?_
      refine v_aload_n (x := l2) dX11_wrong_25 rfl 1 rfl ?_
      refine v_iload (x := l4) dX11_wrong_26 3 rfl ?_
      obtain ⟨hk_l0, hf⟩ := gt_of hf
      obtain ⟨x4, s5, hcs5, hf⟩ := bd_of hf
      have hts5 := c_X11_isWrong (l := l) (D := D) (cy := cy) (ka := ka) hcs5
      refine v_callV cb_12 hk_l0 (As := [va_rf l2, .int l4]) (rest := []) hts5 yb_X11_isWrong kw_1251 kw_1253 kp_66 rfl ⟨Nat.le_of_ble_eq_true rfl, Nat.le_of_ble_eq_true rfl⟩ rfl (cat_len (Nat.le_of_ble_eq_true rfl)) dX11_wrong_28 ?_
      have hk_l0 := tk_ hts5.1 hk_l0
      show v_ l D cy ka cX11_wrong RX11 5 (some FieldType.int) "wrong" 7 155 (qf_ D cy σ0 z (some (.int r))) σ0 z _ 31 [(0, va_rf (some l0)), (2, va_rf l2), (3, .int l3), (4, .int l4)] [.int x4]
      refine v_if_eq (tgt := 41) hf dX11_wrong_31 (by decide) (fun hq hf => ?_) (fun hq hf => ?_)
      · refine v_sub [0, 1, 2, 3] (L2 := [(0, va_rf (some l0)), (2, va_rf l2), (3, .int l3), (4, .int l4)]) rfl ?_
        exact t_X11_wrong_b41 hrec_17 hf
      · refine v_iload_n (x := l3) dX11_wrong_34 rfl 2 rfl ?_
        refine v_iconst (v := 1) dX11_wrong_35 (by decide) ?_
        refine v_iload (x := l4) dX11_wrong_36 3 rfl ?_
        refine v_ishl dX11_wrong_38 ?_
        refine v_ior dX11_wrong_39 ?_
        obtain ⟨x7, ex7⟩ : ∃ y : Int32, y = l3 ||| ((1 : Int32) <<< (l4 &&& 31)) := ⟨_, rfl⟩
        rw [lt_e, ← ex7] at hf
        rw [← ex7]
        refine v_istore_n (i := 3) [(3, .int x7), (0, va_rf (some l0)), (2, va_rf l2), (4, .int l4)] dX11_wrong_40 rfl (by decide) (by simp [va_rf_cat, cat_i, cat_l]) ?_
        refine v_sub [1, 2, 0, 3] (L2 := [(0, va_rf (some l0)), (2, va_rf l2), (3, .int x7), (4, .int l4)]) rfl ?_
        exact t_X11_wrong_b41 hrec_17 hf
/-- LivesAhead.wrong(I)I -/
def f_X11_wrong (σ : TH) (p0 : Nat) (p1 : Int32) : Option (Int32 × TH) :=
  gt_ (kd_ σ p0 = 13) <| bd_ (f_X11_editionAt σ p0 p1) fun r1 s2 => oc_ r1 (some ((-1 : Int32), s2)) (fun a3 => f_X11_wrong_b17 fu_ s2 p0 (some a3) (0 : Int32) (0 : Int32))
set_option maxHeartbeats 4000000 in
set_option maxRecDepth 100000 in
theorem c_X11_wrong {l : Launch} {D : va_G} {cy : Nat → ClassId} {ka : Nat → Nat} {σ z : TH} {p0 : Nat} {p1 : Int32} {r : Int32} (hf : f_X11_wrong σ p0 p1 = some (r, z)) : ct_ l D cy ka yX11_wrong 7 155 [va_rf (some p0), .int p1] σ (some (.int r)) z := by
  unfold f_X11_wrong at hf
  refine v_start (cc := cX11_wrong) (own := RX11) (maxL := 5) (ret := (some FieldType.int)) (nm := "wrong") (by decide +kernel) kw_1250 rfl rfl (by simp [lg_sl, va_rf_cat, cat_i, cat_l]) ?_
  refine v_eqL (L2 := [(0, va_rf (some p0)), (1, .int p1)]) (by simp [lv_args, va_rf_cat, cat_i, cat_l]) ?_
  refine v_aload_n (x := (some p0)) dX11_wrong_0 rfl 0 rfl ?_
  refine v_iload_n (x := p1) dX11_wrong_1 rfl 1 rfl ?_
  obtain ⟨hk_p0, hf⟩ := gt_of hf
  obtain ⟨r1, s2, hcs2, hf⟩ := bd_of hf
  have hts2 := c_X11_editionAt (l := l) (D := D) (cy := cy) (ka := ka) hcs2
  refine v_callV cb_12 hk_p0 (As := [.int p1]) (rest := []) hts2 yb_X11_editionAt kw_1243 kw_1245 kp_65 rfl ⟨Nat.le_of_ble_eq_true rfl, Nat.le_of_ble_eq_true rfl⟩ rfl (cat_len (Nat.le_of_ble_eq_true rfl)) dX11_wrong_2 ?_
  have hk_p0 := tk_ hts2.1 hk_p0
  show v_ l D cy ka cX11_wrong RX11 5 (some FieldType.int) "wrong" 7 155 (qf_ D cy σ z (some (.int r))) σ z _ 5 [(0, va_rf (some p0)), (1, .int p1)] [va_rf r1]
  refine v_astore_n [(2, va_rf r1), (0, va_rf (some p0)), (1, .int p1)] dX11_wrong_5 rfl (by decide) rfl ?_
  refine v_aload_n (x := r1) dX11_wrong_6 rfl 0 rfl ?_
  refine v_ifnonnull2 (tgt := 12) hf dX11_wrong_7 (by decide) (fun e9 hf9 => ?_) (fun a3 e9 hf9 => ?_)
  · subst e9
    replace hf := hf9
    clear hf9
    refine v_iconst (v := (-1)) dX11_wrong_10 (by decide) ?_
    exact v_iret hf dX11_wrong_11
  · subst e9
    replace hf := hf9
    clear hf9
    refine v_iconst (v := 0) dX11_wrong_12 (by decide) ?_
    refine v_istore_n [(3, .int (0 : Int32)), (2, va_rf (some a3)), (0, va_rf (some p0)), (1, .int p1)] dX11_wrong_13 rfl (by decide) rfl ?_
    refine v_iconst (v := 0) dX11_wrong_14 (by decide) ?_
    refine v_istore [(4, .int (0 : Int32)), (3, .int (0 : Int32)), (2, va_rf (some a3)), (0, va_rf (some p0)), (1, .int p1)] dX11_wrong_15 (by decide) rfl ?_
    refine v_sub [3, 2, 1, 0] (L2 := [(0, va_rf (some p0)), (2, va_rf (some a3)), (3, .int (0 : Int32)), (4, .int (0 : Int32))]) rfl ?_
    exact t_X11_wrong_b17  _ _ _ _ _ _ hf
theorem dX15_wordOf_0 : decode cX15_wordOf 0 = .ok (.lconst 0, 1) := by decide +kernel
theorem dX15_wordOf_1 : decode cX15_wordOf 1 = .ok (.lstore_n 1, 1) := by decide +kernel
theorem dX15_wordOf_2 : decode cX15_wordOf 2 = .ok (.iconst 0, 1) := by decide +kernel
theorem dX15_wordOf_3 : decode cX15_wordOf 3 = .ok (.istore_n 3, 1) := by decide +kernel
theorem dX15_wordOf_4 : decode cX15_wordOf 4 = .ok (.iload_n 3, 1) := by decide +kernel
theorem dX15_wordOf_5 : decode cX15_wordOf 5 = .ok (.aload_n 0, 1) := by decide +kernel
theorem dX15_wordOf_6 : decode cX15_wordOf 6 = .ok (.invokevirtual 278, 3) := by decide +kernel
theorem dX15_wordOf_9 : decode cX15_wordOf 9 = .ok (.if_icmp .ge 27, 3) := by decide +kernel
theorem dX15_wordOf_12 : decode cX15_wordOf 12 = .ok (.ldc2_w 283, 3) := by decide +kernel
theorem dX15_wordOf_15 : decode cX15_wordOf 15 = .ok (.lload_n 1, 1) := by decide +kernel
theorem dX15_wordOf_16 : decode cX15_wordOf 16 = .ok (.lmul, 1) := by decide +kernel
theorem dX15_wordOf_17 : decode cX15_wordOf 17 = .ok (.aload_n 0, 1) := by decide +kernel
theorem dX15_wordOf_18 : decode cX15_wordOf 18 = .ok (.iload_n 3, 1) := by decide +kernel
theorem dX15_wordOf_19 : decode cX15_wordOf 19 = .ok (.invokevirtual 285, 3) := by decide +kernel
theorem dX15_wordOf_22 : decode cX15_wordOf 22 = .ok (.bipush 97, 2) := by decide +kernel
theorem dX15_wordOf_24 : decode cX15_wordOf 24 = .ok (.isub, 1) := by decide +kernel
theorem dX15_wordOf_25 : decode cX15_wordOf 25 = .ok (.iconst 1, 1) := by decide +kernel
theorem dX15_wordOf_26 : decode cX15_wordOf 26 = .ok (.iadd, 1) := by decide +kernel
theorem dX15_wordOf_27 : decode cX15_wordOf 27 = .ok (.i2l, 1) := by decide +kernel
theorem dX15_wordOf_28 : decode cX15_wordOf 28 = .ok (.ladd, 1) := by decide +kernel
theorem dX15_wordOf_29 : decode cX15_wordOf 29 = .ok (.lstore_n 1, 1) := by decide +kernel
theorem dX15_wordOf_30 : decode cX15_wordOf 30 = .ok (.iinc 3 1, 3) := by decide +kernel
theorem dX15_wordOf_33 : decode cX15_wordOf 33 = .ok (.goto (-29), 3) := by decide +kernel
theorem dX15_wordOf_36 : decode cX15_wordOf 36 = .ok (.lload_n 1, 1) := by decide +kernel
theorem dX15_wordOf_37 : decode cX15_wordOf 37 = .ok (.lreturn, 1) := by decide +kernel
def f_X15_wordOf_b4 : Nat → TH → Nat → Int64 → Int32 → Option (Int64 × TH)
  | 0, _, _, _, _ => none
  | n + 1, σ, l0, l1, l3 => gt_ (l0 < 18) <| bd_ (f_J0_length_8abf5 σ l0) fun x1 s2 => if x1 ≤ l3 then (some (l1, s2)) else (bd_ (f_J0_charAt_5068e s2 l0 l3) fun x3 s4 => lt_ (l3 + 1) fun x5 => (f_X15_wordOf_b4 n) s4 l0 (((32 : Int64) * l1) + (Int32.toInt64 ((x3 - (97 : Int32)) + (1 : Int32)))) x5)
set_option maxHeartbeats 4000000 in
set_option maxRecDepth 100000 in
theorem t_X15_wordOf_b4 {l : Launch} {D : va_G} {cy : Nat → ClassId} {ka : Nat → Nat} {σ0 z : TH} {r : Int64}  : ∀ (n : Nat) (σ : TH) (l0 : Nat) (l1 : Int64) (l3 : Int32), f_X15_wordOf_b4 n σ l0 l1 l3 = some (r, z) → v_ l D cy ka cX15_wordOf RX15 4 (some FieldType.long) "wordOf" 4 85 (qf_ D cy σ0 z (some (.long r))) σ0 z σ 4 [(0, va_rf (some (ka l0))), (1, .long l1), (3, .int l3)] [] := by
  intro n
  induction n with
  | zero => intro σ l0 l1 l3 hf; unfold f_X15_wordOf_b4 at hf; cases hf
  | succ n ih =>
    intro σ l0 l1 l3 hf
    unfold f_X15_wordOf_b4 at hf
    have hrec_4 := ih
    refine v_iload_n (x := l3) dX15_wordOf_4 rfl 2 rfl ?_
    refine v_aload_n (x := (some (ka l0))) dX15_wordOf_5 rfl 0 rfl ?_
    obtain ⟨h18_l0, hf⟩ := gt_of hf
    obtain ⟨x1, s2, hcs2, hf⟩ := bd_of hf
    have hts2 := c_J0_length_8abf5 (l := l) (D := D) (cy := cy) (ka := ka) hcs2
    refine v_callVS h18_l0 (As := []) (rest := [.int l3]) hts2 yb_J0_length_8abf5 kw_1918 kw_720 kw_721 rfl ⟨Nat.le_of_ble_eq_true rfl, Nat.le_of_ble_eq_true rfl⟩ rfl (cat_len (Nat.le_of_ble_eq_true rfl)) dX15_wordOf_6 ?_
    show v_ l D cy ka cX15_wordOf RX15 4 (some FieldType.long) "wordOf" 4 85 (qf_ D cy σ0 z (some (.long r))) σ0 z _ 9 [(0, va_rf (some (ka l0))), (1, .long l1), (3, .int l3)] [.int x1, .int l3]
    refine v_icmp_ge (tgt := 36) hf dX15_wordOf_9 (by decide) (fun hq hf => ?_) (fun hq hf => ?_)
    · refine v_lload_n (x := l1) dX15_wordOf_36 rfl 1 rfl ?_
      exact v_lret hf dX15_wordOf_37
    · refine v_ldc2 (v := 32) kw_1903 dX15_wordOf_12 ?_
      refine v_lload_n (x := l1) dX15_wordOf_15 rfl 1 rfl ?_
      refine v_lmul dX15_wordOf_16 ?_
      refine v_aload_n (x := (some (ka l0))) dX15_wordOf_17 rfl 0 rfl ?_
      refine v_iload_n (x := l3) dX15_wordOf_18 rfl 2 rfl ?_
      obtain ⟨x3, s4, hcs4, hf⟩ := bd_of hf
      have hts4 := c_J0_charAt_5068e (l := l) (D := D) (cy := cy) (ka := ka) hcs4
      refine v_callVS h18_l0 (As := [.int l3]) (rest := [.long ((32 : Int64) * l1)]) hts4 yb_J0_charAt_5068e kw_1919 kw_730 kw_731 rfl ⟨Nat.le_of_ble_eq_true rfl, Nat.le_of_ble_eq_true rfl⟩ rfl (cat_len (Nat.le_of_ble_eq_true rfl)) dX15_wordOf_19 ?_
      show v_ l D cy ka cX15_wordOf RX15 4 (some FieldType.long) "wordOf" 4 85 (qf_ D cy σ0 z (some (.long r))) σ0 z _ 22 [(0, va_rf (some (ka l0))), (1, .long l1), (3, .int l3)] [.int x3, .long ((32 : Int64) * l1)]
      refine v_bipush (v := 97) dX15_wordOf_22 (by decide) ?_
      refine v_isub dX15_wordOf_24 ?_
      refine v_iconst (v := 1) dX15_wordOf_25 (by decide) ?_
      refine v_iadd dX15_wordOf_26 ?_
      refine v_i2l dX15_wordOf_27 ?_
      refine v_ladd dX15_wordOf_28 ?_
      refine v_lstore_n [(1, .long (((32 : Int64) * l1) + (Int32.toInt64 ((x3 - (97 : Int32)) + (1 : Int32))))), (0, va_rf (some (ka l0))), (3, .int l3)] dX15_wordOf_29 rfl (by decide) rfl ?_
      obtain ⟨x5, ex5⟩ : ∃ y : Int32, y = l3 + 1 := ⟨_, rfl⟩
      rw [lt_e, ← ex5] at hf
      refine v_iinc (v := x5) [(3, .int x5), (1, .long (((32 : Int64) * l1) + (Int32.toInt64 ((x3 - (97 : Int32)) + (1 : Int32))))), (0, va_rf (some (ka l0)))] dX15_wordOf_30 2 rfl (by rw [ex5]; rfl) (by decide) rfl ?_
      refine v_goto (tgt := 4) dX15_wordOf_33 (by decide) ?_
      refine v_sub [2, 1, 0] (L2 := [(0, va_rf (some (ka l0))), (1, .long (((32 : Int64) * l1) + (Int32.toInt64 ((x3 - (97 : Int32)) + (1 : Int32))))), (3, .int x5)]) rfl ?_
      exact hrec_4 _ _ _ _ hf
/-- LivesAheadModel.wordOf(Ljava/lang/String;)J -/
def f_X15_wordOf (σ : TH) (p0 : Nat) : Option (Int64 × TH) :=
  f_X15_wordOf_b4 fu_ σ p0 (0 : Int64) (0 : Int32)
set_option maxHeartbeats 4000000 in
set_option maxRecDepth 100000 in
theorem c_X15_wordOf {l : Launch} {D : va_G} {cy : Nat → ClassId} {ka : Nat → Nat} {σ z : TH} {p0 : Nat} {r : Int64} (hf : f_X15_wordOf σ p0 = some (r, z)) : ct_ l D cy ka yX15_wordOf 4 85 [va_rf (some (ka p0))] σ (some (.long r)) z := by
  unfold f_X15_wordOf at hf
  refine v_start (cc := cX15_wordOf) (own := RX15) (maxL := 4) (ret := (some FieldType.long)) (nm := "wordOf") (by decide +kernel) kw_1917 rfl rfl (by simp [lg_sl, va_rf_cat, cat_i, cat_l]) ?_
  refine v_eqL (L2 := [(0, va_rf (some (ka p0)))]) (by simp [lv_args, va_rf_cat, cat_i, cat_l]) ?_
  refine v_lconst (v := 0) dX15_wordOf_0 (by decide) ?_
  refine v_lstore_n [(1, .long (0 : Int64)), (0, va_rf (some (ka p0)))] dX15_wordOf_1 rfl (by decide) rfl ?_
  refine v_iconst (v := 0) dX15_wordOf_2 (by decide) ?_
  refine v_istore_n [(3, .int (0 : Int32)), (1, .long (0 : Int64)), (0, va_rf (some (ka p0)))] dX15_wordOf_3 rfl (by decide) rfl ?_
  refine v_sub [2, 1, 0] (L2 := [(0, va_rf (some (ka p0))), (1, .long (0 : Int64)), (3, .int (0 : Int32))]) rfl ?_
  exact t_X15_wordOf_b4  _ _ _ _ _ hf
theorem dX15_isWord_0 : decode cX15_isWord 0 = .ok (.aload_n 0, 1) := by decide +kernel
theorem dX15_isWord_1 : decode cX15_isWord 1 = .ok (.getfield 296, 3) := by decide +kernel
theorem dX15_isWord_4 : decode cX15_isWord 4 = .ok (.iconst 2, 1) := by decide +kernel
theorem dX15_isWord_5 : decode cX15_isWord 5 = .ok (.if_icmp .ne 27, 3) := by decide +kernel
theorem dX15_isWord_8 : decode cX15_isWord 8 = .ok (.aload_n 0, 1) := by decide +kernel
theorem dX15_isWord_9 : decode cX15_isWord 9 = .ok (.getfield 309, 3) := by decide +kernel
theorem dX15_isWord_12 : decode cX15_isWord 12 = .ok (.iconst (-1), 1) := by decide +kernel
theorem dX15_isWord_13 : decode cX15_isWord 13 = .ok (.if_icmp .ne 19, 3) := by decide +kernel
theorem dX15_isWord_16 : decode cX15_isWord 16 = .ok (.aload_n 0, 1) := by decide +kernel
theorem dX15_isWord_17 : decode cX15_isWord 17 = .ok (.getfield 305, 3) := by decide +kernel
theorem dX15_isWord_20 : decode cX15_isWord 20 = .ok (.aload_n 1, 1) := by decide +kernel
theorem dX15_isWord_21 : decode cX15_isWord 21 = .ok (.invokestatic 321, 3) := by decide +kernel
theorem dX15_isWord_24 : decode cX15_isWord 24 = .ok (.lcmp, 1) := by decide +kernel
theorem dX15_isWord_25 : decode cX15_isWord 25 = .ok (.ifCond .ne 7, 3) := by decide +kernel
theorem dX15_isWord_28 : decode cX15_isWord 28 = .ok (.iconst 1, 1) := by decide +kernel
theorem dX15_isWord_29 : decode cX15_isWord 29 = .ok (.goto 4, 3) := by decide +kernel
theorem dX15_isWord_32 : decode cX15_isWord 32 = .ok (.iconst 0, 1) := by decide +kernel
theorem dX15_isWord_33 : decode cX15_isWord 33 = .ok (.ireturn, 1) := by decide +kernel
def f_X15_isWord_b33 (σ : TH) (t0 : Int32) : Option (Int32 × TH) :=
  gt_ (t0 = 0 ∨ t0 = 1) <| some (t0, σ)
set_option maxHeartbeats 4000000 in
set_option maxRecDepth 100000 in
theorem t_X15_isWord_b33 {l : Launch} {D : va_G} {cy : Nat → ClassId} {ka : Nat → Nat} {σ0 z : TH} {r : Int32}  {σ : TH} {t0 : Int32} (hf : f_X15_isWord_b33 σ t0 = some (r, z)) : v_ l D cy ka cX15_isWord RX15 2 (some FieldType.boolean) "isWord" 5 108 (qf_ D cy σ0 z (some (.int r))) σ0 z σ 33 [] [.int t0] := by
  unfold f_X15_isWord_b33 at hf
  obtain ⟨hb9, hf⟩ := gt_of hf
  exact v_zret hf (nz_ hb9) dX15_isWord_33
def f_X15_isWord_b32 (σ : TH) : Option (Int32 × TH) :=
  f_X15_isWord_b33 σ (0 : Int32)
set_option maxHeartbeats 4000000 in
set_option maxRecDepth 100000 in
theorem t_X15_isWord_b32 {l : Launch} {D : va_G} {cy : Nat → ClassId} {ka : Nat → Nat} {σ0 z : TH} {r : Int32}  {σ : TH}  (hf : f_X15_isWord_b32 σ  = some (r, z)) : v_ l D cy ka cX15_isWord RX15 2 (some FieldType.boolean) "isWord" 5 108 (qf_ D cy σ0 z (some (.int r))) σ0 z σ 32 [] [] := by
  unfold f_X15_isWord_b32 at hf
  refine v_iconst (v := 0) dX15_isWord_32 (by decide) ?_
  refine v_sub [] (L2 := []) rfl ?_
  exact t_X15_isWord_b33  hf
/-- LivesAheadModel.isWord(Ljava/lang/String;)Z -/
def f_X15_isWord (σ : TH) (p0 : Nat) (p1 : Nat) : Option (Int32 × TH) :=
  gt_ (kd_ σ p0 = 17) <| lt_ (fi_ σ 1633 p0) fun x1 => if x1 = (2 : Int32) then (lt_ (fi_ σ 1637 p0) fun x2 => if x2 = (-1 : Int32) then (lt_ (fl_ σ 1646 p0) fun x3 => bd_ (f_X15_wordOf σ p1) fun x4 s5 => if (lg_cmp x3 x4) = 0 then (f_X15_isWord_b33 s5 (1 : Int32)) else (f_X15_isWord_b32 s5 )) else (f_X15_isWord_b32 σ )) else (f_X15_isWord_b32 σ )
set_option maxHeartbeats 4000000 in
set_option maxRecDepth 100000 in
theorem c_X15_isWord {l : Launch} {D : va_G} {cy : Nat → ClassId} {ka : Nat → Nat} {σ z : TH} {p0 : Nat} {p1 : Nat} {r : Int32} (hf : f_X15_isWord σ p0 p1 = some (r, z)) : ct_ l D cy ka yX15_isWord 5 108 [va_rf (some p0), va_rf (some (ka p1))] σ (some (.int r)) z := by
  unfold f_X15_isWord at hf
  refine v_start (cc := cX15_isWord) (own := RX15) (maxL := 2) (ret := (some FieldType.boolean)) (nm := "isWord") (by decide +kernel) kw_1914 rfl rfl (by simp [lg_sl, va_rf_cat, cat_i, cat_l]) ?_
  refine v_eqL (L2 := [(0, va_rf (some p0)), (1, va_rf (some (ka p1)))]) (by simp [lv_args, va_rf_cat, cat_i, cat_l]) ?_
  refine v_aload_n (x := (some p0)) dX15_isWord_0 rfl 0 rfl ?_
  obtain ⟨hk_p0, hf⟩ := gt_of hf
  refine v_geti cb_16 hk_p0 33 1633 rfl (by decide) rfl (lk_n kw_1490 rfl) hf dX15_isWord_1 (fun x1 hf => ?_)
  refine v_iconst (v := 2) dX15_isWord_4 (by decide) ?_
  refine v_icmp_ne (tgt := 32) hf dX15_isWord_5 (by decide) (fun hq hf => ?_) (fun hq hf => ?_)
  · refine v_aload_n (x := (some p0)) dX15_isWord_8 rfl 0 rfl ?_
    refine v_geti cb_16 hk_p0 37 1637 rfl (by decide) rfl (lk_n kw_1494 rfl) hf dX15_isWord_9 (fun x2 hf => ?_)
    refine v_iconst (v := (-1)) dX15_isWord_12 (by decide) ?_
    refine v_icmp_ne (tgt := 32) hf dX15_isWord_13 (by decide) (fun hq hf => ?_) (fun hq hf => ?_)
    · refine v_aload_n (x := (some p0)) dX15_isWord_16 rfl 0 rfl ?_
      refine v_getl cb_16 hk_p0 46 1646 rfl (by decide) rfl (lk_n kw_1503 rfl) hf dX15_isWord_17 (fun x3 hf => ?_)
      refine v_aload_n (x := (some (ka p1))) dX15_isWord_20 rfl 1 rfl ?_
      obtain ⟨x4, s5, hcs5, hf⟩ := bd_of hf
      have hts5 := c_X15_wordOf (l := l) (D := D) (cy := cy) (ka := ka) hcs5
      refine v_callS (As := [va_rf (some (ka p1))]) (rest := [.long x3]) hts5 yb_X15_wordOf kw_1915 kw_1916 rfl ⟨Nat.le_of_ble_eq_true rfl, Nat.le_of_ble_eq_true rfl⟩ rfl (cat_len (Nat.le_of_ble_eq_true rfl)) dX15_isWord_21 ?_
      have hk_p0 := tk_ hts5.1 hk_p0
      show v_ l D cy ka cX15_isWord RX15 2 (some FieldType.boolean) "isWord" 5 108 (qf_ D cy σ z (some (.int r))) σ z _ 24 [(0, va_rf (some p0)), (1, va_rf (some (ka p1)))] [.long x4, .long x3]
      refine v_lcmp dX15_isWord_24 ?_
      refine v_if_ne (tgt := 32) hf dX15_isWord_25 (by decide) (fun hq hf => ?_) (fun hq hf => ?_)
      · refine v_iconst (v := 1) dX15_isWord_28 (by decide) ?_
        refine v_goto (tgt := 33) dX15_isWord_29 (by decide) ?_
        refine v_sub [] (L2 := []) rfl ?_
        exact t_X15_isWord_b33  hf
      · refine v_sub [] (L2 := []) rfl ?_
        exact t_X15_isWord_b32  hf
    · refine v_sub [] (L2 := []) rfl ?_
      exact t_X15_isWord_b32  hf
  · refine v_sub [] (L2 := []) rfl ?_
    exact t_X15_isWord_b32  hf
theorem dX15_isKept_0 : decode cX15_isKept 0 = .ok (.aload_n 0, 1) := by decide +kernel
theorem dX15_isKept_1 : decode cX15_isKept 1 = .ok (.ldc_w 355, 3) := by decide +kernel
theorem dX15_isKept_4 : decode cX15_isKept 4 = .ok (.invokevirtual 357, 3) := by decide +kernel
theorem dX15_isKept_7 : decode cX15_isKept 7 = .ok (.ifCond .ne 63, 3) := by decide +kernel
theorem dX15_isKept_10 : decode cX15_isKept 10 = .ok (.aload_n 0, 1) := by decide +kernel
theorem dX15_isKept_11 : decode cX15_isKept 11 = .ok (.ldc_w 379, 3) := by decide +kernel
theorem dX15_isKept_14 : decode cX15_isKept 14 = .ok (.invokevirtual 357, 3) := by decide +kernel
theorem dX15_isKept_17 : decode cX15_isKept 17 = .ok (.ifCond .ne 53, 3) := by decide +kernel
theorem dX15_isKept_20 : decode cX15_isKept 20 = .ok (.aload_n 0, 1) := by decide +kernel
theorem dX15_isKept_21 : decode cX15_isKept 21 = .ok (.ldc_w 381, 3) := by decide +kernel
theorem dX15_isKept_24 : decode cX15_isKept 24 = .ok (.invokevirtual 357, 3) := by decide +kernel
theorem dX15_isKept_27 : decode cX15_isKept 27 = .ok (.ifCond .ne 43, 3) := by decide +kernel
theorem dX15_isKept_30 : decode cX15_isKept 30 = .ok (.aload_n 0, 1) := by decide +kernel
theorem dX15_isKept_31 : decode cX15_isKept 31 = .ok (.ldc_w 383, 3) := by decide +kernel
theorem dX15_isKept_34 : decode cX15_isKept 34 = .ok (.invokevirtual 357, 3) := by decide +kernel
theorem dX15_isKept_37 : decode cX15_isKept 37 = .ok (.ifCond .ne 33, 3) := by decide +kernel
theorem dX15_isKept_40 : decode cX15_isKept 40 = .ok (.aload_n 0, 1) := by decide +kernel
theorem dX15_isKept_41 : decode cX15_isKept 41 = .ok (.ldc_w 392, 3) := by decide +kernel
theorem dX15_isKept_44 : decode cX15_isKept 44 = .ok (.invokevirtual 357, 3) := by decide +kernel
theorem dX15_isKept_47 : decode cX15_isKept 47 = .ok (.ifCond .ne 23, 3) := by decide +kernel
theorem dX15_isKept_50 : decode cX15_isKept 50 = .ok (.aload_n 0, 1) := by decide +kernel
theorem dX15_isKept_51 : decode cX15_isKept 51 = .ok (.ldc_w 394, 3) := by decide +kernel
theorem dX15_isKept_54 : decode cX15_isKept 54 = .ok (.invokevirtual 357, 3) := by decide +kernel
theorem dX15_isKept_57 : decode cX15_isKept 57 = .ok (.ifCond .ne 13, 3) := by decide +kernel
theorem dX15_isKept_60 : decode cX15_isKept 60 = .ok (.aload_n 0, 1) := by decide +kernel
theorem dX15_isKept_61 : decode cX15_isKept 61 = .ok (.ldc_w 411, 3) := by decide +kernel
theorem dX15_isKept_64 : decode cX15_isKept 64 = .ok (.invokevirtual 357, 3) := by decide +kernel
theorem dX15_isKept_67 : decode cX15_isKept 67 = .ok (.ifCond .eq 7, 3) := by decide +kernel
theorem dX15_isKept_70 : decode cX15_isKept 70 = .ok (.iconst 1, 1) := by decide +kernel
theorem dX15_isKept_71 : decode cX15_isKept 71 = .ok (.goto 4, 3) := by decide +kernel
theorem dX15_isKept_74 : decode cX15_isKept 74 = .ok (.iconst 0, 1) := by decide +kernel
theorem dX15_isKept_75 : decode cX15_isKept 75 = .ok (.ireturn, 1) := by decide +kernel
def f_X15_isKept_b75 (σ : TH) (t0 : Int32) : Option (Int32 × TH) :=
  gt_ (t0 = 0 ∨ t0 = 1) <| some (t0, σ)
set_option maxHeartbeats 4000000 in
set_option maxRecDepth 100000 in
theorem t_X15_isKept_b75 {l : Launch} {D : va_G} {cy : Nat → ClassId} {ka : Nat → Nat} {σ0 z : TH} {r : Int32}  {σ : TH} {t0 : Int32} (hf : f_X15_isKept_b75 σ t0 = some (r, z)) : v_ l D cy ka cX15_isKept RX15 1 (some FieldType.boolean) "isKept" 6 129 (qf_ D cy σ0 z (some (.int r))) σ0 z σ 75 [] [.int t0] := by
  unfold f_X15_isKept_b75 at hf
  obtain ⟨hb9, hf⟩ := gt_of hf
  exact v_zret hf (nz_ hb9) dX15_isKept_75
def f_X15_isKept_b70 (σ : TH) : Option (Int32 × TH) :=
  f_X15_isKept_b75 σ (1 : Int32)
set_option maxHeartbeats 4000000 in
set_option maxRecDepth 100000 in
theorem t_X15_isKept_b70 {l : Launch} {D : va_G} {cy : Nat → ClassId} {ka : Nat → Nat} {σ0 z : TH} {r : Int32}  {σ : TH}  (hf : f_X15_isKept_b70 σ  = some (r, z)) : v_ l D cy ka cX15_isKept RX15 1 (some FieldType.boolean) "isKept" 6 129 (qf_ D cy σ0 z (some (.int r))) σ0 z σ 70 [] [] := by
  unfold f_X15_isKept_b70 at hf
  refine v_iconst (v := 1) dX15_isKept_70 (by decide) ?_
  refine v_goto (tgt := 75) dX15_isKept_71 (by decide) ?_
  refine v_sub [] (L2 := []) rfl ?_
  exact t_X15_isKept_b75  hf
/-- LivesAheadModel.isKept()Z -/
def f_X15_isKept (σ : TH) (p0 : Nat) : Option (Int32 × TH) :=
  gt_ (kd_ σ p0 = 17) <| bd_ (f_X15_isWord σ p0 0) fun x1 s2 => if x1 = 0 then (bd_ (f_X15_isWord s2 p0 2) fun x3 s4 => if x3 = 0 then (bd_ (f_X15_isWord s4 p0 1) fun x5 s6 => if x5 = 0 then (bd_ (f_X15_isWord s6 p0 3) fun x7 s8 => if x7 = 0 then (bd_ (f_X15_isWord s8 p0 4) fun x9 s10 => if x9 = 0 then (bd_ (f_X15_isWord s10 p0 10) fun x11 s12 => if x11 = 0 then (bd_ (f_X15_isWord s12 p0 7) fun x13 s14 => if x13 = 0 then (f_X15_isKept_b75 s14 (0 : Int32)) else (f_X15_isKept_b70 s14 )) else (f_X15_isKept_b70 s12 )) else (f_X15_isKept_b70 s10 )) else (f_X15_isKept_b70 s8 )) else (f_X15_isKept_b70 s6 )) else (f_X15_isKept_b70 s4 )) else (f_X15_isKept_b70 s2 )
set_option maxHeartbeats 4000000 in
set_option maxRecDepth 100000 in
theorem c_X15_isKept {l : Launch} {D : va_G} {cy : Nat → ClassId} {ka : Nat → Nat} {σ z : TH} {p0 : Nat} {r : Int32} (hf : f_X15_isKept σ p0 = some (r, z)) : ct_ l D cy ka yX15_isKept 6 129 [va_rf (some p0)] σ (some (.int r)) z := by
  unfold f_X15_isKept at hf
  refine v_start (cc := cX15_isKept) (own := RX15) (maxL := 1) (ret := (some FieldType.boolean)) (nm := "isKept") (by decide +kernel) kw_1931 rfl rfl (by simp [lg_sl, va_rf_cat, cat_i, cat_l]) ?_
  refine v_eqL (L2 := [(0, va_rf (some p0))]) (by simp [lv_args, va_rf_cat, cat_i, cat_l]) ?_
  refine v_aload_n (x := (some p0)) dX15_isKept_0 rfl 0 rfl ?_
  refine v_ldcwS (tx := "if") (n := 0) (by decide) dX15_isKept_1 ?_
  obtain ⟨hk_p0, hf⟩ := gt_of hf
  obtain ⟨x1, s2, hcs2, hf⟩ := bd_of hf
  have hts2 := c_X15_isWord (l := l) (D := D) (cy := cy) (ka := ka) hcs2
  refine v_callV cb_16 hk_p0 (As := [va_rf (some (ka 0))]) (rest := []) hts2 yb_X15_isWord kw_1911 kw_1913 kp_102 rfl ⟨Nat.le_of_ble_eq_true rfl, Nat.le_of_ble_eq_true rfl⟩ rfl (cat_len (Nat.le_of_ble_eq_true rfl)) dX15_isKept_4 ?_
  have hk_p0 := tk_ hts2.1 hk_p0
  show v_ l D cy ka cX15_isKept RX15 1 (some FieldType.boolean) "isKept" 6 129 (qf_ D cy σ z (some (.int r))) σ z _ 7 [(0, va_rf (some p0))] [.int x1]
  refine v_if_ne (tgt := 70) hf dX15_isKept_7 (by decide) (fun hq hf => ?_) (fun hq hf => ?_)
  · refine v_aload_n (x := (some p0)) dX15_isKept_10 rfl 0 rfl ?_
    refine v_ldcwS (tx := "and") (n := 2) (by decide) dX15_isKept_11 ?_
    obtain ⟨x3, s4, hcs4, hf⟩ := bd_of hf
    have hts4 := c_X15_isWord (l := l) (D := D) (cy := cy) (ka := ka) hcs4
    refine v_callV cb_16 hk_p0 (As := [va_rf (some (ka 2))]) (rest := []) hts4 yb_X15_isWord kw_1911 kw_1913 kp_102 rfl ⟨Nat.le_of_ble_eq_true rfl, Nat.le_of_ble_eq_true rfl⟩ rfl (cat_len (Nat.le_of_ble_eq_true rfl)) dX15_isKept_14 ?_
    have hk_p0 := tk_ hts4.1 hk_p0
    show v_ l D cy ka cX15_isKept RX15 1 (some FieldType.boolean) "isKept" 6 129 (qf_ D cy σ z (some (.int r))) σ z _ 17 [(0, va_rf (some p0))] [.int x3]
    refine v_if_ne (tgt := 70) hf dX15_isKept_17 (by decide) (fun hq hf => ?_) (fun hq hf => ?_)
    · refine v_aload_n (x := (some p0)) dX15_isKept_20 rfl 0 rfl ?_
      refine v_ldcwS (tx := "or") (n := 1) (by decide) dX15_isKept_21 ?_
      obtain ⟨x5, s6, hcs6, hf⟩ := bd_of hf
      have hts6 := c_X15_isWord (l := l) (D := D) (cy := cy) (ka := ka) hcs6
      refine v_callV cb_16 hk_p0 (As := [va_rf (some (ka 1))]) (rest := []) hts6 yb_X15_isWord kw_1911 kw_1913 kp_102 rfl ⟨Nat.le_of_ble_eq_true rfl, Nat.le_of_ble_eq_true rfl⟩ rfl (cat_len (Nat.le_of_ble_eq_true rfl)) dX15_isKept_24 ?_
      have hk_p0 := tk_ hts6.1 hk_p0
      show v_ l D cy ka cX15_isKept RX15 1 (some FieldType.boolean) "isKept" 6 129 (qf_ D cy σ z (some (.int r))) σ z _ 27 [(0, va_rf (some p0))] [.int x5]
      refine v_if_ne (tgt := 70) hf dX15_isKept_27 (by decide) (fun hq hf => ?_) (fun hq hf => ?_)
      · refine v_aload_n (x := (some p0)) dX15_isKept_30 rfl 0 rfl ?_
        refine v_ldcwS (tx := "not") (n := 3) (by decide) dX15_isKept_31 ?_
        obtain ⟨x7, s8, hcs8, hf⟩ := bd_of hf
        have hts8 := c_X15_isWord (l := l) (D := D) (cy := cy) (ka := ka) hcs8
        refine v_callV cb_16 hk_p0 (As := [va_rf (some (ka 3))]) (rest := []) hts8 yb_X15_isWord kw_1911 kw_1913 kp_102 rfl ⟨Nat.le_of_ble_eq_true rfl, Nat.le_of_ble_eq_true rfl⟩ rfl (cat_len (Nat.le_of_ble_eq_true rfl)) dX15_isKept_34 ?_
        have hk_p0 := tk_ hts8.1 hk_p0
        show v_ l D cy ka cX15_isKept RX15 1 (some FieldType.boolean) "isKept" 6 129 (qf_ D cy σ z (some (.int r))) σ z _ 37 [(0, va_rf (some p0))] [.int x7]
        refine v_if_ne (tgt := 70) hf dX15_isKept_37 (by decide) (fun hq hf => ?_) (fun hq hf => ?_)
        · refine v_aload_n (x := (some p0)) dX15_isKept_40 rfl 0 rfl ?_
          refine v_ldcwS (tx := "has") (n := 4) (by decide) dX15_isKept_41 ?_
          obtain ⟨x9, s10, hcs10, hf⟩ := bd_of hf
          have hts10 := c_X15_isWord (l := l) (D := D) (cy := cy) (ka := ka) hcs10
          refine v_callV cb_16 hk_p0 (As := [va_rf (some (ka 4))]) (rest := []) hts10 yb_X15_isWord kw_1911 kw_1913 kp_102 rfl ⟨Nat.le_of_ble_eq_true rfl, Nat.le_of_ble_eq_true rfl⟩ rfl (cat_len (Nat.le_of_ble_eq_true rfl)) dX15_isKept_44 ?_
          have hk_p0 := tk_ hts10.1 hk_p0
          show v_ l D cy ka cX15_isKept RX15 1 (some FieldType.boolean) "isKept" 6 129 (qf_ D cy σ z (some (.int r))) σ z _ 47 [(0, va_rf (some p0))] [.int x9]
          refine v_if_ne (tgt := 70) hf dX15_isKept_47 (by decide) (fun hq hf => ?_) (fun hq hf => ?_)
          · refine v_aload_n (x := (some p0)) dX15_isKept_50 rfl 0 rfl ?_
            refine v_ldcwS (tx := "stale") (n := 10) (by decide) dX15_isKept_51 ?_
            obtain ⟨x11, s12, hcs12, hf⟩ := bd_of hf
            have hts12 := c_X15_isWord (l := l) (D := D) (cy := cy) (ka := ka) hcs12
            refine v_callV cb_16 hk_p0 (As := [va_rf (some (ka 10))]) (rest := []) hts12 yb_X15_isWord kw_1911 kw_1913 kp_102 rfl ⟨Nat.le_of_ble_eq_true rfl, Nat.le_of_ble_eq_true rfl⟩ rfl (cat_len (Nat.le_of_ble_eq_true rfl)) dX15_isKept_54 ?_
            have hk_p0 := tk_ hts12.1 hk_p0
            show v_ l D cy ka cX15_isKept RX15 1 (some FieldType.boolean) "isKept" 6 129 (qf_ D cy σ z (some (.int r))) σ z _ 57 [(0, va_rf (some p0))] [.int x11]
            refine v_if_ne (tgt := 70) hf dX15_isKept_57 (by decide) (fun hq hf => ?_) (fun hq hf => ?_)
            · refine v_aload_n (x := (some p0)) dX15_isKept_60 rfl 0 rfl ?_
              refine v_ldcwS (tx := "dead") (n := 7) (by decide) dX15_isKept_61 ?_
              obtain ⟨x13, s14, hcs14, hf⟩ := bd_of hf
              have hts14 := c_X15_isWord (l := l) (D := D) (cy := cy) (ka := ka) hcs14
              refine v_callV cb_16 hk_p0 (As := [va_rf (some (ka 7))]) (rest := []) hts14 yb_X15_isWord kw_1911 kw_1913 kp_102 rfl ⟨Nat.le_of_ble_eq_true rfl, Nat.le_of_ble_eq_true rfl⟩ rfl (cat_len (Nat.le_of_ble_eq_true rfl)) dX15_isKept_64 ?_
              have hk_p0 := tk_ hts14.1 hk_p0
              show v_ l D cy ka cX15_isKept RX15 1 (some FieldType.boolean) "isKept" 6 129 (qf_ D cy σ z (some (.int r))) σ z _ 67 [(0, va_rf (some p0))] [.int x13]
              refine v_if_eq (tgt := 74) hf dX15_isKept_67 (by decide) (fun hq hf => ?_) (fun hq hf => ?_)
              · refine v_iconst (v := 0) dX15_isKept_74 (by decide) ?_
                refine v_sub [] (L2 := []) rfl ?_
                exact t_X15_isKept_b75  hf
              · refine v_sub [] (L2 := []) rfl ?_
                exact t_X15_isKept_b70  hf
            · refine v_sub [] (L2 := []) rfl ?_
              exact t_X15_isKept_b70  hf
          · refine v_sub [] (L2 := []) rfl ?_
            exact t_X15_isKept_b70  hf
        · refine v_sub [] (L2 := []) rfl ?_
          exact t_X15_isKept_b70  hf
      · refine v_sub [] (L2 := []) rfl ?_
        exact t_X15_isKept_b70  hf
    · refine v_sub [] (L2 := []) rfl ?_
      exact t_X15_isKept_b70  hf
  · refine v_sub [] (L2 := []) rfl ?_
    exact t_X15_isKept_b70  hf
theorem dX15_isFact_0 : decode cX15_isFact 0 = .ok (.aload_n 0, 1) := by decide +kernel
theorem dX15_isFact_1 : decode cX15_isFact 1 = .ok (.getfield 296, 3) := by decide +kernel
theorem dX15_isFact_4 : decode cX15_isFact 4 = .ok (.iconst 2, 1) := by decide +kernel
theorem dX15_isFact_5 : decode cX15_isFact 5 = .ok (.if_icmp .ne 26, 3) := by decide +kernel
theorem dX15_isFact_8 : decode cX15_isFact 8 = .ok (.aload_n 0, 1) := by decide +kernel
theorem dX15_isFact_9 : decode cX15_isFact 9 = .ok (.getfield 309, 3) := by decide +kernel
theorem dX15_isFact_12 : decode cX15_isFact 12 = .ok (.iconst (-1), 1) := by decide +kernel
theorem dX15_isFact_13 : decode cX15_isFact 13 = .ok (.if_icmp .eq 18, 3) := by decide +kernel
theorem dX15_isFact_16 : decode cX15_isFact 16 = .ok (.aload_n 0, 1) := by decide +kernel
theorem dX15_isFact_17 : decode cX15_isFact 17 = .ok (.getfield 305, 3) := by decide +kernel
theorem dX15_isFact_20 : decode cX15_isFact 20 = .ok (.ldc2_w 325, 3) := by decide +kernel
theorem dX15_isFact_23 : decode cX15_isFact 23 = .ok (.lcmp, 1) := by decide +kernel
theorem dX15_isFact_24 : decode cX15_isFact 24 = .ok (.ifCond .ne 7, 3) := by decide +kernel
theorem dX15_isFact_27 : decode cX15_isFact 27 = .ok (.iconst 1, 1) := by decide +kernel
theorem dX15_isFact_28 : decode cX15_isFact 28 = .ok (.goto 4, 3) := by decide +kernel
theorem dX15_isFact_31 : decode cX15_isFact 31 = .ok (.iconst 0, 1) := by decide +kernel
theorem dX15_isFact_32 : decode cX15_isFact 32 = .ok (.ireturn, 1) := by decide +kernel
def f_X15_isFact_b32 (σ : TH) (t0 : Int32) : Option (Int32 × TH) :=
  gt_ (t0 = 0 ∨ t0 = 1) <| some (t0, σ)
set_option maxHeartbeats 4000000 in
set_option maxRecDepth 100000 in
theorem t_X15_isFact_b32 {l : Launch} {D : va_G} {cy : Nat → ClassId} {ka : Nat → Nat} {σ0 z : TH} {r : Int32}  {σ : TH} {t0 : Int32} (hf : f_X15_isFact_b32 σ t0 = some (r, z)) : v_ l D cy ka cX15_isFact RX15 1 (some FieldType.boolean) "isFact" 0 0 (qf_ D cy σ0 z (some (.int r))) σ0 z σ 32 [] [.int t0] := by
  unfold f_X15_isFact_b32 at hf
  obtain ⟨hb9, hf⟩ := gt_of hf
  exact v_zret hf (nz_ hb9) dX15_isFact_32
def f_X15_isFact_b31 (σ : TH) : Option (Int32 × TH) :=
  f_X15_isFact_b32 σ (0 : Int32)
set_option maxHeartbeats 4000000 in
set_option maxRecDepth 100000 in
theorem t_X15_isFact_b31 {l : Launch} {D : va_G} {cy : Nat → ClassId} {ka : Nat → Nat} {σ0 z : TH} {r : Int32}  {σ : TH}  (hf : f_X15_isFact_b31 σ  = some (r, z)) : v_ l D cy ka cX15_isFact RX15 1 (some FieldType.boolean) "isFact" 0 0 (qf_ D cy σ0 z (some (.int r))) σ0 z σ 31 [] [] := by
  unfold f_X15_isFact_b31 at hf
  refine v_iconst (v := 0) dX15_isFact_31 (by decide) ?_
  refine v_sub [] (L2 := []) rfl ?_
  exact t_X15_isFact_b32  hf
/-- LivesAheadModel.isFact()Z -/
def f_X15_isFact (σ : TH) (p0 : Nat) : Option (Int32 × TH) :=
  gt_ (kd_ σ p0 = 17) <| lt_ (fi_ σ 1633 p0) fun x1 => if x1 = (2 : Int32) then (lt_ (fi_ σ 1637 p0) fun x2 => if x2 = (-1 : Int32) then (f_X15_isFact_b31 σ ) else (lt_ (fl_ σ 1646 p0) fun x3 => if (lg_cmp x3 (11 : Int64)) = 0 then (f_X15_isFact_b32 σ (1 : Int32)) else (f_X15_isFact_b31 σ ))) else (f_X15_isFact_b31 σ )
set_option maxHeartbeats 4000000 in
set_option maxRecDepth 100000 in
theorem c_X15_isFact {l : Launch} {D : va_G} {cy : Nat → ClassId} {ka : Nat → Nat} {σ z : TH} {p0 : Nat} {r : Int32} (hf : f_X15_isFact σ p0 = some (r, z)) : ct_ l D cy ka yX15_isFact 0 0 [va_rf (some p0)] σ (some (.int r)) z := by
  unfold f_X15_isFact at hf
  refine v_start (cc := cX15_isFact) (own := RX15) (maxL := 1) (ret := (some FieldType.boolean)) (nm := "isFact") (by decide +kernel) kw_1962 rfl rfl (by simp [lg_sl, va_rf_cat, cat_i, cat_l]) ?_
  refine v_eqL (L2 := [(0, va_rf (some p0))]) (by simp [lv_args, va_rf_cat, cat_i, cat_l]) ?_
  refine v_aload_n (x := (some p0)) dX15_isFact_0 rfl 0 rfl ?_
  obtain ⟨hk_p0, hf⟩ := gt_of hf
  refine v_geti cb_16 hk_p0 33 1633 rfl (by decide) rfl (lk_n kw_1490 rfl) hf dX15_isFact_1 (fun x1 hf => ?_)
  refine v_iconst (v := 2) dX15_isFact_4 (by decide) ?_
  refine v_icmp_ne (tgt := 31) hf dX15_isFact_5 (by decide) (fun hq hf => ?_) (fun hq hf => ?_)
  · refine v_aload_n (x := (some p0)) dX15_isFact_8 rfl 0 rfl ?_
    refine v_geti cb_16 hk_p0 37 1637 rfl (by decide) rfl (lk_n kw_1494 rfl) hf dX15_isFact_9 (fun x2 hf => ?_)
    refine v_iconst (v := (-1)) dX15_isFact_12 (by decide) ?_
    refine v_icmp_eq (tgt := 31) hf dX15_isFact_13 (by decide) (fun hq hf => ?_) (fun hq hf => ?_)
    · refine v_sub [] (L2 := []) rfl ?_
      exact t_X15_isFact_b31  hf
    · refine v_aload_n (x := (some p0)) dX15_isFact_16 rfl 0 rfl ?_
      refine v_getl cb_16 hk_p0 46 1646 rfl (by decide) rfl (lk_n kw_1503 rfl) hf dX15_isFact_17 (fun x3 hf => ?_)
      refine v_ldc2 (v := 11) kw_1963 dX15_isFact_20 ?_
      refine v_lcmp dX15_isFact_23 ?_
      refine v_if_ne (tgt := 31) hf dX15_isFact_24 (by decide) (fun hq hf => ?_) (fun hq hf => ?_)
      · refine v_iconst (v := 1) dX15_isFact_27 (by decide) ?_
        refine v_goto (tgt := 32) dX15_isFact_28 (by decide) ?_
        refine v_sub [] (L2 := []) rfl ?_
        exact t_X15_isFact_b32  hf
      · refine v_sub [] (L2 := []) rfl ?_
        exact t_X15_isFact_b31  hf
  · refine v_sub [] (L2 := []) rfl ?_
    exact t_X15_isFact_b31  hf
theorem dX15_isName_0 : decode cX15_isName 0 = .ok (.aload_n 0, 1) := by decide +kernel
theorem dX15_isName_1 : decode cX15_isName 1 = .ok (.invokevirtual 396, 3) := by decide +kernel
theorem dX15_isName_4 : decode cX15_isName 4 = .ok (.ifCond .ne 43, 3) := by decide +kernel
theorem dX15_isName_7 : decode cX15_isName 7 = .ok (.aload_n 0, 1) := by decide +kernel
theorem dX15_isName_8 : decode cX15_isName 8 = .ok (.ldc_w 434, 3) := by decide +kernel
theorem dX15_isName_11 : decode cX15_isName 11 = .ok (.invokevirtual 357, 3) := by decide +kernel
theorem dX15_isName_14 : decode cX15_isName 14 = .ok (.ifCond .ne 33, 3) := by decide +kernel
theorem dX15_isName_17 : decode cX15_isName 17 = .ok (.aload_n 0, 1) := by decide +kernel
theorem dX15_isName_18 : decode cX15_isName 18 = .ok (.ldc_w 436, 3) := by decide +kernel
theorem dX15_isName_21 : decode cX15_isName 21 = .ok (.invokevirtual 357, 3) := by decide +kernel
theorem dX15_isName_24 : decode cX15_isName 24 = .ok (.ifCond .ne 23, 3) := by decide +kernel
theorem dX15_isName_27 : decode cX15_isName 27 = .ok (.aload_n 0, 1) := by decide +kernel
theorem dX15_isName_28 : decode cX15_isName 28 = .ok (.ldc_w 437, 3) := by decide +kernel
theorem dX15_isName_31 : decode cX15_isName 31 = .ok (.invokevirtual 357, 3) := by decide +kernel
theorem dX15_isName_34 : decode cX15_isName 34 = .ok (.ifCond .ne 13, 3) := by decide +kernel
theorem dX15_isName_37 : decode cX15_isName 37 = .ok (.aload_n 0, 1) := by decide +kernel
theorem dX15_isName_38 : decode cX15_isName 38 = .ok (.ldc_w 439, 3) := by decide +kernel
theorem dX15_isName_41 : decode cX15_isName 41 = .ok (.invokevirtual 357, 3) := by decide +kernel
theorem dX15_isName_44 : decode cX15_isName 44 = .ok (.ifCond .eq 7, 3) := by decide +kernel
theorem dX15_isName_47 : decode cX15_isName 47 = .ok (.iconst 1, 1) := by decide +kernel
theorem dX15_isName_48 : decode cX15_isName 48 = .ok (.goto 4, 3) := by decide +kernel
theorem dX15_isName_51 : decode cX15_isName 51 = .ok (.iconst 0, 1) := by decide +kernel
theorem dX15_isName_52 : decode cX15_isName 52 = .ok (.ireturn, 1) := by decide +kernel
def f_X15_isName_b52 (σ : TH) (t0 : Int32) : Option (Int32 × TH) :=
  gt_ (t0 = 0 ∨ t0 = 1) <| some (t0, σ)
set_option maxHeartbeats 4000000 in
set_option maxRecDepth 100000 in
theorem t_X15_isName_b52 {l : Launch} {D : va_G} {cy : Nat → ClassId} {ka : Nat → Nat} {σ0 z : TH} {r : Int32}  {σ : TH} {t0 : Int32} (hf : f_X15_isName_b52 σ t0 = some (r, z)) : v_ l D cy ka cX15_isName RX15 1 (some FieldType.boolean) "isName" 6 129 (qf_ D cy σ0 z (some (.int r))) σ0 z σ 52 [] [.int t0] := by
  unfold f_X15_isName_b52 at hf
  obtain ⟨hb9, hf⟩ := gt_of hf
  exact v_zret hf (nz_ hb9) dX15_isName_52
def f_X15_isName_b47 (σ : TH) : Option (Int32 × TH) :=
  f_X15_isName_b52 σ (1 : Int32)
set_option maxHeartbeats 4000000 in
set_option maxRecDepth 100000 in
theorem t_X15_isName_b47 {l : Launch} {D : va_G} {cy : Nat → ClassId} {ka : Nat → Nat} {σ0 z : TH} {r : Int32}  {σ : TH}  (hf : f_X15_isName_b47 σ  = some (r, z)) : v_ l D cy ka cX15_isName RX15 1 (some FieldType.boolean) "isName" 6 129 (qf_ D cy σ0 z (some (.int r))) σ0 z σ 47 [] [] := by
  unfold f_X15_isName_b47 at hf
  refine v_iconst (v := 1) dX15_isName_47 (by decide) ?_
  refine v_goto (tgt := 52) dX15_isName_48 (by decide) ?_
  refine v_sub [] (L2 := []) rfl ?_
  exact t_X15_isName_b52  hf
/-- LivesAheadModel.isName()Z -/
def f_X15_isName (σ : TH) (p0 : Nat) : Option (Int32 × TH) :=
  gt_ (kd_ σ p0 = 17) <| bd_ (f_X15_isFact σ p0) fun x1 s2 => if x1 = 0 then (bd_ (f_X15_isWord s2 p0 5) fun x3 s4 => if x3 = 0 then (bd_ (f_X15_isWord s4 p0 8) fun x5 s6 => if x5 = 0 then (bd_ (f_X15_isWord s6 p0 9) fun x7 s8 => if x7 = 0 then (bd_ (f_X15_isWord s8 p0 11) fun x9 s10 => if x9 = 0 then (f_X15_isName_b52 s10 (0 : Int32)) else (f_X15_isName_b47 s10 )) else (f_X15_isName_b47 s8 )) else (f_X15_isName_b47 s6 )) else (f_X15_isName_b47 s4 )) else (f_X15_isName_b47 s2 )
set_option maxHeartbeats 4000000 in
set_option maxRecDepth 100000 in
theorem c_X15_isName {l : Launch} {D : va_G} {cy : Nat → ClassId} {ka : Nat → Nat} {σ z : TH} {p0 : Nat} {r : Int32} (hf : f_X15_isName σ p0 = some (r, z)) : ct_ l D cy ka yX15_isName 6 129 [va_rf (some p0)] σ (some (.int r)) z := by
  unfold f_X15_isName at hf
  refine v_start (cc := cX15_isName) (own := RX15) (maxL := 1) (ret := (some FieldType.boolean)) (nm := "isName") (by decide +kernel) kw_1958 rfl rfl (by simp [lg_sl, va_rf_cat, cat_i, cat_l]) ?_
  refine v_eqL (L2 := [(0, va_rf (some p0))]) (by simp [lv_args, va_rf_cat, cat_i, cat_l]) ?_
  refine v_aload_n (x := (some p0)) dX15_isName_0 rfl 0 rfl ?_
  obtain ⟨hk_p0, hf⟩ := gt_of hf
  obtain ⟨x1, s2, hcs2, hf⟩ := bd_of hf
  have hts2 := c_X15_isFact (l := l) (D := D) (cy := cy) (ka := ka) hcs2
  refine v_callV cb_16 hk_p0 (As := []) (rest := []) hts2 yb_X15_isFact kw_1959 kw_1961 kp_109 rfl ⟨Nat.le_of_ble_eq_true rfl, Nat.le_of_ble_eq_true rfl⟩ rfl (cat_len (Nat.le_of_ble_eq_true rfl)) dX15_isName_1 ?_
  have hk_p0 := tk_ hts2.1 hk_p0
  show v_ l D cy ka cX15_isName RX15 1 (some FieldType.boolean) "isName" 6 129 (qf_ D cy σ z (some (.int r))) σ z _ 4 [(0, va_rf (some p0))] [.int x1]
  refine v_if_ne (tgt := 47) hf dX15_isName_4 (by decide) (fun hq hf => ?_) (fun hq hf => ?_)
  · refine v_aload_n (x := (some p0)) dX15_isName_7 rfl 0 rfl ?_
    refine v_ldcwS (tx := "age") (n := 5) (by decide) dX15_isName_8 ?_
    obtain ⟨x3, s4, hcs4, hf⟩ := bd_of hf
    have hts4 := c_X15_isWord (l := l) (D := D) (cy := cy) (ka := ka) hcs4
    refine v_callV cb_16 hk_p0 (As := [va_rf (some (ka 5))]) (rest := []) hts4 yb_X15_isWord kw_1911 kw_1913 kp_102 rfl ⟨Nat.le_of_ble_eq_true rfl, Nat.le_of_ble_eq_true rfl⟩ rfl (cat_len (Nat.le_of_ble_eq_true rfl)) dX15_isName_11 ?_
    have hk_p0 := tk_ hts4.1 hk_p0
    show v_ l D cy ka cX15_isName RX15 1 (some FieldType.boolean) "isName" 6 129 (qf_ D cy σ z (some (.int r))) σ z _ 14 [(0, va_rf (some p0))] [.int x3]
    refine v_if_ne (tgt := 47) hf dX15_isName_14 (by decide) (fun hq hf => ?_) (fun hq hf => ?_)
    · refine v_aload_n (x := (some p0)) dX15_isName_17 rfl 0 rfl ?_
      refine v_ldcwS (tx := "born") (n := 8) (by decide) dX15_isName_18 ?_
      obtain ⟨x5, s6, hcs6, hf⟩ := bd_of hf
      have hts6 := c_X15_isWord (l := l) (D := D) (cy := cy) (ka := ka) hcs6
      refine v_callV cb_16 hk_p0 (As := [va_rf (some (ka 8))]) (rest := []) hts6 yb_X15_isWord kw_1911 kw_1913 kp_102 rfl ⟨Nat.le_of_ble_eq_true rfl, Nat.le_of_ble_eq_true rfl⟩ rfl (cat_len (Nat.le_of_ble_eq_true rfl)) dX15_isName_21 ?_
      have hk_p0 := tk_ hts6.1 hk_p0
      show v_ l D cy ka cX15_isName RX15 1 (some FieldType.boolean) "isName" 6 129 (qf_ D cy σ z (some (.int r))) σ z _ 24 [(0, va_rf (some p0))] [.int x5]
      refine v_if_ne (tgt := 47) hf dX15_isName_24 (by decide) (fun hq hf => ?_) (fun hq hf => ?_)
      · refine v_aload_n (x := (some p0)) dX15_isName_27 rfl 0 rfl ?_
        refine v_ldcwS (tx := "year") (n := 9) (by decide) dX15_isName_28 ?_
        obtain ⟨x7, s8, hcs8, hf⟩ := bd_of hf
        have hts8 := c_X15_isWord (l := l) (D := D) (cy := cy) (ka := ka) hcs8
        refine v_callV cb_16 hk_p0 (As := [va_rf (some (ka 9))]) (rest := []) hts8 yb_X15_isWord kw_1911 kw_1913 kp_102 rfl ⟨Nat.le_of_ble_eq_true rfl, Nat.le_of_ble_eq_true rfl⟩ rfl (cat_len (Nat.le_of_ble_eq_true rfl)) dX15_isName_31 ?_
        have hk_p0 := tk_ hts8.1 hk_p0
        show v_ l D cy ka cX15_isName RX15 1 (some FieldType.boolean) "isName" 6 129 (qf_ D cy σ z (some (.int r))) σ z _ 34 [(0, va_rf (some p0))] [.int x7]
        refine v_if_ne (tgt := 47) hf dX15_isName_34 (by decide) (fun hq hf => ?_) (fun hq hf => ?_)
        · refine v_aload_n (x := (some p0)) dX15_isName_37 rfl 0 rfl ?_
          refine v_ldcwS (tx := "worth") (n := 11) (by decide) dX15_isName_38 ?_
          obtain ⟨x9, s10, hcs10, hf⟩ := bd_of hf
          have hts10 := c_X15_isWord (l := l) (D := D) (cy := cy) (ka := ka) hcs10
          refine v_callV cb_16 hk_p0 (As := [va_rf (some (ka 11))]) (rest := []) hts10 yb_X15_isWord kw_1911 kw_1913 kp_102 rfl ⟨Nat.le_of_ble_eq_true rfl, Nat.le_of_ble_eq_true rfl⟩ rfl (cat_len (Nat.le_of_ble_eq_true rfl)) dX15_isName_41 ?_
          have hk_p0 := tk_ hts10.1 hk_p0
          show v_ l D cy ka cX15_isName RX15 1 (some FieldType.boolean) "isName" 6 129 (qf_ D cy σ z (some (.int r))) σ z _ 44 [(0, va_rf (some p0))] [.int x9]
          refine v_if_eq (tgt := 51) hf dX15_isName_44 (by decide) (fun hq hf => ?_) (fun hq hf => ?_)
          · refine v_iconst (v := 0) dX15_isName_51 (by decide) ?_
            refine v_sub [] (L2 := []) rfl ?_
            exact t_X15_isName_b52  hf
          · refine v_sub [] (L2 := []) rfl ?_
            exact t_X15_isName_b47  hf
        · refine v_sub [] (L2 := []) rfl ?_
          exact t_X15_isName_b47  hf
      · refine v_sub [] (L2 := []) rfl ?_
        exact t_X15_isName_b47  hf
    · refine v_sub [] (L2 := []) rfl ?_
      exact t_X15_isName_b47  hf
  · refine v_sub [] (L2 := []) rfl ?_
    exact t_X15_isName_b47  hf
theorem dX15_sourceHere_0 : decode cX15_sourceHere 0 = .ok (.aload_n 0, 1) := by decide +kernel
theorem dX15_sourceHere_1 : decode cX15_sourceHere 1 = .ok (.ldc_w 446, 3) := by decide +kernel
theorem dX15_sourceHere_4 : decode cX15_sourceHere 4 = .ok (.invokevirtual 357, 3) := by decide +kernel
theorem dX15_sourceHere_7 : decode cX15_sourceHere 7 = .ok (.ifCond .eq 7, 3) := by decide +kernel
theorem dX15_sourceHere_10 : decode cX15_sourceHere 10 = .ok (.iconst 0, 1) := by decide +kernel
theorem dX15_sourceHere_11 : decode cX15_sourceHere 11 = .ok (.goto 60, 3) := by decide +kernel
theorem dX15_sourceHere_14 : decode cX15_sourceHere 14 = .ok (.aload_n 0, 1) := by decide +kernel
theorem dX15_sourceHere_15 : decode cX15_sourceHere 15 = .ok (.ldc_w 448, 3) := by decide +kernel
theorem dX15_sourceHere_18 : decode cX15_sourceHere 18 = .ok (.invokevirtual 357, 3) := by decide +kernel
theorem dX15_sourceHere_21 : decode cX15_sourceHere 21 = .ok (.ifCond .eq 7, 3) := by decide +kernel
theorem dX15_sourceHere_24 : decode cX15_sourceHere 24 = .ok (.iconst 1, 1) := by decide +kernel
theorem dX15_sourceHere_25 : decode cX15_sourceHere 25 = .ok (.goto 46, 3) := by decide +kernel
theorem dX15_sourceHere_28 : decode cX15_sourceHere 28 = .ok (.aload_n 0, 1) := by decide +kernel
theorem dX15_sourceHere_29 : decode cX15_sourceHere 29 = .ok (.ldc_w 450, 3) := by decide +kernel
theorem dX15_sourceHere_32 : decode cX15_sourceHere 32 = .ok (.invokevirtual 357, 3) := by decide +kernel
theorem dX15_sourceHere_35 : decode cX15_sourceHere 35 = .ok (.ifCond .eq 7, 3) := by decide +kernel
theorem dX15_sourceHere_38 : decode cX15_sourceHere 38 = .ok (.iconst 2, 1) := by decide +kernel
theorem dX15_sourceHere_39 : decode cX15_sourceHere 39 = .ok (.goto 32, 3) := by decide +kernel
theorem dX15_sourceHere_42 : decode cX15_sourceHere 42 = .ok (.aload_n 0, 1) := by decide +kernel
theorem dX15_sourceHere_43 : decode cX15_sourceHere 43 = .ok (.ldc_w 452, 3) := by decide +kernel
theorem dX15_sourceHere_46 : decode cX15_sourceHere 46 = .ok (.invokevirtual 357, 3) := by decide +kernel
theorem dX15_sourceHere_49 : decode cX15_sourceHere 49 = .ok (.ifCond .eq 7, 3) := by decide +kernel
theorem dX15_sourceHere_52 : decode cX15_sourceHere 52 = .ok (.iconst 3, 1) := by decide +kernel
theorem dX15_sourceHere_53 : decode cX15_sourceHere 53 = .ok (.goto 18, 3) := by decide +kernel
theorem dX15_sourceHere_56 : decode cX15_sourceHere 56 = .ok (.aload_n 0, 1) := by decide +kernel
theorem dX15_sourceHere_57 : decode cX15_sourceHere 57 = .ok (.ldc_w 454, 3) := by decide +kernel
theorem dX15_sourceHere_60 : decode cX15_sourceHere 60 = .ok (.invokevirtual 357, 3) := by decide +kernel
theorem dX15_sourceHere_63 : decode cX15_sourceHere 63 = .ok (.ifCond .eq 7, 3) := by decide +kernel
theorem dX15_sourceHere_66 : decode cX15_sourceHere 66 = .ok (.iconst 4, 1) := by decide +kernel
theorem dX15_sourceHere_67 : decode cX15_sourceHere 67 = .ok (.goto 4, 3) := by decide +kernel
theorem dX15_sourceHere_70 : decode cX15_sourceHere 70 = .ok (.iconst (-1), 1) := by decide +kernel
theorem dX15_sourceHere_71 : decode cX15_sourceHere 71 = .ok (.ireturn, 1) := by decide +kernel
def f_X15_sourceHere_b71 (σ : TH) (t0 : Int32) : Option (Int32 × TH) :=
  some (t0, σ)
set_option maxHeartbeats 4000000 in
set_option maxRecDepth 100000 in
theorem t_X15_sourceHere_b71 {l : Launch} {D : va_G} {cy : Nat → ClassId} {ka : Nat → Nat} {σ0 z : TH} {r : Int32}  {σ : TH} {t0 : Int32} (hf : f_X15_sourceHere_b71 σ t0 = some (r, z)) : v_ l D cy ka cX15_sourceHere RX15 1 (some FieldType.int) "sourceHere" 6 129 (qf_ D cy σ0 z (some (.int r))) σ0 z σ 71 [] [.int t0] := by
  unfold f_X15_sourceHere_b71 at hf
  exact v_iret hf dX15_sourceHere_71
/-- LivesAheadModel.sourceHere()I -/
def f_X15_sourceHere (σ : TH) (p0 : Nat) : Option (Int32 × TH) :=
  gt_ (kd_ σ p0 = 17) <| bd_ (f_X15_isWord σ p0 6) fun x1 s2 => if x1 = 0 then (bd_ (f_X15_isWord s2 p0 14) fun x3 s4 => if x3 = 0 then (bd_ (f_X15_isWord s4 p0 15) fun x5 s6 => if x5 = 0 then (bd_ (f_X15_isWord s6 p0 16) fun x7 s8 => if x7 = 0 then (bd_ (f_X15_isWord s8 p0 12) fun x9 s10 => if x9 = 0 then (f_X15_sourceHere_b71 s10 (-1 : Int32)) else (f_X15_sourceHere_b71 s10 (4 : Int32))) else (f_X15_sourceHere_b71 s8 (3 : Int32))) else (f_X15_sourceHere_b71 s6 (2 : Int32))) else (f_X15_sourceHere_b71 s4 (1 : Int32))) else (f_X15_sourceHere_b71 s2 (0 : Int32))
set_option maxHeartbeats 4000000 in
set_option maxRecDepth 100000 in
theorem c_X15_sourceHere {l : Launch} {D : va_G} {cy : Nat → ClassId} {ka : Nat → Nat} {σ z : TH} {p0 : Nat} {r : Int32} (hf : f_X15_sourceHere σ p0 = some (r, z)) : ct_ l D cy ka yX15_sourceHere 6 129 [va_rf (some p0)] σ (some (.int r)) z := by
  unfold f_X15_sourceHere at hf
  refine v_start (cc := cX15_sourceHere) (own := RX15) (maxL := 1) (ret := (some FieldType.int)) (nm := "sourceHere") (by decide +kernel) kw_1945 rfl rfl (by simp [lg_sl, va_rf_cat, cat_i, cat_l]) ?_
  refine v_eqL (L2 := [(0, va_rf (some p0))]) (by simp [lv_args, va_rf_cat, cat_i, cat_l]) ?_
  refine v_aload_n (x := (some p0)) dX15_sourceHere_0 rfl 0 rfl ?_
  refine v_ldcwS (tx := "kin") (n := 6) (by decide) dX15_sourceHere_1 ?_
  obtain ⟨hk_p0, hf⟩ := gt_of hf
  obtain ⟨x1, s2, hcs2, hf⟩ := bd_of hf
  have hts2 := c_X15_isWord (l := l) (D := D) (cy := cy) (ka := ka) hcs2
  refine v_callV cb_16 hk_p0 (As := [va_rf (some (ka 6))]) (rest := []) hts2 yb_X15_isWord kw_1911 kw_1913 kp_102 rfl ⟨Nat.le_of_ble_eq_true rfl, Nat.le_of_ble_eq_true rfl⟩ rfl (cat_len (Nat.le_of_ble_eq_true rfl)) dX15_sourceHere_4 ?_
  have hk_p0 := tk_ hts2.1 hk_p0
  show v_ l D cy ka cX15_sourceHere RX15 1 (some FieldType.int) "sourceHere" 6 129 (qf_ D cy σ z (some (.int r))) σ z _ 7 [(0, va_rf (some p0))] [.int x1]
  refine v_if_eq (tgt := 14) hf dX15_sourceHere_7 (by decide) (fun hq hf => ?_) (fun hq hf => ?_)
  · refine v_aload_n (x := (some p0)) dX15_sourceHere_14 rfl 0 rfl ?_
    refine v_ldcwS (tx := "doctor") (n := 14) (by decide) dX15_sourceHere_15 ?_
    obtain ⟨x3, s4, hcs4, hf⟩ := bd_of hf
    have hts4 := c_X15_isWord (l := l) (D := D) (cy := cy) (ka := ka) hcs4
    refine v_callV cb_16 hk_p0 (As := [va_rf (some (ka 14))]) (rest := []) hts4 yb_X15_isWord kw_1911 kw_1913 kp_102 rfl ⟨Nat.le_of_ble_eq_true rfl, Nat.le_of_ble_eq_true rfl⟩ rfl (cat_len (Nat.le_of_ble_eq_true rfl)) dX15_sourceHere_18 ?_
    have hk_p0 := tk_ hts4.1 hk_p0
    show v_ l D cy ka cX15_sourceHere RX15 1 (some FieldType.int) "sourceHere" 6 129 (qf_ D cy σ z (some (.int r))) σ z _ 21 [(0, va_rf (some p0))] [.int x3]
    refine v_if_eq (tgt := 28) hf dX15_sourceHere_21 (by decide) (fun hq hf => ?_) (fun hq hf => ?_)
    · refine v_aload_n (x := (some p0)) dX15_sourceHere_28 rfl 0 rfl ?_
      refine v_ldcwS (tx := "office") (n := 15) (by decide) dX15_sourceHere_29 ?_
      obtain ⟨x5, s6, hcs6, hf⟩ := bd_of hf
      have hts6 := c_X15_isWord (l := l) (D := D) (cy := cy) (ka := ka) hcs6
      refine v_callV cb_16 hk_p0 (As := [va_rf (some (ka 15))]) (rest := []) hts6 yb_X15_isWord kw_1911 kw_1913 kp_102 rfl ⟨Nat.le_of_ble_eq_true rfl, Nat.le_of_ble_eq_true rfl⟩ rfl (cat_len (Nat.le_of_ble_eq_true rfl)) dX15_sourceHere_32 ?_
      have hk_p0 := tk_ hts6.1 hk_p0
      show v_ l D cy ka cX15_sourceHere RX15 1 (some FieldType.int) "sourceHere" 6 129 (qf_ D cy σ z (some (.int r))) σ z _ 35 [(0, va_rf (some p0))] [.int x5]
      refine v_if_eq (tgt := 42) hf dX15_sourceHere_35 (by decide) (fun hq hf => ?_) (fun hq hf => ?_)
      · refine v_aload_n (x := (some p0)) dX15_sourceHere_42 rfl 0 rfl ?_
        refine v_ldcwS (tx := "agency") (n := 16) (by decide) dX15_sourceHere_43 ?_
        obtain ⟨x7, s8, hcs8, hf⟩ := bd_of hf
        have hts8 := c_X15_isWord (l := l) (D := D) (cy := cy) (ka := ka) hcs8
        refine v_callV cb_16 hk_p0 (As := [va_rf (some (ka 16))]) (rest := []) hts8 yb_X15_isWord kw_1911 kw_1913 kp_102 rfl ⟨Nat.le_of_ble_eq_true rfl, Nat.le_of_ble_eq_true rfl⟩ rfl (cat_len (Nat.le_of_ble_eq_true rfl)) dX15_sourceHere_46 ?_
        have hk_p0 := tk_ hts8.1 hk_p0
        show v_ l D cy ka cX15_sourceHere RX15 1 (some FieldType.int) "sourceHere" 6 129 (qf_ D cy σ z (some (.int r))) σ z _ 49 [(0, va_rf (some p0))] [.int x7]
        refine v_if_eq (tgt := 56) hf dX15_sourceHere_49 (by decide) (fun hq hf => ?_) (fun hq hf => ?_)
        · refine v_aload_n (x := (some p0)) dX15_sourceHere_56 rfl 0 rfl ?_
          refine v_ldcwS (tx := "rival") (n := 12) (by decide) dX15_sourceHere_57 ?_
          obtain ⟨x9, s10, hcs10, hf⟩ := bd_of hf
          have hts10 := c_X15_isWord (l := l) (D := D) (cy := cy) (ka := ka) hcs10
          refine v_callV cb_16 hk_p0 (As := [va_rf (some (ka 12))]) (rest := []) hts10 yb_X15_isWord kw_1911 kw_1913 kp_102 rfl ⟨Nat.le_of_ble_eq_true rfl, Nat.le_of_ble_eq_true rfl⟩ rfl (cat_len (Nat.le_of_ble_eq_true rfl)) dX15_sourceHere_60 ?_
          have hk_p0 := tk_ hts10.1 hk_p0
          show v_ l D cy ka cX15_sourceHere RX15 1 (some FieldType.int) "sourceHere" 6 129 (qf_ D cy σ z (some (.int r))) σ z _ 63 [(0, va_rf (some p0))] [.int x9]
          refine v_if_eq (tgt := 70) hf dX15_sourceHere_63 (by decide) (fun hq hf => ?_) (fun hq hf => ?_)
          · refine v_iconst (v := (-1)) dX15_sourceHere_70 (by decide) ?_
            refine v_sub [] (L2 := []) rfl ?_
            exact t_X15_sourceHere_b71  hf
          · refine v_iconst (v := 4) dX15_sourceHere_66 (by decide) ?_
            refine v_goto (tgt := 71) dX15_sourceHere_67 (by decide) ?_
            refine v_sub [] (L2 := []) rfl ?_
            exact t_X15_sourceHere_b71  hf
        · refine v_iconst (v := 3) dX15_sourceHere_52 (by decide) ?_
          refine v_goto (tgt := 71) dX15_sourceHere_53 (by decide) ?_
          refine v_sub [] (L2 := []) rfl ?_
          exact t_X15_sourceHere_b71  hf
      · refine v_iconst (v := 2) dX15_sourceHere_38 (by decide) ?_
        refine v_goto (tgt := 71) dX15_sourceHere_39 (by decide) ?_
        refine v_sub [] (L2 := []) rfl ?_
        exact t_X15_sourceHere_b71  hf
    · refine v_iconst (v := 1) dX15_sourceHere_24 (by decide) ?_
      refine v_goto (tgt := 71) dX15_sourceHere_25 (by decide) ?_
      refine v_sub [] (L2 := []) rfl ?_
      exact t_X15_sourceHere_b71  hf
  · refine v_iconst (v := 0) dX15_sourceHere_10 (by decide) ?_
    refine v_goto (tgt := 71) dX15_sourceHere_11 (by decide) ?_
    refine v_sub [] (L2 := []) rfl ?_
    exact t_X15_sourceHere_b71  hf
theorem dX15_isRuleName_0 : decode cX15_isRuleName 0 = .ok (.aload_n 0, 1) := by decide +kernel
theorem dX15_isRuleName_1 : decode cX15_isRuleName 1 = .ok (.invokevirtual 440, 3) := by decide +kernel
theorem dX15_isRuleName_4 : decode cX15_isRuleName 4 = .ok (.iconst (-1), 1) := by decide +kernel
theorem dX15_isRuleName_5 : decode cX15_isRuleName 5 = .ok (.if_icmp .ne 43, 3) := by decide +kernel
theorem dX15_isRuleName_8 : decode cX15_isRuleName 8 = .ok (.aload_n 0, 1) := by decide +kernel
theorem dX15_isRuleName_9 : decode cX15_isRuleName 9 = .ok (.ldc_w 443, 3) := by decide +kernel
theorem dX15_isRuleName_12 : decode cX15_isRuleName 12 = .ok (.invokevirtual 357, 3) := by decide +kernel
theorem dX15_isRuleName_15 : decode cX15_isRuleName 15 = .ok (.ifCond .ne 33, 3) := by decide +kernel
theorem dX15_isRuleName_18 : decode cX15_isRuleName 18 = .ok (.aload_n 0, 1) := by decide +kernel
theorem dX15_isRuleName_19 : decode cX15_isRuleName 19 = .ok (.ldc_w 445, 3) := by decide +kernel
theorem dX15_isRuleName_22 : decode cX15_isRuleName 22 = .ok (.invokevirtual 357, 3) := by decide +kernel
theorem dX15_isRuleName_25 : decode cX15_isRuleName 25 = .ok (.ifCond .ne 23, 3) := by decide +kernel
theorem dX15_isRuleName_28 : decode cX15_isRuleName 28 = .ok (.aload_n 0, 1) := by decide +kernel
theorem dX15_isRuleName_29 : decode cX15_isRuleName 29 = .ok (.ldc_w 434, 3) := by decide +kernel
theorem dX15_isRuleName_32 : decode cX15_isRuleName 32 = .ok (.invokevirtual 357, 3) := by decide +kernel
theorem dX15_isRuleName_35 : decode cX15_isRuleName 35 = .ok (.ifCond .ne 13, 3) := by decide +kernel
theorem dX15_isRuleName_38 : decode cX15_isRuleName 38 = .ok (.aload_n 0, 1) := by decide +kernel
theorem dX15_isRuleName_39 : decode cX15_isRuleName 39 = .ok (.ldc_w 439, 3) := by decide +kernel
theorem dX15_isRuleName_42 : decode cX15_isRuleName 42 = .ok (.invokevirtual 357, 3) := by decide +kernel
theorem dX15_isRuleName_45 : decode cX15_isRuleName 45 = .ok (.ifCond .eq 7, 3) := by decide +kernel
theorem dX15_isRuleName_48 : decode cX15_isRuleName 48 = .ok (.iconst 1, 1) := by decide +kernel
theorem dX15_isRuleName_49 : decode cX15_isRuleName 49 = .ok (.goto 4, 3) := by decide +kernel
theorem dX15_isRuleName_52 : decode cX15_isRuleName 52 = .ok (.iconst 0, 1) := by decide +kernel
theorem dX15_isRuleName_53 : decode cX15_isRuleName 53 = .ok (.ireturn, 1) := by decide +kernel
def f_X15_isRuleName_b53 (σ : TH) (t0 : Int32) : Option (Int32 × TH) :=
  gt_ (t0 = 0 ∨ t0 = 1) <| some (t0, σ)
set_option maxHeartbeats 4000000 in
set_option maxRecDepth 100000 in
theorem t_X15_isRuleName_b53 {l : Launch} {D : va_G} {cy : Nat → ClassId} {ka : Nat → Nat} {σ0 z : TH} {r : Int32}  {σ : TH} {t0 : Int32} (hf : f_X15_isRuleName_b53 σ t0 = some (r, z)) : v_ l D cy ka cX15_isRuleName RX15 1 (some FieldType.boolean) "isRuleName" 7 149 (qf_ D cy σ0 z (some (.int r))) σ0 z σ 53 [] [.int t0] := by
  unfold f_X15_isRuleName_b53 at hf
  obtain ⟨hb9, hf⟩ := gt_of hf
  exact v_zret hf (nz_ hb9) dX15_isRuleName_53
def f_X15_isRuleName_b48 (σ : TH) : Option (Int32 × TH) :=
  f_X15_isRuleName_b53 σ (1 : Int32)
set_option maxHeartbeats 4000000 in
set_option maxRecDepth 100000 in
theorem t_X15_isRuleName_b48 {l : Launch} {D : va_G} {cy : Nat → ClassId} {ka : Nat → Nat} {σ0 z : TH} {r : Int32}  {σ : TH}  (hf : f_X15_isRuleName_b48 σ  = some (r, z)) : v_ l D cy ka cX15_isRuleName RX15 1 (some FieldType.boolean) "isRuleName" 7 149 (qf_ D cy σ0 z (some (.int r))) σ0 z σ 48 [] [] := by
  unfold f_X15_isRuleName_b48 at hf
  refine v_iconst (v := 1) dX15_isRuleName_48 (by decide) ?_
  refine v_goto (tgt := 53) dX15_isRuleName_49 (by decide) ?_
  refine v_sub [] (L2 := []) rfl ?_
  exact t_X15_isRuleName_b53  hf
/-- LivesAheadModel.isRuleName()Z -/
def f_X15_isRuleName (σ : TH) (p0 : Nat) : Option (Int32 × TH) :=
  gt_ (kd_ σ p0 = 17) <| bd_ (f_X15_sourceHere σ p0) fun x1 s2 => if x1 = (-1 : Int32) then (bd_ (f_X15_isWord s2 p0 17) fun x3 s4 => if x3 = 0 then (bd_ (f_X15_isWord s4 p0 13) fun x5 s6 => if x5 = 0 then (bd_ (f_X15_isWord s6 p0 5) fun x7 s8 => if x7 = 0 then (bd_ (f_X15_isWord s8 p0 11) fun x9 s10 => if x9 = 0 then (f_X15_isRuleName_b53 s10 (0 : Int32)) else (f_X15_isRuleName_b48 s10 )) else (f_X15_isRuleName_b48 s8 )) else (f_X15_isRuleName_b48 s6 )) else (f_X15_isRuleName_b48 s4 )) else (f_X15_isRuleName_b48 s2 )
set_option maxHeartbeats 4000000 in
set_option maxRecDepth 100000 in
theorem c_X15_isRuleName {l : Launch} {D : va_G} {cy : Nat → ClassId} {ka : Nat → Nat} {σ z : TH} {p0 : Nat} {r : Int32} (hf : f_X15_isRuleName σ p0 = some (r, z)) : ct_ l D cy ka yX15_isRuleName 7 149 [va_rf (some p0)] σ (some (.int r)) z := by
  unfold f_X15_isRuleName at hf
  refine v_start (cc := cX15_isRuleName) (own := RX15) (maxL := 1) (ret := (some FieldType.boolean)) (nm := "isRuleName") (by decide +kernel) kw_1941 rfl rfl (by simp [lg_sl, va_rf_cat, cat_i, cat_l]) ?_
  refine v_eqL (L2 := [(0, va_rf (some p0))]) (by simp [lv_args, va_rf_cat, cat_i, cat_l]) ?_
  refine v_aload_n (x := (some p0)) dX15_isRuleName_0 rfl 0 rfl ?_
  obtain ⟨hk_p0, hf⟩ := gt_of hf
  obtain ⟨x1, s2, hcs2, hf⟩ := bd_of hf
  have hts2 := c_X15_sourceHere (l := l) (D := D) (cy := cy) (ka := ka) hcs2
  refine v_callV cb_16 hk_p0 (As := []) (rest := []) hts2 yb_X15_sourceHere kw_1942 kw_1944 kp_107 rfl ⟨Nat.le_of_ble_eq_true rfl, Nat.le_of_ble_eq_true rfl⟩ rfl (cat_len (Nat.le_of_ble_eq_true rfl)) dX15_isRuleName_1 ?_
  have hk_p0 := tk_ hts2.1 hk_p0
  show v_ l D cy ka cX15_isRuleName RX15 1 (some FieldType.boolean) "isRuleName" 7 149 (qf_ D cy σ z (some (.int r))) σ z _ 4 [(0, va_rf (some p0))] [.int x1]
  refine v_iconst (v := (-1)) dX15_isRuleName_4 (by decide) ?_
  refine v_icmp_ne (tgt := 48) hf dX15_isRuleName_5 (by decide) (fun hq hf => ?_) (fun hq hf => ?_)
  · refine v_aload_n (x := (some p0)) dX15_isRuleName_8 rfl 0 rfl ?_
    refine v_ldcwS (tx := "sources") (n := 17) (by decide) dX15_isRuleName_9 ?_
    obtain ⟨x3, s4, hcs4, hf⟩ := bd_of hf
    have hts4 := c_X15_isWord (l := l) (D := D) (cy := cy) (ka := ka) hcs4
    refine v_callV cb_16 hk_p0 (As := [va_rf (some (ka 17))]) (rest := []) hts4 yb_X15_isWord kw_1911 kw_1913 kp_102 rfl ⟨Nat.le_of_ble_eq_true rfl, Nat.le_of_ble_eq_true rfl⟩ rfl (cat_len (Nat.le_of_ble_eq_true rfl)) dX15_isRuleName_12 ?_
    have hk_p0 := tk_ hts4.1 hk_p0
    show v_ l D cy ka cX15_isRuleName RX15 1 (some FieldType.boolean) "isRuleName" 7 149 (qf_ D cy σ z (some (.int r))) σ z _ 15 [(0, va_rf (some p0))] [.int x3]
    refine v_if_ne (tgt := 48) hf dX15_isRuleName_15 (by decide) (fun hq hf => ?_) (fun hq hf => ?_)
    · refine v_aload_n (x := (some p0)) dX15_isRuleName_18 rfl 0 rfl ?_
      refine v_ldcwS (tx := "hours") (n := 13) (by decide) dX15_isRuleName_19 ?_
      obtain ⟨x5, s6, hcs6, hf⟩ := bd_of hf
      have hts6 := c_X15_isWord (l := l) (D := D) (cy := cy) (ka := ka) hcs6
      refine v_callV cb_16 hk_p0 (As := [va_rf (some (ka 13))]) (rest := []) hts6 yb_X15_isWord kw_1911 kw_1913 kp_102 rfl ⟨Nat.le_of_ble_eq_true rfl, Nat.le_of_ble_eq_true rfl⟩ rfl (cat_len (Nat.le_of_ble_eq_true rfl)) dX15_isRuleName_22 ?_
      have hk_p0 := tk_ hts6.1 hk_p0
      show v_ l D cy ka cX15_isRuleName RX15 1 (some FieldType.boolean) "isRuleName" 7 149 (qf_ D cy σ z (some (.int r))) σ z _ 25 [(0, va_rf (some p0))] [.int x5]
      refine v_if_ne (tgt := 48) hf dX15_isRuleName_25 (by decide) (fun hq hf => ?_) (fun hq hf => ?_)
      · refine v_aload_n (x := (some p0)) dX15_isRuleName_28 rfl 0 rfl ?_
        refine v_ldcwS (tx := "age") (n := 5) (by decide) dX15_isRuleName_29 ?_
        obtain ⟨x7, s8, hcs8, hf⟩ := bd_of hf
        have hts8 := c_X15_isWord (l := l) (D := D) (cy := cy) (ka := ka) hcs8
        refine v_callV cb_16 hk_p0 (As := [va_rf (some (ka 5))]) (rest := []) hts8 yb_X15_isWord kw_1911 kw_1913 kp_102 rfl ⟨Nat.le_of_ble_eq_true rfl, Nat.le_of_ble_eq_true rfl⟩ rfl (cat_len (Nat.le_of_ble_eq_true rfl)) dX15_isRuleName_32 ?_
        have hk_p0 := tk_ hts8.1 hk_p0
        show v_ l D cy ka cX15_isRuleName RX15 1 (some FieldType.boolean) "isRuleName" 7 149 (qf_ D cy σ z (some (.int r))) σ z _ 35 [(0, va_rf (some p0))] [.int x7]
        refine v_if_ne (tgt := 48) hf dX15_isRuleName_35 (by decide) (fun hq hf => ?_) (fun hq hf => ?_)
        · refine v_aload_n (x := (some p0)) dX15_isRuleName_38 rfl 0 rfl ?_
          refine v_ldcwS (tx := "worth") (n := 11) (by decide) dX15_isRuleName_39 ?_
          obtain ⟨x9, s10, hcs10, hf⟩ := bd_of hf
          have hts10 := c_X15_isWord (l := l) (D := D) (cy := cy) (ka := ka) hcs10
          refine v_callV cb_16 hk_p0 (As := [va_rf (some (ka 11))]) (rest := []) hts10 yb_X15_isWord kw_1911 kw_1913 kp_102 rfl ⟨Nat.le_of_ble_eq_true rfl, Nat.le_of_ble_eq_true rfl⟩ rfl (cat_len (Nat.le_of_ble_eq_true rfl)) dX15_isRuleName_42 ?_
          have hk_p0 := tk_ hts10.1 hk_p0
          show v_ l D cy ka cX15_isRuleName RX15 1 (some FieldType.boolean) "isRuleName" 7 149 (qf_ D cy σ z (some (.int r))) σ z _ 45 [(0, va_rf (some p0))] [.int x9]
          refine v_if_eq (tgt := 52) hf dX15_isRuleName_45 (by decide) (fun hq hf => ?_) (fun hq hf => ?_)
          · refine v_iconst (v := 0) dX15_isRuleName_52 (by decide) ?_
            refine v_sub [] (L2 := []) rfl ?_
            exact t_X15_isRuleName_b53  hf
          · refine v_sub [] (L2 := []) rfl ?_
            exact t_X15_isRuleName_b48  hf
        · refine v_sub [] (L2 := []) rfl ?_
          exact t_X15_isRuleName_b48  hf
      · refine v_sub [] (L2 := []) rfl ?_
        exact t_X15_isRuleName_b48  hf
    · refine v_sub [] (L2 := []) rfl ?_
      exact t_X15_isRuleName_b48  hf
  · refine v_sub [] (L2 := []) rfl ?_
    exact t_X15_isRuleName_b48  hf
theorem dX15_ruleValue_0 : decode cX15_ruleValue 0 = .ok (.aload_n 0, 1) := by decide +kernel
theorem dX15_ruleValue_1 : decode cX15_ruleValue 1 = .ok (.ldc_w 434, 3) := by decide +kernel
theorem dX15_ruleValue_4 : decode cX15_ruleValue 4 = .ok (.invokevirtual 357, 3) := by decide +kernel
theorem dX15_ruleValue_7 : decode cX15_ruleValue 7 = .ok (.ifCond .eq 16, 3) := by decide +kernel
theorem dX15_ruleValue_10 : decode cX15_ruleValue 10 = .ok (.aload_n 0, 1) := by decide +kernel
theorem dX15_ruleValue_11 : decode cX15_ruleValue 11 = .ok (.aload_n 0, 1) := by decide +kernel
theorem dX15_ruleValue_12 : decode cX15_ruleValue 12 = .ok (.getfield 402, 3) := by decide +kernel
theorem dX15_ruleValue_15 : decode cX15_ruleValue 15 = .ok (.aload_n 0, 1) := by decide +kernel
theorem dX15_ruleValue_16 : decode cX15_ruleValue 16 = .ok (.getfield 405, 3) := by decide +kernel
theorem dX15_ruleValue_19 : decode cX15_ruleValue 19 = .ok (.invokevirtual 234, 3) := by decide +kernel
theorem dX15_ruleValue_22 : decode cX15_ruleValue 22 = .ok (.ireturn, 1) := by decide +kernel
theorem dX15_ruleValue_23 : decode cX15_ruleValue 23 = .ok (.aload_n 0, 1) := by decide +kernel
theorem dX15_ruleValue_24 : decode cX15_ruleValue 24 = .ok (.ldc_w 439, 3) := by decide +kernel
theorem dX15_ruleValue_27 : decode cX15_ruleValue 27 = .ok (.invokevirtual 357, 3) := by decide +kernel
theorem dX15_ruleValue_30 : decode cX15_ruleValue 30 = .ok (.ifCond .eq 13, 3) := by decide +kernel
theorem dX15_ruleValue_33 : decode cX15_ruleValue 33 = .ok (.aload_n 0, 1) := by decide +kernel
theorem dX15_ruleValue_34 : decode cX15_ruleValue 34 = .ok (.getfield 29, 3) := by decide +kernel
theorem dX15_ruleValue_37 : decode cX15_ruleValue 37 = .ok (.aload_n 0, 1) := by decide +kernel
theorem dX15_ruleValue_38 : decode cX15_ruleValue 38 = .ok (.getfield 402, 3) := by decide +kernel
theorem dX15_ruleValue_41 : decode cX15_ruleValue 41 = .ok (.iaload, 1) := by decide +kernel
theorem dX15_ruleValue_42 : decode cX15_ruleValue 42 = .ok (.ireturn, 1) := by decide +kernel
theorem dX15_ruleValue_43 : decode cX15_ruleValue 43 = .ok (.aload_n 0, 1) := by decide +kernel
theorem dX15_ruleValue_44 : decode cX15_ruleValue 44 = .ok (.invokevirtual 440, 3) := by decide +kernel
theorem dX15_ruleValue_47 : decode cX15_ruleValue 47 = .ok (.istore_n 1, 1) := by decide +kernel
theorem dX15_ruleValue_48 : decode cX15_ruleValue 48 = .ok (.iload_n 1, 1) := by decide +kernel
theorem dX15_ruleValue_49 : decode cX15_ruleValue 49 = .ok (.iconst (-1), 1) := by decide +kernel
theorem dX15_ruleValue_50 : decode cX15_ruleValue 50 = .ok (.if_icmp .eq 13, 3) := by decide +kernel
theorem dX15_ruleValue_53 : decode cX15_ruleValue 53 = .ok (.aload_n 0, 1) := by decide +kernel
theorem dX15_ruleValue_54 : decode cX15_ruleValue 54 = .ok (.aload_n 0, 1) := by decide +kernel
theorem dX15_ruleValue_55 : decode cX15_ruleValue 55 = .ok (.getfield 402, 3) := by decide +kernel
theorem dX15_ruleValue_58 : decode cX15_ruleValue 58 = .ok (.iload_n 1, 1) := by decide +kernel
theorem dX15_ruleValue_59 : decode cX15_ruleValue 59 = .ok (.invokevirtual 456, 3) := by decide +kernel
theorem dX15_ruleValue_62 : decode cX15_ruleValue 62 = .ok (.ireturn, 1) := by decide +kernel
theorem dX15_ruleValue_63 : decode cX15_ruleValue 63 = .ok (.aload_n 0, 1) := by decide +kernel
theorem dX15_ruleValue_64 : decode cX15_ruleValue 64 = .ok (.ldc_w 445, 3) := by decide +kernel
theorem dX15_ruleValue_67 : decode cX15_ruleValue 67 = .ok (.invokevirtual 357, 3) := by decide +kernel
theorem dX15_ruleValue_70 : decode cX15_ruleValue 70 = .ok (.ifCond .eq 12, 3) := by decide +kernel
theorem dX15_ruleValue_73 : decode cX15_ruleValue 73 = .ok (.aload_n 0, 1) := by decide +kernel
theorem dX15_ruleValue_74 : decode cX15_ruleValue 74 = .ok (.aload_n 0, 1) := by decide +kernel
theorem dX15_ruleValue_75 : decode cX15_ruleValue 75 = .ok (.getfield 402, 3) := by decide +kernel
theorem dX15_ruleValue_78 : decode cX15_ruleValue 78 = .ok (.invokevirtual 459, 3) := by decide +kernel
theorem dX15_ruleValue_81 : decode cX15_ruleValue 81 = .ok (.ireturn, 1) := by decide +kernel
theorem dX15_ruleValue_82 : decode cX15_ruleValue 82 = .ok (.iconst 0, 1) := by decide +kernel
theorem dX15_ruleValue_83 : decode cX15_ruleValue 83 = .ok (.istore_n 2, 1) := by decide +kernel
theorem dX15_ruleValue_84 : decode cX15_ruleValue 84 = .ok (.iconst 0, 1) := by decide +kernel
theorem dX15_ruleValue_85 : decode cX15_ruleValue 85 = .ok (.istore_n 3, 1) := by decide +kernel
theorem dX15_ruleValue_86 : decode cX15_ruleValue 86 = .ok (.iload_n 3, 1) := by decide +kernel
theorem dX15_ruleValue_87 : decode cX15_ruleValue 87 = .ok (.iconst 5, 1) := by decide +kernel
theorem dX15_ruleValue_88 : decode cX15_ruleValue 88 = .ok (.if_icmp .ge 29, 3) := by decide +kernel
theorem dX15_ruleValue_91 : decode cX15_ruleValue 91 = .ok (.iload_n 2, 1) := by decide +kernel
theorem dX15_ruleValue_92 : decode cX15_ruleValue 92 = .ok (.aload_n 0, 1) := by decide +kernel
theorem dX15_ruleValue_93 : decode cX15_ruleValue 93 = .ok (.aload_n 0, 1) := by decide +kernel
theorem dX15_ruleValue_94 : decode cX15_ruleValue 94 = .ok (.getfield 402, 3) := by decide +kernel
theorem dX15_ruleValue_97 : decode cX15_ruleValue 97 = .ok (.iload_n 3, 1) := by decide +kernel
theorem dX15_ruleValue_98 : decode cX15_ruleValue 98 = .ok (.invokevirtual 456, 3) := by decide +kernel
theorem dX15_ruleValue_101 : decode cX15_ruleValue 101 = .ok (.ifCond .le 7, 3) := by decide +kernel
theorem dX15_ruleValue_104 : decode cX15_ruleValue 104 = .ok (.iconst 1, 1) := by decide +kernel
theorem dX15_ruleValue_105 : decode cX15_ruleValue 105 = .ok (.goto 4, 3) := by decide +kernel
theorem dX15_ruleValue_108 : decode cX15_ruleValue 108 = .ok (.iconst 0, 1) := by decide +kernel
theorem dX15_ruleValue_109 : decode cX15_ruleValue 109 = .ok (.iadd, 1) := by decide +kernel
theorem dX15_ruleValue_110 : decode cX15_ruleValue 110 = .ok (.istore_n 2, 1) := by decide +kernel
theorem dX15_ruleValue_111 : decode cX15_ruleValue 111 = .ok (.iinc 3 1, 3) := by decide +kernel
theorem dX15_ruleValue_114 : decode cX15_ruleValue 114 = .ok (.goto (-28), 3) := by decide +kernel
theorem dX15_ruleValue_117 : decode cX15_ruleValue 117 = .ok (.iload_n 2, 1) := by decide +kernel
theorem dX15_ruleValue_118 : decode cX15_ruleValue 118 = .ok (.ireturn, 1) := by decide +kernel
def f_X15_ruleValue_b109 (rec_86 : TH → Nat → Int32 → Int32 → Option (Int32 × TH)) (σ : TH) (l0 : Nat) (l3 : Int32) (t0 : Int32) (t1 : Int32) : Option (Int32 × TH) :=
  lt_ (t1 + t0) fun x12 => lt_ (l3 + 1) fun x13 => rec_86 σ l0 x12 x13
set_option maxHeartbeats 4000000 in
set_option maxRecDepth 100000 in
theorem t_X15_ruleValue_b109 {l : Launch} {D : va_G} {cy : Nat → ClassId} {ka : Nat → Nat} {σ0 z : TH} {r : Int32} {rec_86 : TH → Nat → Int32 → Int32 → Option (Int32 × TH)} (hrec_86 : ∀ (σ : TH) (l0 : Nat) (l2 : Int32) (l3 : Int32), rec_86 σ l0 l2 l3 = some (r, z) → v_ l D cy ka cX15_ruleValue RX15 4 (some FieldType.int) "ruleValue" 7 149 (qf_ D cy σ0 z (some (.int r))) σ0 z σ 86 [(0, va_rf (some l0)), (2, .int l2), (3, .int l3)] []) {σ : TH} {l0 : Nat} {l3 : Int32} {t0 : Int32} {t1 : Int32} (hf : f_X15_ruleValue_b109 rec_86 σ l0 l3 t0 t1 = some (r, z)) : v_ l D cy ka cX15_ruleValue RX15 4 (some FieldType.int) "ruleValue" 7 149 (qf_ D cy σ0 z (some (.int r))) σ0 z σ 109 [(0, va_rf (some l0)), (3, .int l3)] [.int t0, .int t1] := by
  unfold f_X15_ruleValue_b109 at hf
  refine v_iadd dX15_ruleValue_109 ?_
  obtain ⟨x12, ex12⟩ : ∃ y : Int32, y = t1 + t0 := ⟨_, rfl⟩
  rw [lt_e, ← ex12] at hf
  rw [← ex12]
  refine v_istore_n [(2, .int x12), (0, va_rf (some l0)), (3, .int l3)] dX15_ruleValue_110 rfl (by decide) rfl ?_
  obtain ⟨x13, ex13⟩ : ∃ y : Int32, y = l3 + 1 := ⟨_, rfl⟩
  rw [lt_e, ← ex13] at hf
  refine v_iinc (v := x13) [(3, .int x13), (2, .int x12), (0, va_rf (some l0))] dX15_ruleValue_111 2 rfl (by rw [ex13]; rfl) (by decide) rfl ?_
  refine v_goto (tgt := 86) dX15_ruleValue_114 (by decide) ?_
  refine v_sub [2, 1, 0] (L2 := [(0, va_rf (some l0)), (2, .int x12), (3, .int x13)]) rfl ?_
  exact hrec_86 _ _ _ _ hf
def f_X15_ruleValue_b86 : Nat → TH → Nat → Int32 → Int32 → Option (Int32 × TH)
  | 0, _, _, _, _ => none
  | n + 1, σ, l0, l2, l3 => if (5 : Int32) ≤ l3 then (some (l2, σ)) else (gt_ (kd_ σ l0 = 17) <| lt_ (fi_ σ 1643 l0) fun x9 => bd_ (f_X15_reportsBy σ l0 x9 l3) fun x10 s11 => if x10 ≤ 0 then (f_X15_ruleValue_b109 (f_X15_ruleValue_b86 n) s11 l0 l3 (0 : Int32) l2) else (f_X15_ruleValue_b109 (f_X15_ruleValue_b86 n) s11 l0 l3 (1 : Int32) l2))
set_option maxHeartbeats 4000000 in
set_option maxRecDepth 100000 in
theorem t_X15_ruleValue_b86 {l : Launch} {D : va_G} {cy : Nat → ClassId} {ka : Nat → Nat} {σ0 z : TH} {r : Int32}  : ∀ (n : Nat) (σ : TH) (l0 : Nat) (l2 : Int32) (l3 : Int32), f_X15_ruleValue_b86 n σ l0 l2 l3 = some (r, z) → v_ l D cy ka cX15_ruleValue RX15 4 (some FieldType.int) "ruleValue" 7 149 (qf_ D cy σ0 z (some (.int r))) σ0 z σ 86 [(0, va_rf (some l0)), (2, .int l2), (3, .int l3)] [] := by
  intro n
  induction n with
  | zero => intro σ l0 l2 l3 hf; unfold f_X15_ruleValue_b86 at hf; cases hf
  | succ n ih =>
    intro σ l0 l2 l3 hf
    unfold f_X15_ruleValue_b86 at hf
    have hrec_86 := ih
    refine v_iload_n (x := l3) dX15_ruleValue_86 rfl 2 rfl ?_
    refine v_iconst (v := 5) dX15_ruleValue_87 (by decide) ?_
    refine v_icmp_ge (tgt := 117) hf dX15_ruleValue_88 (by decide) (fun hq hf => ?_) (fun hq hf => ?_)
    · refine v_iload_n (x := l2) dX15_ruleValue_117 rfl 1 rfl ?_
      exact v_iret hf dX15_ruleValue_118
    · refine v_iload_n (x := l2) dX15_ruleValue_91 rfl 1 rfl ?_
      refine v_aload_n (x := (some l0)) dX15_ruleValue_92 rfl 0 rfl ?_
      refine v_aload_n (x := (some l0)) dX15_ruleValue_93 rfl 0 rfl ?_
      obtain ⟨hk_l0, hf⟩ := gt_of hf
      refine v_geti cb_16 hk_l0 43 1643 rfl (by decide) rfl (lk_n kw_1500 rfl) hf dX15_ruleValue_94 (fun x9 hf => ?_)
      refine v_iload_n (x := l3) dX15_ruleValue_97 rfl 2 rfl ?_
      obtain ⟨x10, s11, hcs11, hf⟩ := bd_of hf
      have hts11 := c_X15_reportsBy (l := l) (D := D) (cy := cy) (ka := ka) hcs11
      refine v_callV cb_16 hk_l0 (As := [.int x9, .int l3]) (rest := [.int l2]) hts11 yb_X15_reportsBy kw_1970 kw_1972 kp_111 rfl ⟨Nat.le_of_ble_eq_true rfl, Nat.le_of_ble_eq_true rfl⟩ rfl (cat_len (Nat.le_of_ble_eq_true rfl)) dX15_ruleValue_98 ?_
      have hk_l0 := tk_ hts11.1 hk_l0
      show v_ l D cy ka cX15_ruleValue RX15 4 (some FieldType.int) "ruleValue" 7 149 (qf_ D cy σ0 z (some (.int r))) σ0 z _ 101 [(0, va_rf (some l0)), (2, .int l2), (3, .int l3)] [.int x10, .int l2]
      refine v_if_le (tgt := 108) hf dX15_ruleValue_101 (by decide) (fun hq hf => ?_) (fun hq hf => ?_)
      · refine v_iconst (v := 0) dX15_ruleValue_108 (by decide) ?_
        refine v_sub [0, 2] (L2 := [(0, va_rf (some l0)), (3, .int l3)]) rfl ?_
        exact t_X15_ruleValue_b109 hrec_86 hf
      · refine v_iconst (v := 1) dX15_ruleValue_104 (by decide) ?_
        refine v_goto (tgt := 109) dX15_ruleValue_105 (by decide) ?_
        refine v_sub [0, 2] (L2 := [(0, va_rf (some l0)), (3, .int l3)]) rfl ?_
        exact t_X15_ruleValue_b109 hrec_86 hf
/-- LivesAheadModel.ruleValue()I -/
def f_X15_ruleValue (σ : TH) (p0 : Nat) : Option (Int32 × TH) :=
  gt_ (kd_ σ p0 = 17) <| bd_ (f_X15_isWord σ p0 5) fun x1 s2 => if x1 = 0 then (bd_ (f_X15_isWord s2 p0 11) fun x3 s4 => if x3 = 0 then (bd_ (f_X15_sourceHere s4 p0) fun x5 s6 => if x5 = (-1 : Int32) then (bd_ (f_X15_isWord s6 p0 13) fun x7 s8 => if x7 = 0 then (f_X15_ruleValue_b86 fu_ s8 p0 (0 : Int32) (0 : Int32)) else (lt_ (fi_ s8 1643 p0) fun x14 => bd_ (f_X15_hoursSince s8 p0 x14) fun x15 s16 => some (x15, s16))) else (lt_ (fi_ s6 1643 p0) fun x17 => bd_ (f_X15_reportsBy s6 p0 x17 x5) fun x18 s19 => some (x18, s19))) else (lt_ (fr_ s4 1610 p0) fun r20 => lt_ (fi_ s4 1643 p0) fun x21 => nn_ r20 fun a22 => gt_ (kd_ s4 a22 = 20) <| gt_ (¬ (x21 < 0 ∨ ln_ s4 a22 ≤ x21.toNatClampNeg)) <| lt_ (ai_ s4 a22 x21.toNatClampNeg) fun x23 => some (x23, s4))) else (lt_ (fi_ s2 1643 p0) fun x24 => lt_ (fi_ s2 1644 p0) fun x25 => bd_ (f_X15_ageOn s2 p0 x24 x25) fun x26 s27 => some (x26, s27))
set_option maxHeartbeats 4000000 in
set_option maxRecDepth 100000 in
theorem c_X15_ruleValue {l : Launch} {D : va_G} {cy : Nat → ClassId} {ka : Nat → Nat} {σ z : TH} {p0 : Nat} {r : Int32} (hf : f_X15_ruleValue σ p0 = some (r, z)) : ct_ l D cy ka yX15_ruleValue 7 149 [va_rf (some p0)] σ (some (.int r)) z := by
  unfold f_X15_ruleValue at hf
  refine v_start (cc := cX15_ruleValue) (own := RX15) (maxL := 4) (ret := (some FieldType.int)) (nm := "ruleValue") (by decide +kernel) kw_1969 rfl rfl (by simp [lg_sl, va_rf_cat, cat_i, cat_l]) ?_
  refine v_eqL (L2 := [(0, va_rf (some p0))]) (by simp [lv_args, va_rf_cat, cat_i, cat_l]) ?_
  refine v_aload_n (x := (some p0)) dX15_ruleValue_0 rfl 0 rfl ?_
  refine v_ldcwS (tx := "age") (n := 5) (by decide) dX15_ruleValue_1 ?_
  obtain ⟨hk_p0, hf⟩ := gt_of hf
  obtain ⟨x1, s2, hcs2, hf⟩ := bd_of hf
  have hts2 := c_X15_isWord (l := l) (D := D) (cy := cy) (ka := ka) hcs2
  refine v_callV cb_16 hk_p0 (As := [va_rf (some (ka 5))]) (rest := []) hts2 yb_X15_isWord kw_1911 kw_1913 kp_102 rfl ⟨Nat.le_of_ble_eq_true rfl, Nat.le_of_ble_eq_true rfl⟩ rfl (cat_len (Nat.le_of_ble_eq_true rfl)) dX15_ruleValue_4 ?_
  have hk_p0 := tk_ hts2.1 hk_p0
  show v_ l D cy ka cX15_ruleValue RX15 4 (some FieldType.int) "ruleValue" 7 149 (qf_ D cy σ z (some (.int r))) σ z _ 7 [(0, va_rf (some p0))] [.int x1]
  refine v_if_eq (tgt := 23) hf dX15_ruleValue_7 (by decide) (fun hq hf => ?_) (fun hq hf => ?_)
  · refine v_aload_n (x := (some p0)) dX15_ruleValue_23 rfl 0 rfl ?_
    refine v_ldcwS (tx := "worth") (n := 11) (by decide) dX15_ruleValue_24 ?_
    obtain ⟨x3, s4, hcs4, hf⟩ := bd_of hf
    have hts4 := c_X15_isWord (l := l) (D := D) (cy := cy) (ka := ka) hcs4
    refine v_callV cb_16 hk_p0 (As := [va_rf (some (ka 11))]) (rest := []) hts4 yb_X15_isWord kw_1911 kw_1913 kp_102 rfl ⟨Nat.le_of_ble_eq_true rfl, Nat.le_of_ble_eq_true rfl⟩ rfl (cat_len (Nat.le_of_ble_eq_true rfl)) dX15_ruleValue_27 ?_
    have hk_p0 := tk_ hts4.1 hk_p0
    show v_ l D cy ka cX15_ruleValue RX15 4 (some FieldType.int) "ruleValue" 7 149 (qf_ D cy σ z (some (.int r))) σ z _ 30 [(0, va_rf (some p0))] [.int x3]
    refine v_if_eq (tgt := 43) hf dX15_ruleValue_30 (by decide) (fun hq hf => ?_) (fun hq hf => ?_)
    · refine v_aload_n (x := (some p0)) dX15_ruleValue_43 rfl 0 rfl ?_
      obtain ⟨x5, s6, hcs6, hf⟩ := bd_of hf
      have hts6 := c_X15_sourceHere (l := l) (D := D) (cy := cy) (ka := ka) hcs6
      refine v_callV cb_16 hk_p0 (As := []) (rest := []) hts6 yb_X15_sourceHere kw_1942 kw_1944 kp_107 rfl ⟨Nat.le_of_ble_eq_true rfl, Nat.le_of_ble_eq_true rfl⟩ rfl (cat_len (Nat.le_of_ble_eq_true rfl)) dX15_ruleValue_44 ?_
      have hk_p0 := tk_ hts6.1 hk_p0
      show v_ l D cy ka cX15_ruleValue RX15 4 (some FieldType.int) "ruleValue" 7 149 (qf_ D cy σ z (some (.int r))) σ z _ 47 [(0, va_rf (some p0))] [.int x5]
      refine v_istore_n [(1, .int x5), (0, va_rf (some p0))] dX15_ruleValue_47 rfl (by decide) rfl ?_
      refine v_iload_n (x := x5) dX15_ruleValue_48 rfl 0 rfl ?_
      refine v_iconst (v := (-1)) dX15_ruleValue_49 (by decide) ?_
      refine v_icmp_eq (tgt := 63) hf dX15_ruleValue_50 (by decide) (fun hq hf => ?_) (fun hq hf => ?_)
      · refine v_aload_n (x := (some p0)) dX15_ruleValue_63 rfl 1 rfl ?_
        refine v_ldcwS (tx := "hours") (n := 13) (by decide) dX15_ruleValue_64 ?_
        obtain ⟨x7, s8, hcs8, hf⟩ := bd_of hf
        have hts8 := c_X15_isWord (l := l) (D := D) (cy := cy) (ka := ka) hcs8
        refine v_callV cb_16 hk_p0 (As := [va_rf (some (ka 13))]) (rest := []) hts8 yb_X15_isWord kw_1911 kw_1913 kp_102 rfl ⟨Nat.le_of_ble_eq_true rfl, Nat.le_of_ble_eq_true rfl⟩ rfl (cat_len (Nat.le_of_ble_eq_true rfl)) dX15_ruleValue_67 ?_
        have hk_p0 := tk_ hts8.1 hk_p0
        show v_ l D cy ka cX15_ruleValue RX15 4 (some FieldType.int) "ruleValue" 7 149 (qf_ D cy σ z (some (.int r))) σ z _ 70 [(1, .int x5), (0, va_rf (some p0))] [.int x7]
        refine v_if_eq (tgt := 82) hf dX15_ruleValue_70 (by decide) (fun hq hf => ?_) (fun hq hf => ?_)
        · refine v_iconst (v := 0) dX15_ruleValue_82 (by decide) ?_
          refine v_istore_n [(2, .int (0 : Int32)), (1, .int x5), (0, va_rf (some p0))] dX15_ruleValue_83 rfl (by decide) rfl ?_
          refine v_iconst (v := 0) dX15_ruleValue_84 (by decide) ?_
          refine v_istore_n [(3, .int (0 : Int32)), (2, .int (0 : Int32)), (1, .int x5), (0, va_rf (some p0))] dX15_ruleValue_85 rfl (by decide) rfl ?_
          refine v_sub [3, 1, 0] (L2 := [(0, va_rf (some p0)), (2, .int (0 : Int32)), (3, .int (0 : Int32))]) rfl ?_
          exact t_X15_ruleValue_b86  _ _ _ _ _ hf
        · refine v_aload_n (x := (some p0)) dX15_ruleValue_73 rfl 1 rfl ?_
          refine v_aload_n (x := (some p0)) dX15_ruleValue_74 rfl 1 rfl ?_
          refine v_geti cb_16 hk_p0 43 1643 rfl (by decide) rfl (lk_n kw_1500 rfl) hf dX15_ruleValue_75 (fun x14 hf => ?_)
          obtain ⟨x15, s16, hcs16, hf⟩ := bd_of hf
          have hts16 := c_X15_hoursSince (l := l) (D := D) (cy := cy) (ka := ka) hcs16
          refine v_callV cb_16 hk_p0 (As := [.int x14]) (rest := []) hts16 yb_X15_hoursSince kw_1986 kw_1988 kp_115 rfl ⟨Nat.le_of_ble_eq_true rfl, Nat.le_of_ble_eq_true rfl⟩ rfl (cat_len (Nat.le_of_ble_eq_true rfl)) dX15_ruleValue_78 ?_
          have hk_p0 := tk_ hts16.1 hk_p0
          show v_ l D cy ka cX15_ruleValue RX15 4 (some FieldType.int) "ruleValue" 7 149 (qf_ D cy σ z (some (.int r))) σ z _ 81 [(1, .int x5), (0, va_rf (some p0))] [.int x15]
          exact v_iret hf dX15_ruleValue_81
      · refine v_aload_n (x := (some p0)) dX15_ruleValue_53 rfl 1 rfl ?_
        refine v_aload_n (x := (some p0)) dX15_ruleValue_54 rfl 1 rfl ?_
        refine v_geti cb_16 hk_p0 43 1643 rfl (by decide) rfl (lk_n kw_1500 rfl) hf dX15_ruleValue_55 (fun x17 hf => ?_)
        refine v_iload_n (x := x5) dX15_ruleValue_58 rfl 0 rfl ?_
        obtain ⟨x18, s19, hcs19, hf⟩ := bd_of hf
        have hts19 := c_X15_reportsBy (l := l) (D := D) (cy := cy) (ka := ka) hcs19
        refine v_callV cb_16 hk_p0 (As := [.int x17, .int x5]) (rest := []) hts19 yb_X15_reportsBy kw_1970 kw_1972 kp_111 rfl ⟨Nat.le_of_ble_eq_true rfl, Nat.le_of_ble_eq_true rfl⟩ rfl (cat_len (Nat.le_of_ble_eq_true rfl)) dX15_ruleValue_59 ?_
        have hk_p0 := tk_ hts19.1 hk_p0
        show v_ l D cy ka cX15_ruleValue RX15 4 (some FieldType.int) "ruleValue" 7 149 (qf_ D cy σ z (some (.int r))) σ z _ 62 [(1, .int x5), (0, va_rf (some p0))] [.int x18]
        exact v_iret hf dX15_ruleValue_62
    · refine v_aload_n (x := (some p0)) dX15_ruleValue_33 rfl 0 rfl ?_
      refine v_getr cb_16 hk_p0 10 1610 rfl (by decide) rfl (lk_n kw_1467 rfl) hf dX15_ruleValue_34 (fun r20 hf => ?_)
      refine v_aload_n (x := (some p0)) dX15_ruleValue_37 rfl 0 rfl ?_
      refine v_geti cb_16 hk_p0 43 1643 rfl (by decide) rfl (lk_n kw_1500 rfl) hf dX15_ruleValue_38 (fun x21 hf => ?_)
      obtain ⟨a22, rfl, hf⟩ := nn_of hf
      obtain ⟨hk_a22, hf⟩ := gt_of hf
      refine v_iald hk_a22 hf dX15_ruleValue_41 (fun x23 hf => ?_)
      exact v_iret hf dX15_ruleValue_42
  · refine v_aload_n (x := (some p0)) dX15_ruleValue_10 rfl 0 rfl ?_
    refine v_aload_n (x := (some p0)) dX15_ruleValue_11 rfl 0 rfl ?_
    refine v_geti cb_16 hk_p0 43 1643 rfl (by decide) rfl (lk_n kw_1500 rfl) hf dX15_ruleValue_12 (fun x24 hf => ?_)
    refine v_aload_n (x := (some p0)) dX15_ruleValue_15 rfl 0 rfl ?_
    refine v_geti cb_16 hk_p0 44 1644 rfl (by decide) rfl (lk_n kw_1501 rfl) hf dX15_ruleValue_16 (fun x25 hf => ?_)
    obtain ⟨x26, s27, hcs27, hf⟩ := bd_of hf
    have hts27 := c_X15_ageOn (l := l) (D := D) (cy := cy) (ka := ka) hcs27
    refine v_callV cb_16 hk_p0 (As := [.int x24, .int x25]) (rest := []) hts27 yb_X15_ageOn kw_1778 kw_1780 kp_85 rfl ⟨Nat.le_of_ble_eq_true rfl, Nat.le_of_ble_eq_true rfl⟩ rfl (cat_len (Nat.le_of_ble_eq_true rfl)) dX15_ruleValue_19 ?_
    have hk_p0 := tk_ hts27.1 hk_p0
    show v_ l D cy ka cX15_ruleValue RX15 4 (some FieldType.int) "ruleValue" 7 149 (qf_ D cy σ z (some (.int r))) σ z _ 22 [(0, va_rf (some p0))] [.int x26]
    exact v_iret hf dX15_ruleValue_22
theorem dX15_value_0 : decode cX15_value 0 = .ok (.aload_n 0, 1) := by decide +kernel
theorem dX15_value_1 : decode cX15_value 1 = .ok (.ldc_w 434, 3) := by decide +kernel
theorem dX15_value_4 : decode cX15_value 4 = .ok (.invokevirtual 357, 3) := by decide +kernel
theorem dX15_value_7 : decode cX15_value 7 = .ok (.ifCond .eq 16, 3) := by decide +kernel
theorem dX15_value_10 : decode cX15_value 10 = .ok (.aload_n 0, 1) := by decide +kernel
theorem dX15_value_11 : decode cX15_value 11 = .ok (.aload_n 0, 1) := by decide +kernel
theorem dX15_value_12 : decode cX15_value 12 = .ok (.getfield 402, 3) := by decide +kernel
theorem dX15_value_15 : decode cX15_value 15 = .ok (.aload_n 0, 1) := by decide +kernel
theorem dX15_value_16 : decode cX15_value 16 = .ok (.getfield 405, 3) := by decide +kernel
theorem dX15_value_19 : decode cX15_value 19 = .ok (.invokevirtual 234, 3) := by decide +kernel
theorem dX15_value_22 : decode cX15_value 22 = .ok (.ireturn, 1) := by decide +kernel
theorem dX15_value_23 : decode cX15_value 23 = .ok (.aload_n 0, 1) := by decide +kernel
theorem dX15_value_24 : decode cX15_value 24 = .ok (.ldc_w 436, 3) := by decide +kernel
theorem dX15_value_27 : decode cX15_value 27 = .ok (.invokevirtual 357, 3) := by decide +kernel
theorem dX15_value_30 : decode cX15_value 30 = .ok (.ifCond .eq 26, 3) := by decide +kernel
theorem dX15_value_33 : decode cX15_value 33 = .ok (.bipush 100, 2) := by decide +kernel
theorem dX15_value_35 : decode cX15_value 35 = .ok (.aload_n 0, 1) := by decide +kernel
theorem dX15_value_36 : decode cX15_value 36 = .ok (.getfield 26, 3) := by decide +kernel
theorem dX15_value_39 : decode cX15_value 39 = .ok (.aload_n 0, 1) := by decide +kernel
theorem dX15_value_40 : decode cX15_value 40 = .ok (.getfield 402, 3) := by decide +kernel
theorem dX15_value_43 : decode cX15_value 43 = .ok (.iaload, 1) := by decide +kernel
theorem dX15_value_44 : decode cX15_value 44 = .ok (.sipush 365, 3) := by decide +kernel
theorem dX15_value_47 : decode cX15_value 47 = .ok (.iadd, 1) := by decide +kernel
theorem dX15_value_48 : decode cX15_value 48 = .ok (.iconst 1, 1) := by decide +kernel
theorem dX15_value_49 : decode cX15_value 49 = .ok (.isub, 1) := by decide +kernel
theorem dX15_value_50 : decode cX15_value 50 = .ok (.sipush 365, 3) := by decide +kernel
theorem dX15_value_53 : decode cX15_value 53 = .ok (.idiv, 1) := by decide +kernel
theorem dX15_value_54 : decode cX15_value 54 = .ok (.isub, 1) := by decide +kernel
theorem dX15_value_55 : decode cX15_value 55 = .ok (.ireturn, 1) := by decide +kernel
theorem dX15_value_56 : decode cX15_value 56 = .ok (.aload_n 0, 1) := by decide +kernel
theorem dX15_value_57 : decode cX15_value 57 = .ok (.ldc_w 437, 3) := by decide +kernel
theorem dX15_value_60 : decode cX15_value 60 = .ok (.invokevirtual 357, 3) := by decide +kernel
theorem dX15_value_63 : decode cX15_value 63 = .ok (.ifCond .eq 15, 3) := by decide +kernel
theorem dX15_value_66 : decode cX15_value 66 = .ok (.bipush 100, 2) := by decide +kernel
theorem dX15_value_68 : decode cX15_value 68 = .ok (.aload_n 0, 1) := by decide +kernel
theorem dX15_value_69 : decode cX15_value 69 = .ok (.getfield 405, 3) := by decide +kernel
theorem dX15_value_72 : decode cX15_value 72 = .ok (.sipush 365, 3) := by decide +kernel
theorem dX15_value_75 : decode cX15_value 75 = .ok (.idiv, 1) := by decide +kernel
theorem dX15_value_76 : decode cX15_value 76 = .ok (.iadd, 1) := by decide +kernel
theorem dX15_value_77 : decode cX15_value 77 = .ok (.ireturn, 1) := by decide +kernel
theorem dX15_value_78 : decode cX15_value 78 = .ok (.aload_n 0, 1) := by decide +kernel
theorem dX15_value_79 : decode cX15_value 79 = .ok (.ldc_w 439, 3) := by decide +kernel
theorem dX15_value_82 : decode cX15_value 82 = .ok (.invokevirtual 357, 3) := by decide +kernel
theorem dX15_value_85 : decode cX15_value 85 = .ok (.ifCond .eq 13, 3) := by decide +kernel
theorem dX15_value_88 : decode cX15_value 88 = .ok (.aload_n 0, 1) := by decide +kernel
theorem dX15_value_89 : decode cX15_value 89 = .ok (.getfield 29, 3) := by decide +kernel
theorem dX15_value_92 : decode cX15_value 92 = .ok (.aload_n 0, 1) := by decide +kernel
theorem dX15_value_93 : decode cX15_value 93 = .ok (.getfield 402, 3) := by decide +kernel
theorem dX15_value_96 : decode cX15_value 96 = .ok (.iaload, 1) := by decide +kernel
theorem dX15_value_97 : decode cX15_value 97 = .ok (.ireturn, 1) := by decide +kernel
theorem dX15_value_98 : decode cX15_value 98 = .ok (.aload_n 0, 1) := by decide +kernel
theorem dX15_value_99 : decode cX15_value 99 = .ok (.dup, 1) := by decide +kernel
theorem dX15_value_100 : decode cX15_value 100 = .ok (.getfield 399, 3) := by decide +kernel
theorem dX15_value_103 : decode cX15_value 103 = .ok (.iconst 1, 1) := by decide +kernel
theorem dX15_value_104 : decode cX15_value 104 = .ok (.aload_n 0, 1) := by decide +kernel
theorem dX15_value_105 : decode cX15_value 105 = .ok (.getfield 309, 3) := by decide +kernel
theorem dX15_value_108 : decode cX15_value 108 = .ok (.ishl, 1) := by decide +kernel
theorem dX15_value_109 : decode cX15_value 109 = .ok (.ior, 1) := by decide +kernel
theorem dX15_value_110 : decode cX15_value 110 = .ok (.putfield 399, 3) := by decide +kernel
theorem dX15_value_113 : decode cX15_value 113 = .ok (.aload_n 0, 1) := by decide +kernel
theorem dX15_value_114 : decode cX15_value 114 = .ok (.aload_n 0, 1) := by decide +kernel
theorem dX15_value_115 : decode cX15_value 115 = .ok (.getfield 402, 3) := by decide +kernel
theorem dX15_value_118 : decode cX15_value 118 = .ok (.aload_n 0, 1) := by decide +kernel
theorem dX15_value_119 : decode cX15_value 119 = .ok (.getfield 309, 3) := by decide +kernel
theorem dX15_value_122 : decode cX15_value 122 = .ok (.aload_n 0, 1) := by decide +kernel
theorem dX15_value_123 : decode cX15_value 123 = .ok (.getfield 405, 3) := by decide +kernel
theorem dX15_value_126 : decode cX15_value 126 = .ok (.invokevirtual 408, 3) := by decide +kernel
theorem dX15_value_129 : decode cX15_value 129 = .ok (.istore_n 1, 1) := by decide +kernel
theorem dX15_value_130 : decode cX15_value 130 = .ok (.iload_n 1, 1) := by decide +kernel
theorem dX15_value_131 : decode cX15_value 131 = .ok (.iconst (-1), 1) := by decide +kernel
theorem dX15_value_132 : decode cX15_value 132 = .ok (.if_icmp .ne 7, 3) := by decide +kernel
theorem dX15_value_135 : decode cX15_value 135 = .ok (.iconst 0, 1) := by decide +kernel
theorem dX15_value_136 : decode cX15_value 136 = .ok (.goto 9, 3) := by decide +kernel
theorem dX15_value_139 : decode cX15_value 139 = .ok (.aload_n 0, 1) := by decide +kernel
theorem dX15_value_140 : decode cX15_value 140 = .ok (.getfield 63, 3) := by decide +kernel
theorem dX15_value_143 : decode cX15_value 143 = .ok (.iload_n 1, 1) := by decide +kernel
theorem dX15_value_144 : decode cX15_value 144 = .ok (.iaload, 1) := by decide +kernel
theorem dX15_value_145 : decode cX15_value 145 = .ok (.ireturn, 1) := by decide +kernel
def f_X15_value_b145 (σ : TH) (t0 : Int32) : Option (Int32 × TH) :=
  some (t0, σ)
set_option maxHeartbeats 4000000 in
set_option maxRecDepth 100000 in
theorem t_X15_value_b145 {l : Launch} {D : va_G} {cy : Nat → ClassId} {ka : Nat → Nat} {σ0 z : TH} {r : Int32}  {σ : TH} {t0 : Int32} (hf : f_X15_value_b145 σ t0 = some (r, z)) : v_ l D cy ka cX15_value RX15 2 (some FieldType.int) "value" 6 129 (qf_ D cy σ0 z (some (.int r))) σ0 z σ 145 [] [.int t0] := by
  unfold f_X15_value_b145 at hf
  exact v_iret hf dX15_value_145
/-- LivesAheadModel.value()I -/
def f_X15_value (σ : TH) (p0 : Nat) : Option (Int32 × TH) :=
  gt_ (kd_ σ p0 = 17) <| bd_ (f_X15_isWord σ p0 5) fun x1 s2 => if x1 = 0 then (bd_ (f_X15_isWord s2 p0 8) fun x3 s4 => if x3 = 0 then (bd_ (f_X15_isWord s4 p0 9) fun x5 s6 => if x5 = 0 then (bd_ (f_X15_isWord s6 p0 11) fun x7 s8 => if x7 = 0 then (lt_ (fi_ s8 1640 p0) fun x9 => lt_ (fi_ s8 1637 p0) fun x10 => lt_ (si_ s8 1640 p0 (x9 ||| ((1 : Int32) <<< (x10 &&& 31)))) fun s11 => lt_ (fi_ s11 1643 p0) fun x12 => lt_ (fi_ s11 1637 p0) fun x13 => lt_ (fi_ s11 1644 p0) fun x14 => bd_ (f_X15_openOn s11 p0 x12 x13 x14) fun x15 s16 => if x15 = (-1 : Int32) then (f_X15_value_b145 s16 (0 : Int32)) else (lt_ (fr_ s16 1622 p0) fun r17 => nn_ r17 fun a18 => gt_ (kd_ s16 a18 = 20) <| gt_ (¬ (x15 < 0 ∨ ln_ s16 a18 ≤ x15.toNatClampNeg)) <| lt_ (ai_ s16 a18 x15.toNatClampNeg) fun x19 => f_X15_value_b145 s16 x19)) else (lt_ (fr_ s8 1610 p0) fun r20 => lt_ (fi_ s8 1643 p0) fun x21 => nn_ r20 fun a22 => gt_ (kd_ s8 a22 = 20) <| gt_ (¬ (x21 < 0 ∨ ln_ s8 a22 ≤ x21.toNatClampNeg)) <| lt_ (ai_ s8 a22 x21.toNatClampNeg) fun x23 => some (x23, s8))) else (lt_ (fi_ s6 1644 p0) fun x24 => gt_ (¬ (365 : Int32) = 0) <| some ((100 : Int32) + (x24 / (365 : Int32)), s6))) else (lt_ (fr_ s4 1609 p0) fun r25 => lt_ (fi_ s4 1643 p0) fun x26 => nn_ r25 fun a27 => gt_ (kd_ s4 a27 = 20) <| gt_ (¬ (x26 < 0 ∨ ln_ s4 a27 ≤ x26.toNatClampNeg)) <| lt_ (ai_ s4 a27 x26.toNatClampNeg) fun x28 => gt_ (¬ (365 : Int32) = 0) <| some ((100 : Int32) - (((x28 + (365 : Int32)) - (1 : Int32)) / (365 : Int32)), s4))) else (lt_ (fi_ s2 1643 p0) fun x29 => lt_ (fi_ s2 1644 p0) fun x30 => bd_ (f_X15_ageOn s2 p0 x29 x30) fun x31 s32 => some (x31, s32))
set_option maxHeartbeats 4000000 in
set_option maxRecDepth 100000 in
theorem c_X15_value {l : Launch} {D : va_G} {cy : Nat → ClassId} {ka : Nat → Nat} {σ z : TH} {p0 : Nat} {r : Int32} (hf : f_X15_value σ p0 = some (r, z)) : ct_ l D cy ka yX15_value 6 129 [va_rf (some p0)] σ (some (.int r)) z := by
  unfold f_X15_value at hf
  refine v_start (cc := cX15_value) (own := RX15) (maxL := 2) (ret := (some FieldType.int)) (nm := "value") (by decide +kernel) kw_1993 rfl rfl (by simp [lg_sl, va_rf_cat, cat_i, cat_l]) ?_
  refine v_eqL (L2 := [(0, va_rf (some p0))]) (by simp [lv_args, va_rf_cat, cat_i, cat_l]) ?_
  refine v_aload_n (x := (some p0)) dX15_value_0 rfl 0 rfl ?_
  refine v_ldcwS (tx := "age") (n := 5) (by decide) dX15_value_1 ?_
  obtain ⟨hk_p0, hf⟩ := gt_of hf
  obtain ⟨x1, s2, hcs2, hf⟩ := bd_of hf
  have hts2 := c_X15_isWord (l := l) (D := D) (cy := cy) (ka := ka) hcs2
  refine v_callV cb_16 hk_p0 (As := [va_rf (some (ka 5))]) (rest := []) hts2 yb_X15_isWord kw_1911 kw_1913 kp_102 rfl ⟨Nat.le_of_ble_eq_true rfl, Nat.le_of_ble_eq_true rfl⟩ rfl (cat_len (Nat.le_of_ble_eq_true rfl)) dX15_value_4 ?_
  have hk_p0 := tk_ hts2.1 hk_p0
  show v_ l D cy ka cX15_value RX15 2 (some FieldType.int) "value" 6 129 (qf_ D cy σ z (some (.int r))) σ z _ 7 [(0, va_rf (some p0))] [.int x1]
  refine v_if_eq (tgt := 23) hf dX15_value_7 (by decide) (fun hq hf => ?_) (fun hq hf => ?_)
  · refine v_aload_n (x := (some p0)) dX15_value_23 rfl 0 rfl ?_
    refine v_ldcwS (tx := "born") (n := 8) (by decide) dX15_value_24 ?_
    obtain ⟨x3, s4, hcs4, hf⟩ := bd_of hf
    have hts4 := c_X15_isWord (l := l) (D := D) (cy := cy) (ka := ka) hcs4
    refine v_callV cb_16 hk_p0 (As := [va_rf (some (ka 8))]) (rest := []) hts4 yb_X15_isWord kw_1911 kw_1913 kp_102 rfl ⟨Nat.le_of_ble_eq_true rfl, Nat.le_of_ble_eq_true rfl⟩ rfl (cat_len (Nat.le_of_ble_eq_true rfl)) dX15_value_27 ?_
    have hk_p0 := tk_ hts4.1 hk_p0
    show v_ l D cy ka cX15_value RX15 2 (some FieldType.int) "value" 6 129 (qf_ D cy σ z (some (.int r))) σ z _ 30 [(0, va_rf (some p0))] [.int x3]
    refine v_if_eq (tgt := 56) hf dX15_value_30 (by decide) (fun hq hf => ?_) (fun hq hf => ?_)
    · refine v_aload_n (x := (some p0)) dX15_value_56 rfl 0 rfl ?_
      refine v_ldcwS (tx := "year") (n := 9) (by decide) dX15_value_57 ?_
      obtain ⟨x5, s6, hcs6, hf⟩ := bd_of hf
      have hts6 := c_X15_isWord (l := l) (D := D) (cy := cy) (ka := ka) hcs6
      refine v_callV cb_16 hk_p0 (As := [va_rf (some (ka 9))]) (rest := []) hts6 yb_X15_isWord kw_1911 kw_1913 kp_102 rfl ⟨Nat.le_of_ble_eq_true rfl, Nat.le_of_ble_eq_true rfl⟩ rfl (cat_len (Nat.le_of_ble_eq_true rfl)) dX15_value_60 ?_
      have hk_p0 := tk_ hts6.1 hk_p0
      show v_ l D cy ka cX15_value RX15 2 (some FieldType.int) "value" 6 129 (qf_ D cy σ z (some (.int r))) σ z _ 63 [(0, va_rf (some p0))] [.int x5]
      refine v_if_eq (tgt := 78) hf dX15_value_63 (by decide) (fun hq hf => ?_) (fun hq hf => ?_)
      · refine v_aload_n (x := (some p0)) dX15_value_78 rfl 0 rfl ?_
        refine v_ldcwS (tx := "worth") (n := 11) (by decide) dX15_value_79 ?_
        obtain ⟨x7, s8, hcs8, hf⟩ := bd_of hf
        have hts8 := c_X15_isWord (l := l) (D := D) (cy := cy) (ka := ka) hcs8
        refine v_callV cb_16 hk_p0 (As := [va_rf (some (ka 11))]) (rest := []) hts8 yb_X15_isWord kw_1911 kw_1913 kp_102 rfl ⟨Nat.le_of_ble_eq_true rfl, Nat.le_of_ble_eq_true rfl⟩ rfl (cat_len (Nat.le_of_ble_eq_true rfl)) dX15_value_82 ?_
        have hk_p0 := tk_ hts8.1 hk_p0
        show v_ l D cy ka cX15_value RX15 2 (some FieldType.int) "value" 6 129 (qf_ D cy σ z (some (.int r))) σ z _ 85 [(0, va_rf (some p0))] [.int x7]
        refine v_if_eq (tgt := 98) hf dX15_value_85 (by decide) (fun hq hf => ?_) (fun hq hf => ?_)
        · refine v_aload_n (x := (some p0)) dX15_value_98 rfl 0 rfl ?_
          refine v_dup dX15_value_99 (va_rf_cat _) ?_
          refine v_geti cb_16 hk_p0 40 1640 rfl (by decide) rfl (lk_n kw_1497 rfl) hf dX15_value_100 (fun x9 hf => ?_)
          refine v_iconst (v := 1) dX15_value_103 (by decide) ?_
          refine v_aload_n (x := (some p0)) dX15_value_104 rfl 0 rfl ?_
          refine v_geti cb_16 hk_p0 37 1637 rfl (by decide) rfl (lk_n kw_1494 rfl) hf dX15_value_105 (fun x10 hf => ?_)
          refine v_ishl dX15_value_108 ?_
          refine v_ior dX15_value_109 ?_
          refine v_puti2 cb_16 hk_p0 40 1640 rfl (by decide) rfl (lk_n kw_1497 rfl) (Or.inl rfl) rfl rfl hf dX15_value_110 (fun s11 hts11 hf => ?_)
          have hk_p0 := tk_ hts11 hk_p0
          refine v_aload_n (x := (some p0)) dX15_value_113 rfl 0 rfl ?_
          refine v_aload_n (x := (some p0)) dX15_value_114 rfl 0 rfl ?_
          refine v_geti cb_16 hk_p0 43 1643 rfl (by decide) rfl (lk_n kw_1500 rfl) hf dX15_value_115 (fun x12 hf => ?_)
          refine v_aload_n (x := (some p0)) dX15_value_118 rfl 0 rfl ?_
          refine v_geti cb_16 hk_p0 37 1637 rfl (by decide) rfl (lk_n kw_1494 rfl) hf dX15_value_119 (fun x13 hf => ?_)
          refine v_aload_n (x := (some p0)) dX15_value_122 rfl 0 rfl ?_
          refine v_geti cb_16 hk_p0 44 1644 rfl (by decide) rfl (lk_n kw_1501 rfl) hf dX15_value_123 (fun x14 hf => ?_)
          obtain ⟨x15, s16, hcs16, hf⟩ := bd_of hf
          have hts16 := c_X15_openOn (l := l) (D := D) (cy := cy) (ka := ka) hcs16
          refine v_callV cb_16 hk_p0 (As := [.int x12, .int x13, .int x14]) (rest := []) hts16 yb_X15_openOn kw_1994 kw_1996 kp_117 rfl ⟨Nat.le_of_ble_eq_true rfl, Nat.le_of_ble_eq_true rfl⟩ rfl (cat_len (Nat.le_of_ble_eq_true rfl)) dX15_value_126 ?_
          have hk_p0 := tk_ hts16.1 hk_p0
          show v_ l D cy ka cX15_value RX15 2 (some FieldType.int) "value" 6 129 (qf_ D cy σ z (some (.int r))) σ z _ 129 [(0, va_rf (some p0))] [.int x15]
          refine v_istore_n [(1, .int x15), (0, va_rf (some p0))] dX15_value_129 rfl (by decide) rfl ?_
          refine v_iload_n (x := x15) dX15_value_130 rfl 0 rfl ?_
          refine v_iconst (v := (-1)) dX15_value_131 (by decide) ?_
          refine v_icmp_ne (tgt := 139) hf dX15_value_132 (by decide) (fun hq hf => ?_) (fun hq hf => ?_)
          · refine v_iconst (v := 0) dX15_value_135 (by decide) ?_
            refine v_goto (tgt := 145) dX15_value_136 (by decide) ?_
            refine v_sub [] (L2 := []) rfl ?_
            exact t_X15_value_b145  hf
          · refine v_aload_n (x := (some p0)) dX15_value_139 rfl 1 rfl ?_
            refine v_getr cb_16 hk_p0 22 1622 rfl (by decide) rfl (lk_n kw_1479 rfl) hf dX15_value_140 (fun r17 hf => ?_)
            refine v_iload_n (x := x15) dX15_value_143 rfl 0 rfl ?_
            obtain ⟨a18, rfl, hf⟩ := nn_of hf
            obtain ⟨hk_a18, hf⟩ := gt_of hf
            refine v_iald hk_a18 hf dX15_value_144 (fun x19 hf => ?_)
            refine v_sub [] (L2 := []) rfl ?_
            exact t_X15_value_b145  hf
        · refine v_aload_n (x := (some p0)) dX15_value_88 rfl 0 rfl ?_
          refine v_getr cb_16 hk_p0 10 1610 rfl (by decide) rfl (lk_n kw_1467 rfl) hf dX15_value_89 (fun r20 hf => ?_)
          refine v_aload_n (x := (some p0)) dX15_value_92 rfl 0 rfl ?_
          refine v_geti cb_16 hk_p0 43 1643 rfl (by decide) rfl (lk_n kw_1500 rfl) hf dX15_value_93 (fun x21 hf => ?_)
          obtain ⟨a22, rfl, hf⟩ := nn_of hf
          obtain ⟨hk_a22, hf⟩ := gt_of hf
          refine v_iald hk_a22 hf dX15_value_96 (fun x23 hf => ?_)
          exact v_iret hf dX15_value_97
      · refine v_bipush (v := 100) dX15_value_66 (by decide) ?_
        refine v_aload_n (x := (some p0)) dX15_value_68 rfl 0 rfl ?_
        refine v_geti cb_16 hk_p0 44 1644 rfl (by decide) rfl (lk_n kw_1501 rfl) hf dX15_value_69 (fun x24 hf => ?_)
        refine v_sipush (v := 365) dX15_value_72 (by decide) ?_
        refine v_idiv hf dX15_value_75 (fun hf => ?_)
        refine v_iadd dX15_value_76 ?_
        exact v_iret hf dX15_value_77
    · refine v_bipush (v := 100) dX15_value_33 (by decide) ?_
      refine v_aload_n (x := (some p0)) dX15_value_35 rfl 0 rfl ?_
      refine v_getr cb_16 hk_p0 9 1609 rfl (by decide) rfl (lk_n kw_1466 rfl) hf dX15_value_36 (fun r25 hf => ?_)
      refine v_aload_n (x := (some p0)) dX15_value_39 rfl 0 rfl ?_
      refine v_geti cb_16 hk_p0 43 1643 rfl (by decide) rfl (lk_n kw_1500 rfl) hf dX15_value_40 (fun x26 hf => ?_)
      obtain ⟨a27, rfl, hf⟩ := nn_of hf
      obtain ⟨hk_a27, hf⟩ := gt_of hf
      refine v_iald hk_a27 hf dX15_value_43 (fun x28 hf => ?_)
      refine v_sipush (v := 365) dX15_value_44 (by decide) ?_
      refine v_iadd dX15_value_47 ?_
      refine v_iconst (v := 1) dX15_value_48 (by decide) ?_
      refine v_isub dX15_value_49 ?_
      refine v_sipush (v := 365) dX15_value_50 (by decide) ?_
      refine v_idiv hf dX15_value_53 (fun hf => ?_)
      refine v_isub dX15_value_54 ?_
      exact v_iret hf dX15_value_55
  · refine v_aload_n (x := (some p0)) dX15_value_10 rfl 0 rfl ?_
    refine v_aload_n (x := (some p0)) dX15_value_11 rfl 0 rfl ?_
    refine v_geti cb_16 hk_p0 43 1643 rfl (by decide) rfl (lk_n kw_1500 rfl) hf dX15_value_12 (fun x29 hf => ?_)
    refine v_aload_n (x := (some p0)) dX15_value_15 rfl 0 rfl ?_
    refine v_geti cb_16 hk_p0 44 1644 rfl (by decide) rfl (lk_n kw_1501 rfl) hf dX15_value_16 (fun x30 hf => ?_)
    obtain ⟨x31, s32, hcs32, hf⟩ := bd_of hf
    have hts32 := c_X15_ageOn (l := l) (D := D) (cy := cy) (ka := ka) hcs32
    refine v_callV cb_16 hk_p0 (As := [.int x29, .int x30]) (rest := []) hts32 yb_X15_ageOn kw_1778 kw_1780 kp_85 rfl ⟨Nat.le_of_ble_eq_true rfl, Nat.le_of_ble_eq_true rfl⟩ rfl (cat_len (Nat.le_of_ble_eq_true rfl)) dX15_value_19 ?_
    have hk_p0 := tk_ hts32.1 hk_p0
    show v_ l D cy ka cX15_value RX15 2 (some FieldType.int) "value" 6 129 (qf_ D cy σ z (some (.int r))) σ z _ 22 [(0, va_rf (some p0))] [.int x31]
    exact v_iret hf dX15_value_22
