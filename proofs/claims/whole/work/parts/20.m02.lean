/-! Functions over the typed heap and contracts, by wip/gen/gen.py: Jx4a65c_clear_da8c8 X11_allowed X11_denied X11_isKind X1_hasPrinted X0_begin X0_offer X11_fillPrinter X11_unsureKinds X4_add X4_compares X4_decide X4_put X4_putNumber X4_takeSum X4_perform X4_run X11_cutLong X11_cutOf X11_layFacts X3_isFree X1_init X11_isValue X8_init X11_fault -/
theorem dJx4a65c_clear_da8c8_0 : decode cJx4a65c_clear_da8c8 0 = .ok (.aload_n 0, 1) := by decide +kernel
theorem dJx4a65c_clear_da8c8_1 : decode cJx4a65c_clear_da8c8 1 = .ok (.dup, 1) := by decide +kernel
theorem dJx4a65c_clear_da8c8_2 : decode cJx4a65c_clear_da8c8 2 = .ok (.getfield 63, 3) := by decide +kernel
theorem dJx4a65c_clear_da8c8_5 : decode cJx4a65c_clear_da8c8 5 = .ok (.iconst 1, 1) := by decide +kernel
theorem dJx4a65c_clear_da8c8_6 : decode cJx4a65c_clear_da8c8 6 = .ok (.iadd, 1) := by decide +kernel
theorem dJx4a65c_clear_da8c8_7 : decode cJx4a65c_clear_da8c8 7 = .ok (.putfield 63, 3) := by decide +kernel
theorem dJx4a65c_clear_da8c8_10 : decode cJx4a65c_clear_da8c8 10 = .ok (.aload_n 0, 1) := by decide +kernel
theorem dJx4a65c_clear_da8c8_11 : decode cJx4a65c_clear_da8c8 11 = .ok (.getfield 9, 3) := by decide +kernel
theorem dJx4a65c_clear_da8c8_14 : decode cJx4a65c_clear_da8c8 14 = .ok (.astore_n 1, 1) := by decide +kernel
theorem dJx4a65c_clear_da8c8_15 : decode cJx4a65c_clear_da8c8 15 = .ok (.aload_n 0, 1) := by decide +kernel
theorem dJx4a65c_clear_da8c8_16 : decode cJx4a65c_clear_da8c8 16 = .ok (.getfield 48, 3) := by decide +kernel
theorem dJx4a65c_clear_da8c8_19 : decode cJx4a65c_clear_da8c8 19 = .ok (.istore_n 2, 1) := by decide +kernel
theorem dJx4a65c_clear_da8c8_20 : decode cJx4a65c_clear_da8c8 20 = .ok (.aload_n 0, 1) := by decide +kernel
theorem dJx4a65c_clear_da8c8_21 : decode cJx4a65c_clear_da8c8 21 = .ok (.iconst 0, 1) := by decide +kernel
theorem dJx4a65c_clear_da8c8_22 : decode cJx4a65c_clear_da8c8 22 = .ok (.dup_x1, 1) := by decide +kernel
theorem dJx4a65c_clear_da8c8_23 : decode cJx4a65c_clear_da8c8 23 = .ok (.putfield 48, 3) := by decide +kernel
theorem dJx4a65c_clear_da8c8_26 : decode cJx4a65c_clear_da8c8 26 = .ok (.istore_n 3, 1) := by decide +kernel
theorem dJx4a65c_clear_da8c8_27 : decode cJx4a65c_clear_da8c8 27 = .ok (.iload_n 3, 1) := by decide +kernel
theorem dJx4a65c_clear_da8c8_28 : decode cJx4a65c_clear_da8c8 28 = .ok (.iload_n 2, 1) := by decide +kernel
theorem dJx4a65c_clear_da8c8_29 : decode cJx4a65c_clear_da8c8 29 = .ok (.if_icmp .ge 13, 3) := by decide +kernel
theorem dJx4a65c_clear_da8c8_32 : decode cJx4a65c_clear_da8c8 32 = .ok (.aload_n 1, 1) := by decide +kernel
theorem dJx4a65c_clear_da8c8_33 : decode cJx4a65c_clear_da8c8 33 = .ok (.iload_n 3, 1) := by decide +kernel
theorem dJx4a65c_clear_da8c8_34 : decode cJx4a65c_clear_da8c8 34 = .ok (.aconst_null, 1) := by decide +kernel
theorem dJx4a65c_clear_da8c8_35 : decode cJx4a65c_clear_da8c8 35 = .ok (.aastore, 1) := by decide +kernel
theorem dJx4a65c_clear_da8c8_36 : decode cJx4a65c_clear_da8c8 36 = .ok (.iinc 3 1, 3) := by decide +kernel
theorem dJx4a65c_clear_da8c8_39 : decode cJx4a65c_clear_da8c8 39 = .ok (.goto (-12), 3) := by decide +kernel
theorem dJx4a65c_clear_da8c8_42 : decode cJx4a65c_clear_da8c8 42 = .ok (.return_, 1) := by decide +kernel
def f_Jx4a65c_clear_da8c8_b27 : Nat → TH → Option Nat → Int32 → Int32 → Option (Unit × TH)
  | 0, _, _, _, _ => none
  | n + 1, σ, l1, l2, l3 => if l2 ≤ l3 then (some ((), σ)) else (nn_ l1 fun a6 => gt_ (kd_ σ a6 = 24) <| gt_ (¬ (l3 < 0 ∨ ln_ σ a6 ≤ l3.toNatClampNeg)) <| lt_ (sq_ σ a6 l3.toNatClampNeg none) fun s7 => lt_ (l3 + 1) fun x8 => (f_Jx4a65c_clear_da8c8_b27 n) s7 (some a6) l2 x8)
set_option maxHeartbeats 4000000 in
set_option maxRecDepth 100000 in
theorem t_Jx4a65c_clear_da8c8_b27 {l : Launch} {D : va_G} {cy : Nat → ClassId} {ka : Nat → Nat} {σ0 z : TH} {r : Unit}  : ∀ (n : Nat) (σ : TH) (l1 : Option Nat) (l2 : Int32) (l3 : Int32), f_Jx4a65c_clear_da8c8_b27 n σ l1 l2 l3 = some (r, z) → v_ l D cy ka cJx4a65c_clear_da8c8 RJx4a65c 4 none "clear" 0 0 (qf_ D cy σ0 z none) σ0 z σ 27 [(1, va_rf l1), (2, .int l2), (3, .int l3)] [] := by
  intro n
  induction n with
  | zero => intro σ l1 l2 l3 hf; unfold f_Jx4a65c_clear_da8c8_b27 at hf; cases hf
  | succ n ih =>
    intro σ l1 l2 l3 hf
    unfold f_Jx4a65c_clear_da8c8_b27 at hf
    have hrec_27 := ih
    refine v_iload_n (x := l3) dJx4a65c_clear_da8c8_27 rfl 2 rfl ?_
    refine v_iload_n (x := l2) dJx4a65c_clear_da8c8_28 rfl 1 rfl ?_
    refine v_icmp_ge (tgt := 42) hf dJx4a65c_clear_da8c8_29 (by decide) (fun hq hf => ?_) (fun hq hf => ?_)
    · exact v_vret hf dJx4a65c_clear_da8c8_42
    · refine v_aload_n (x := l1) dJx4a65c_clear_da8c8_32 rfl 0 rfl ?_
      refine v_iload_n (x := l3) dJx4a65c_clear_da8c8_33 rfl 2 rfl ?_
      refine v_null dJx4a65c_clear_da8c8_34 ?_
      obtain ⟨a6, rfl, hf⟩ := nn_of hf
      obtain ⟨hk_a6, hf⟩ := gt_of hf
      refine v_aastN2 23 4 "java/lang/Object" hk_a6 (by decide) rfl hf dJx4a65c_clear_da8c8_35 (fun s7 hts7 hf => ?_)
      have hk_a6 := tk_ hts7 hk_a6
      obtain ⟨x8, ex8⟩ : ∃ y : Int32, y = l3 + 1 := ⟨_, rfl⟩
      rw [lt_e, ← ex8] at hf
      refine v_iinc (v := x8) [(3, .int x8), (1, va_rf (some a6)), (2, .int l2)] dJx4a65c_clear_da8c8_36 2 rfl (by rw [ex8]; rfl) (by decide) rfl ?_
      refine v_goto (tgt := 27) dJx4a65c_clear_da8c8_39 (by decide) ?_
      refine v_sub [1, 2, 0] (L2 := [(1, va_rf (some a6)), (2, .int l2), (3, .int x8)]) rfl ?_
      exact hrec_27 _ _ _ _ hf
/-- java/util/ArrayList.clear()V -/
def f_Jx4a65c_clear_da8c8 (σ : TH) (p0 : Nat) : Option (Unit × TH) :=
  gt_ (kd_ σ p0 = 1) <| lt_ (fi_ σ 0 p0) fun x1 => lt_ (si_ σ 0 p0 (x1 + (1 : Int32))) fun s2 => lt_ (fr_ s2 1 p0) fun r3 => lt_ (fi_ s2 2 p0) fun x4 => lt_ (si_ s2 2 p0 (0 : Int32)) fun s5 => f_Jx4a65c_clear_da8c8_b27 fu_ s5 r3 x4 (0 : Int32)
set_option maxHeartbeats 4000000 in
set_option maxRecDepth 100000 in
theorem c_Jx4a65c_clear_da8c8 {l : Launch} {D : va_G} {cy : Nat → ClassId} {ka : Nat → Nat} {σ z : TH} {p0 : Nat} {r : Unit} (hf : f_Jx4a65c_clear_da8c8 σ p0 = some (r, z)) : ct_ l D cy ka yJx4a65c_clear_da8c8 0 0 [va_rf (some p0)] σ none z := by
  unfold f_Jx4a65c_clear_da8c8 at hf
  refine v_start (cc := cJx4a65c_clear_da8c8) (own := RJx4a65c) (maxL := 4) (ret := none) (nm := "clear") (by decide +kernel) kw_1274 rfl rfl (by simp [lg_sl, va_rf_cat, cat_i, cat_l]) ?_
  refine v_eqL (L2 := [(0, va_rf (some p0))]) (by simp [lv_args, va_rf_cat, cat_i, cat_l]) ?_
  refine v_aload_n (x := (some p0)) dJx4a65c_clear_da8c8_0 rfl 0 rfl ?_
  refine v_dup dJx4a65c_clear_da8c8_1 (va_rf_cat _) ?_
  obtain ⟨hk_p0, hf⟩ := gt_of hf
  refine v_geti cb_0 hk_p0 0 0 rfl (by decide) rfl (lk_h kw_59 kw_same) hf dJx4a65c_clear_da8c8_2 (fun x1 hf => ?_)
  refine v_iconst (v := 1) dJx4a65c_clear_da8c8_5 (by decide) ?_
  refine v_iadd dJx4a65c_clear_da8c8_6 ?_
  refine v_puti2 cb_0 hk_p0 0 0 rfl (by decide) rfl (lk_h kw_59 kw_same) (Or.inl rfl) rfl rfl hf dJx4a65c_clear_da8c8_7 (fun s2 hts2 hf => ?_)
  have hk_p0 := tk_ hts2 hk_p0
  refine v_aload_n (x := (some p0)) dJx4a65c_clear_da8c8_10 rfl 0 rfl ?_
  refine v_getr cb_0 hk_p0 1 1 rfl (by decide) rfl (lk_n kw_56 rfl) hf dJx4a65c_clear_da8c8_11 (fun r3 hf => ?_)
  refine v_astore_n [(1, va_rf r3), (0, va_rf (some p0))] dJx4a65c_clear_da8c8_14 rfl (by decide) rfl ?_
  refine v_aload_n (x := (some p0)) dJx4a65c_clear_da8c8_15 rfl 1 rfl ?_
  refine v_geti cb_0 hk_p0 2 2 rfl (by decide) rfl (lk_n kw_57 rfl) hf dJx4a65c_clear_da8c8_16 (fun x4 hf => ?_)
  refine v_istore_n [(2, .int x4), (1, va_rf r3), (0, va_rf (some p0))] dJx4a65c_clear_da8c8_19 rfl (by decide) (by simp [va_rf_cat, cat_i, cat_l]) ?_
  refine v_aload_n (x := (some p0)) dJx4a65c_clear_da8c8_20 rfl 2 rfl ?_
  refine v_iconst (v := 0) dJx4a65c_clear_da8c8_21 (by decide) ?_
  refine v_dup_x1 dJx4a65c_clear_da8c8_22 rfl (va_rf_cat _) ?_
  refine v_puti2 cb_0 hk_p0 2 2 rfl (by decide) rfl (lk_n kw_57 rfl) (Or.inl rfl) rfl rfl hf dJx4a65c_clear_da8c8_23 (fun s5 hts5 hf => ?_)
  have hk_p0 := tk_ hts5 hk_p0
  refine v_istore_n [(3, .int (0 : Int32)), (2, .int x4), (1, va_rf r3), (0, va_rf (some p0))] dJx4a65c_clear_da8c8_26 rfl (by decide) rfl ?_
  refine v_sub [2, 1, 0] (L2 := [(1, va_rf r3), (2, .int x4), (3, .int (0 : Int32))]) rfl ?_
  exact t_Jx4a65c_clear_da8c8_b27  _ _ _ _ _ hf
theorem dX11_allowed_0 : decode cX11_allowed 0 = .ok (.aload_n 0, 1) := by decide +kernel
theorem dX11_allowed_1 : decode cX11_allowed 1 = .ok (.iconst 0, 1) := by decide +kernel
theorem dX11_allowed_2 : decode cX11_allowed 2 = .ok (.putfield 69, 3) := by decide +kernel
theorem dX11_allowed_5 : decode cX11_allowed 5 = .ok (.iconst 1, 1) := by decide +kernel
theorem dX11_allowed_6 : decode cX11_allowed 6 = .ok (.ireturn, 1) := by decide +kernel
/-- LivesAhead.allowed()Z -/
def f_X11_allowed (σ : TH) (p0 : Nat) : Option (Int32 × TH) :=
  gt_ (kd_ σ p0 = 13) <| lt_ (si_ σ 1214 p0 (0 : Int32)) fun s1 => some ((1 : Int32), s1)
set_option maxHeartbeats 4000000 in
set_option maxRecDepth 100000 in
theorem c_X11_allowed {l : Launch} {D : va_G} {cy : Nat → ClassId} {ka : Nat → Nat} {σ z : TH} {p0 : Nat} {r : Int32} (hf : f_X11_allowed σ p0 = some (r, z)) : ct_ l D cy ka yX11_allowed 0 0 [va_rf (some p0)] σ (some (.int r)) z := by
  unfold f_X11_allowed at hf
  refine v_start (cc := cX11_allowed) (own := RX11) (maxL := 1) (ret := (some FieldType.boolean)) (nm := "allowed") (by decide +kernel) kw_428 rfl rfl (by simp [lg_sl, va_rf_cat, cat_i, cat_l]) ?_
  refine v_eqL (L2 := [(0, va_rf (some p0))]) (by simp [lv_args, va_rf_cat, cat_i, cat_l]) ?_
  refine v_aload_n (x := (some p0)) dX11_allowed_0 rfl 0 rfl ?_
  refine v_iconst (v := 0) dX11_allowed_1 (by decide) ?_
  obtain ⟨hk_p0, hf⟩ := gt_of hf
  refine v_puti2 cb_12 hk_p0 14 1214 rfl (by decide) rfl (lk_n kw_253 rfl) (Or.inl rfl) rfl rfl hf dX11_allowed_2 (fun s1 hts1 hf => ?_)
  have hk_p0 := tk_ hts1 hk_p0
  refine v_iconst (v := 1) dX11_allowed_5 (by decide) ?_
  exact v_zret hf rfl dX11_allowed_6
theorem dX11_denied_0 : decode cX11_denied 0 = .ok (.aload_n 0, 1) := by decide +kernel
theorem dX11_denied_1 : decode cX11_denied 1 = .ok (.iload_n 1, 1) := by decide +kernel
theorem dX11_denied_2 : decode cX11_denied 2 = .ok (.putfield 69, 3) := by decide +kernel
theorem dX11_denied_5 : decode cX11_denied 5 = .ok (.iconst 0, 1) := by decide +kernel
theorem dX11_denied_6 : decode cX11_denied 6 = .ok (.ireturn, 1) := by decide +kernel
/-- LivesAhead.denied(I)Z -/
def f_X11_denied (σ : TH) (p0 : Nat) (p1 : Int32) : Option (Int32 × TH) :=
  gt_ (kd_ σ p0 = 13) <| lt_ (si_ σ 1214 p0 p1) fun s1 => some ((0 : Int32), s1)
set_option maxHeartbeats 4000000 in
set_option maxRecDepth 100000 in
theorem c_X11_denied {l : Launch} {D : va_G} {cy : Nat → ClassId} {ka : Nat → Nat} {σ z : TH} {p0 : Nat} {p1 : Int32} {r : Int32} (hf : f_X11_denied σ p0 p1 = some (r, z)) : ct_ l D cy ka yX11_denied 0 0 [va_rf (some p0), .int p1] σ (some (.int r)) z := by
  unfold f_X11_denied at hf
  refine v_start (cc := cX11_denied) (own := RX11) (maxL := 2) (ret := (some FieldType.boolean)) (nm := "denied") (by decide +kernel) kw_424 rfl rfl (by simp [lg_sl, va_rf_cat, cat_i, cat_l]) ?_
  refine v_eqL (L2 := [(0, va_rf (some p0)), (1, .int p1)]) (by simp [lv_args, va_rf_cat, cat_i, cat_l]) ?_
  refine v_aload_n (x := (some p0)) dX11_denied_0 rfl 0 rfl ?_
  refine v_iload_n (x := p1) dX11_denied_1 rfl 1 rfl ?_
  obtain ⟨hk_p0, hf⟩ := gt_of hf
  refine v_puti2 cb_12 hk_p0 14 1214 rfl (by decide) rfl (lk_n kw_253 rfl) (Or.inl rfl) rfl rfl hf dX11_denied_2 (fun s1 hts1 hf => ?_)
  have hk_p0 := tk_ hts1 hk_p0
  refine v_iconst (v := 0) dX11_denied_5 (by decide) ?_
  exact v_zret hf rfl dX11_denied_6
theorem dX11_isKind_0 : decode cX11_isKind 0 = .ok (.iload_n 0, 1) := by decide +kernel
theorem dX11_isKind_1 : decode cX11_isKind 1 = .ok (.iconst 0, 1) := by decide +kernel
theorem dX11_isKind_2 : decode cX11_isKind 2 = .ok (.bipush 9, 2) := by decide +kernel
theorem dX11_isKind_4 : decode cX11_isKind 4 = .ok (.invokestatic 93, 3) := by decide +kernel
theorem dX11_isKind_7 : decode cX11_isKind 7 = .ok (.ireturn, 1) := by decide +kernel
/-- LivesAhead.isKind(I)Z -/
def f_X11_isKind (σ : TH) (p0 : Int32) : Option (Int32 × TH) :=
  bd_ (f_X11_within σ p0 (0 : Int32) (9 : Int32)) fun x1 s2 => gt_ (x1 = 0 ∨ x1 = 1) <| some (x1, s2)
set_option maxHeartbeats 4000000 in
set_option maxRecDepth 100000 in
theorem c_X11_isKind {l : Launch} {D : va_G} {cy : Nat → ClassId} {ka : Nat → Nat} {σ z : TH} {p0 : Int32} {r : Int32} (hf : f_X11_isKind σ p0 = some (r, z)) : ct_ l D cy ka yX11_isKind 1 22 [.int p0] σ (some (.int r)) z := by
  unfold f_X11_isKind at hf
  refine v_start (cc := cX11_isKind) (own := RX11) (maxL := 1) (ret := (some FieldType.boolean)) (nm := "isKind") (by decide +kernel) kw_570 rfl rfl (by simp [lg_sl, va_rf_cat, cat_i, cat_l]) ?_
  refine v_eqL (L2 := [(0, .int p0)]) (by simp [lv_args, va_rf_cat, cat_i, cat_l]) ?_
  refine v_iload_n (x := p0) dX11_isKind_0 rfl 0 rfl ?_
  refine v_iconst (v := 0) dX11_isKind_1 (by decide) ?_
  refine v_bipush (v := 9) dX11_isKind_2 (by decide) ?_
  obtain ⟨x1, s2, hcs2, hf⟩ := bd_of hf
  have hts2 := c_X11_within (l := l) (D := D) (cy := cy) (ka := ka) hcs2
  refine v_callS (As := [.int p0, .int (0 : Int32), .int (9 : Int32)]) (rest := []) hts2 yb_X11_within kw_304 kw_305 rfl ⟨Nat.le_of_ble_eq_true rfl, Nat.le_of_ble_eq_true rfl⟩ rfl (cat_len (Nat.le_of_ble_eq_true rfl)) dX11_isKind_4 ?_
  show v_ l D cy ka cX11_isKind RX11 1 (some FieldType.boolean) "isKind" 1 22 (qf_ D cy σ z (some (.int r))) σ z _ 7 [(0, .int p0)] [.int x1]
  obtain ⟨hb9, hf⟩ := gt_of hf
  exact v_zret hf (nz_ hb9) dX11_isKind_7
theorem dX1_hasPrinted_0 : decode cX1_hasPrinted 0 = .ok (.iload_n 1, 1) := by decide +kernel
theorem dX1_hasPrinted_1 : decode cX1_hasPrinted 1 = .ok (.invokestatic 43, 3) := by decide +kernel
theorem dX1_hasPrinted_4 : decode cX1_hasPrinted 4 = .ok (.ifCond .eq 18, 3) := by decide +kernel
theorem dX1_hasPrinted_7 : decode cX1_hasPrinted 7 = .ok (.aload_n 0, 1) := by decide +kernel
theorem dX1_hasPrinted_8 : decode cX1_hasPrinted 8 = .ok (.getfield 24, 3) := by decide +kernel
theorem dX1_hasPrinted_11 : decode cX1_hasPrinted 11 = .ok (.iconst 1, 1) := by decide +kernel
theorem dX1_hasPrinted_12 : decode cX1_hasPrinted 12 = .ok (.iload_n 1, 1) := by decide +kernel
theorem dX1_hasPrinted_13 : decode cX1_hasPrinted 13 = .ok (.ishl, 1) := by decide +kernel
theorem dX1_hasPrinted_14 : decode cX1_hasPrinted 14 = .ok (.iand, 1) := by decide +kernel
theorem dX1_hasPrinted_15 : decode cX1_hasPrinted 15 = .ok (.ifCond .eq 7, 3) := by decide +kernel
theorem dX1_hasPrinted_18 : decode cX1_hasPrinted 18 = .ok (.iconst 1, 1) := by decide +kernel
theorem dX1_hasPrinted_19 : decode cX1_hasPrinted 19 = .ok (.goto 4, 3) := by decide +kernel
theorem dX1_hasPrinted_22 : decode cX1_hasPrinted 22 = .ok (.iconst 0, 1) := by decide +kernel
theorem dX1_hasPrinted_23 : decode cX1_hasPrinted 23 = .ok (.ireturn, 1) := by decide +kernel
def f_X1_hasPrinted_b23 (σ : TH) (t0 : Int32) : Option (Int32 × TH) :=
  gt_ (t0 = 0 ∨ t0 = 1) <| some (t0, σ)
set_option maxHeartbeats 4000000 in
set_option maxRecDepth 100000 in
theorem t_X1_hasPrinted_b23 {l : Launch} {D : va_G} {cy : Nat → ClassId} {ka : Nat → Nat} {σ0 z : TH} {r : Int32}  {σ : TH} {t0 : Int32} (hf : f_X1_hasPrinted_b23 σ t0 = some (r, z)) : v_ l D cy ka cX1_hasPrinted RX1 2 (some FieldType.boolean) "hasPrinted" 2 42 (qf_ D cy σ0 z (some (.int r))) σ0 z σ 23 [] [.int t0] := by
  unfold f_X1_hasPrinted_b23 at hf
  obtain ⟨hb9, hf⟩ := gt_of hf
  exact v_zret hf (nz_ hb9) dX1_hasPrinted_23
def f_X1_hasPrinted_b22 (σ : TH) : Option (Int32 × TH) :=
  f_X1_hasPrinted_b23 σ (0 : Int32)
set_option maxHeartbeats 4000000 in
set_option maxRecDepth 100000 in
theorem t_X1_hasPrinted_b22 {l : Launch} {D : va_G} {cy : Nat → ClassId} {ka : Nat → Nat} {σ0 z : TH} {r : Int32}  {σ : TH}  (hf : f_X1_hasPrinted_b22 σ  = some (r, z)) : v_ l D cy ka cX1_hasPrinted RX1 2 (some FieldType.boolean) "hasPrinted" 2 42 (qf_ D cy σ0 z (some (.int r))) σ0 z σ 22 [] [] := by
  unfold f_X1_hasPrinted_b22 at hf
  refine v_iconst (v := 0) dX1_hasPrinted_22 (by decide) ?_
  refine v_sub [] (L2 := []) rfl ?_
  exact t_X1_hasPrinted_b23  hf
/-- LivesAhead$Edition.hasPrinted(I)Z -/
def f_X1_hasPrinted (σ : TH) (p0 : Nat) (p1 : Int32) : Option (Int32 × TH) :=
  bd_ (f_X11_isKind σ p1) fun x1 s2 => if x1 = 0 then (f_X1_hasPrinted_b22 s2 ) else (gt_ (kd_ s2 p0 = 3) <| lt_ (fi_ s2 206 p0) fun x3 => if (x3 &&& ((1 : Int32) <<< (p1 &&& 31))) = 0 then (f_X1_hasPrinted_b22 s2 ) else (f_X1_hasPrinted_b23 s2 (1 : Int32)))
set_option maxHeartbeats 4000000 in
set_option maxRecDepth 100000 in
theorem c_X1_hasPrinted {l : Launch} {D : va_G} {cy : Nat → ClassId} {ka : Nat → Nat} {σ z : TH} {p0 : Nat} {p1 : Int32} {r : Int32} (hf : f_X1_hasPrinted σ p0 p1 = some (r, z)) : ct_ l D cy ka yX1_hasPrinted 2 42 [va_rf (some p0), .int p1] σ (some (.int r)) z := by
  unfold f_X1_hasPrinted at hf
  refine v_start (cc := cX1_hasPrinted) (own := RX1) (maxL := 2) (ret := (some FieldType.boolean)) (nm := "hasPrinted") (by decide +kernel) kw_1237 rfl rfl (by simp [lg_sl, va_rf_cat, cat_i, cat_l]) ?_
  refine v_eqL (L2 := [(0, va_rf (some p0)), (1, .int p1)]) (by simp [lv_args, va_rf_cat, cat_i, cat_l]) ?_
  refine v_iload_n (x := p1) dX1_hasPrinted_0 rfl 1 rfl ?_
  obtain ⟨x1, s2, hcs2, hf⟩ := bd_of hf
  have hts2 := c_X11_isKind (l := l) (D := D) (cy := cy) (ka := ka) hcs2
  refine v_callSN (As := [.int p1]) (rest := []) hts2 yb_X11_isKind kw_1238 kw_569 rfl ⟨Nat.le_of_ble_eq_true rfl, Nat.le_of_ble_eq_true rfl⟩ rfl (cat_len (Nat.le_of_ble_eq_true rfl)) dX1_hasPrinted_1 ?_
  show v_ l D cy ka cX1_hasPrinted RX1 2 (some FieldType.boolean) "hasPrinted" 2 42 (qf_ D cy σ z (some (.int r))) σ z _ 4 [(0, va_rf (some p0)), (1, .int p1)] [.int x1]
  refine v_if_eq (tgt := 22) hf dX1_hasPrinted_4 (by decide) (fun hq hf => ?_) (fun hq hf => ?_)
  · refine v_sub [] (L2 := []) rfl ?_
    exact t_X1_hasPrinted_b22  hf
  · refine v_aload_n (x := (some p0)) dX1_hasPrinted_7 rfl 0 rfl ?_
    obtain ⟨hk_p0, hf⟩ := gt_of hf
    refine v_geti cb_2 hk_p0 6 206 rfl (by decide) rfl (lk_n kw_1190 rfl) hf dX1_hasPrinted_8 (fun x3 hf => ?_)
    refine v_iconst (v := 1) dX1_hasPrinted_11 (by decide) ?_
    refine v_iload_n (x := p1) dX1_hasPrinted_12 rfl 1 rfl ?_
    refine v_ishl dX1_hasPrinted_13 ?_
    refine v_iand dX1_hasPrinted_14 ?_
    refine v_if_eq (tgt := 22) hf dX1_hasPrinted_15 (by decide) (fun hq hf => ?_) (fun hq hf => ?_)
    · refine v_sub [] (L2 := []) rfl ?_
      exact t_X1_hasPrinted_b22  hf
    · refine v_iconst (v := 1) dX1_hasPrinted_18 (by decide) ?_
      refine v_goto (tgt := 23) dX1_hasPrinted_19 (by decide) ?_
      refine v_sub [] (L2 := []) rfl ?_
      exact t_X1_hasPrinted_b23  hf
theorem dX0_begin_0 : decode cX0_begin 0 = .ok (.aload_n 0, 1) := by decide +kernel
theorem dX0_begin_1 : decode cX0_begin 1 = .ok (.iload_n 1, 1) := by decide +kernel
theorem dX0_begin_2 : decode cX0_begin 2 = .ok (.putfield 32, 3) := by decide +kernel
theorem dX0_begin_5 : decode cX0_begin 5 = .ok (.aload_n 0, 1) := by decide +kernel
theorem dX0_begin_6 : decode cX0_begin 6 = .ok (.iload_n 2, 1) := by decide +kernel
theorem dX0_begin_7 : decode cX0_begin 7 = .ok (.putfield 35, 3) := by decide +kernel
theorem dX0_begin_10 : decode cX0_begin 10 = .ok (.aload_n 0, 1) := by decide +kernel
theorem dX0_begin_11 : decode cX0_begin 11 = .ok (.iconst 0, 1) := by decide +kernel
theorem dX0_begin_12 : decode cX0_begin 12 = .ok (.putfield 28, 3) := by decide +kernel
theorem dX0_begin_15 : decode cX0_begin 15 = .ok (.return_, 1) := by decide +kernel
/-- LivesAhead$Chooser.begin(II)V -/
def f_X0_begin (σ : TH) (p0 : Nat) (p1 : Int32) (p2 : Int32) : Option (Unit × TH) :=
  gt_ (kd_ σ p0 = 2) <| lt_ (si_ σ 106 p0 p1) fun s1 => lt_ (si_ s1 107 p0 p2) fun s2 => lt_ (si_ s2 105 p0 (0 : Int32)) fun s3 => some ((), s3)
set_option maxHeartbeats 4000000 in
set_option maxRecDepth 100000 in
theorem c_X0_begin {l : Launch} {D : va_G} {cy : Nat → ClassId} {ka : Nat → Nat} {σ z : TH} {p0 : Nat} {p1 : Int32} {p2 : Int32} {r : Unit} (hf : f_X0_begin σ p0 p1 p2 = some (r, z)) : ct_ l D cy ka yX0_begin 0 0 [va_rf (some p0), .int p1, .int p2] σ none z := by
  unfold f_X0_begin at hf
  refine v_start (cc := cX0_begin) (own := RX0) (maxL := 3) (ret := none) (nm := "begin") (by decide +kernel) kw_964 rfl rfl (by simp [lg_sl, va_rf_cat, cat_i, cat_l]) ?_
  refine v_eqL (L2 := [(0, va_rf (some p0)), (1, .int p1), (2, .int p2)]) (by simp [lv_args, va_rf_cat, cat_i, cat_l]) ?_
  refine v_aload_n (x := (some p0)) dX0_begin_0 rfl 0 rfl ?_
  refine v_iload_n (x := p1) dX0_begin_1 rfl 1 rfl ?_
  obtain ⟨hk_p0, hf⟩ := gt_of hf
  refine v_puti2 cb_1 hk_p0 6 106 rfl (by decide) rfl (lk_n kw_204 rfl) (Or.inl rfl) rfl rfl hf dX0_begin_2 (fun s1 hts1 hf => ?_)
  have hk_p0 := tk_ hts1 hk_p0
  refine v_aload_n (x := (some p0)) dX0_begin_5 rfl 0 rfl ?_
  refine v_iload_n (x := p2) dX0_begin_6 rfl 2 rfl ?_
  refine v_puti2 cb_1 hk_p0 7 107 rfl (by decide) rfl (lk_n kw_205 rfl) (Or.inl rfl) rfl rfl hf dX0_begin_7 (fun s2 hts2 hf => ?_)
  have hk_p0 := tk_ hts2 hk_p0
  refine v_aload_n (x := (some p0)) dX0_begin_10 rfl 0 rfl ?_
  refine v_iconst (v := 0) dX0_begin_11 (by decide) ?_
  refine v_puti2 cb_1 hk_p0 5 105 rfl (by decide) rfl (lk_n kw_203 rfl) (Or.inl rfl) rfl rfl hf dX0_begin_12 (fun s3 hts3 hf => ?_)
  have hk_p0 := tk_ hts3 hk_p0
  exact v_vret hf dX0_begin_15
theorem dX0_offer_0 : decode cX0_offer 0 = .ok (.aload_n 0, 1) := by decide +kernel
theorem dX0_offer_1 : decode cX0_offer 1 = .ok (.getfield 28, 3) := by decide +kernel
theorem dX0_offer_4 : decode cX0_offer 4 = .ok (.bipush 14, 2) := by decide +kernel
theorem dX0_offer_6 : decode cX0_offer 6 = .ok (.if_icmp .ge 54, 3) := by decide +kernel
theorem dX0_offer_9 : decode cX0_offer 9 = .ok (.aload_n 0, 1) := by decide +kernel
theorem dX0_offer_10 : decode cX0_offer 10 = .ok (.getfield 9, 3) := by decide +kernel
theorem dX0_offer_13 : decode cX0_offer 13 = .ok (.aload_n 0, 1) := by decide +kernel
theorem dX0_offer_14 : decode cX0_offer 14 = .ok (.getfield 28, 3) := by decide +kernel
theorem dX0_offer_17 : decode cX0_offer 17 = .ok (.iload_n 1, 1) := by decide +kernel
theorem dX0_offer_18 : decode cX0_offer 18 = .ok (.iastore, 1) := by decide +kernel
theorem dX0_offer_19 : decode cX0_offer 19 = .ok (.aload_n 0, 1) := by decide +kernel
theorem dX0_offer_20 : decode cX0_offer 20 = .ok (.getfield 15, 3) := by decide +kernel
theorem dX0_offer_23 : decode cX0_offer 23 = .ok (.aload_n 0, 1) := by decide +kernel
theorem dX0_offer_24 : decode cX0_offer 24 = .ok (.getfield 28, 3) := by decide +kernel
theorem dX0_offer_27 : decode cX0_offer 27 = .ok (.iload_n 2, 1) := by decide +kernel
theorem dX0_offer_28 : decode cX0_offer 28 = .ok (.iastore, 1) := by decide +kernel
theorem dX0_offer_29 : decode cX0_offer 29 = .ok (.aload_n 0, 1) := by decide +kernel
theorem dX0_offer_30 : decode cX0_offer 30 = .ok (.getfield 18, 3) := by decide +kernel
theorem dX0_offer_33 : decode cX0_offer 33 = .ok (.aload_n 0, 1) := by decide +kernel
theorem dX0_offer_34 : decode cX0_offer 34 = .ok (.getfield 28, 3) := by decide +kernel
theorem dX0_offer_37 : decode cX0_offer 37 = .ok (.iload_n 3, 1) := by decide +kernel
theorem dX0_offer_38 : decode cX0_offer 38 = .ok (.iastore, 1) := by decide +kernel
theorem dX0_offer_39 : decode cX0_offer 39 = .ok (.aload_n 0, 1) := by decide +kernel
theorem dX0_offer_40 : decode cX0_offer 40 = .ok (.getfield 21, 3) := by decide +kernel
theorem dX0_offer_43 : decode cX0_offer 43 = .ok (.aload_n 0, 1) := by decide +kernel
theorem dX0_offer_44 : decode cX0_offer 44 = .ok (.getfield 28, 3) := by decide +kernel
theorem dX0_offer_47 : decode cX0_offer 47 = .ok (.iload 4, 2) := by decide +kernel
theorem dX0_offer_49 : decode cX0_offer 49 = .ok (.bastore, 1) := by decide +kernel
theorem dX0_offer_50 : decode cX0_offer 50 = .ok (.aload_n 0, 1) := by decide +kernel
theorem dX0_offer_51 : decode cX0_offer 51 = .ok (.dup, 1) := by decide +kernel
theorem dX0_offer_52 : decode cX0_offer 52 = .ok (.getfield 28, 3) := by decide +kernel
theorem dX0_offer_55 : decode cX0_offer 55 = .ok (.iconst 1, 1) := by decide +kernel
theorem dX0_offer_56 : decode cX0_offer 56 = .ok (.iadd, 1) := by decide +kernel
theorem dX0_offer_57 : decode cX0_offer 57 = .ok (.putfield 28, 3) := by decide +kernel
theorem dX0_offer_60 : decode cX0_offer 60 = .ok (.return_, 1) := by decide +kernel
def f_X0_offer_b60 (σ : TH) : Option (Unit × TH) :=
  some ((), σ)
set_option maxHeartbeats 4000000 in
set_option maxRecDepth 100000 in
theorem t_X0_offer_b60 {l : Launch} {D : va_G} {cy : Nat → ClassId} {ka : Nat → Nat} {σ0 z : TH} {r : Unit}  {σ : TH}  (hf : f_X0_offer_b60 σ  = some (r, z)) : v_ l D cy ka cX0_offer RX0 5 none "offer" 0 0 (qf_ D cy σ0 z none) σ0 z σ 60 [] [] := by
  unfold f_X0_offer_b60 at hf
  exact v_vret hf dX0_offer_60
/-- LivesAhead$Chooser.offer(IIIZ)V -/
def f_X0_offer (σ : TH) (p0 : Nat) (p1 : Int32) (p2 : Int32) (p3 : Int32) (p4 : Int32) : Option (Unit × TH) :=
  gt_ (kd_ σ p0 = 2) <| lt_ (fi_ σ 105 p0) fun x1 => if (14 : Int32) ≤ x1 then (f_X0_offer_b60 σ ) else (lt_ (fr_ σ 100 p0) fun r2 => lt_ (fi_ σ 105 p0) fun x3 => nn_ r2 fun a4 => gt_ (kd_ σ a4 = 20) <| gt_ (¬ (x3 < 0 ∨ ln_ σ a4 ≤ x3.toNatClampNeg)) <| lt_ (sa_ σ a4 x3.toNatClampNeg p1) fun s5 => lt_ (fr_ s5 101 p0) fun r6 => lt_ (fi_ s5 105 p0) fun x7 => nn_ r6 fun a8 => gt_ (kd_ s5 a8 = 20) <| gt_ (¬ (x7 < 0 ∨ ln_ s5 a8 ≤ x7.toNatClampNeg)) <| lt_ (sa_ s5 a8 x7.toNatClampNeg p2) fun s9 => lt_ (fr_ s9 102 p0) fun r10 => lt_ (fi_ s9 105 p0) fun x11 => nn_ r10 fun a12 => gt_ (kd_ s9 a12 = 20) <| gt_ (¬ (x11 < 0 ∨ ln_ s9 a12 ≤ x11.toNatClampNeg)) <| lt_ (sa_ s9 a12 x11.toNatClampNeg p3) fun s13 => lt_ (fr_ s13 103 p0) fun r14 => lt_ (fi_ s13 105 p0) fun x15 => nn_ r14 fun a16 => gt_ (kd_ s13 a16 = 22) <| gt_ (¬ (x15 < 0 ∨ ln_ s13 a16 ≤ x15.toNatClampNeg)) <| lt_ (sa_ s13 a16 x15.toNatClampNeg (vp_nar .boolean p4)) fun s17 => lt_ (fi_ s17 105 p0) fun x18 => lt_ (si_ s17 105 p0 (x18 + (1 : Int32))) fun s19 => f_X0_offer_b60 s19 )
set_option maxHeartbeats 4000000 in
set_option maxRecDepth 100000 in
theorem c_X0_offer {l : Launch} {D : va_G} {cy : Nat → ClassId} {ka : Nat → Nat} {σ z : TH} {p0 : Nat} {p1 : Int32} {p2 : Int32} {p3 : Int32} {p4 : Int32} {r : Unit} (hf : f_X0_offer σ p0 p1 p2 p3 p4 = some (r, z)) : ct_ l D cy ka yX0_offer 0 0 [va_rf (some p0), .int p1, .int p2, .int p3, .int p4] σ none z := by
  unfold f_X0_offer at hf
  refine v_start (cc := cX0_offer) (own := RX0) (maxL := 5) (ret := none) (nm := "offer") (by decide +kernel) kw_968 rfl rfl (by simp [lg_sl, va_rf_cat, cat_i, cat_l]) ?_
  refine v_eqL (L2 := [(0, va_rf (some p0)), (1, .int p1), (2, .int p2), (3, .int p3), (4, .int p4)]) (by simp [lv_args, va_rf_cat, cat_i, cat_l]) ?_
  refine v_aload_n (x := (some p0)) dX0_offer_0 rfl 0 rfl ?_
  obtain ⟨hk_p0, hf⟩ := gt_of hf
  refine v_geti cb_1 hk_p0 5 105 rfl (by decide) rfl (lk_n kw_203 rfl) hf dX0_offer_1 (fun x1 hf => ?_)
  refine v_bipush (v := 14) dX0_offer_4 (by decide) ?_
  refine v_icmp_ge (tgt := 60) hf dX0_offer_6 (by decide) (fun hq hf => ?_) (fun hq hf => ?_)
  · refine v_sub [] (L2 := []) rfl ?_
    exact t_X0_offer_b60  hf
  · refine v_aload_n (x := (some p0)) dX0_offer_9 rfl 0 rfl ?_
    refine v_getr cb_1 hk_p0 0 100 rfl (by decide) rfl (lk_n kw_198 rfl) hf dX0_offer_10 (fun r2 hf => ?_)
    refine v_aload_n (x := (some p0)) dX0_offer_13 rfl 0 rfl ?_
    refine v_geti cb_1 hk_p0 5 105 rfl (by decide) rfl (lk_n kw_203 rfl) hf dX0_offer_14 (fun x3 hf => ?_)
    refine v_iload_n (x := p1) dX0_offer_17 rfl 1 rfl ?_
    obtain ⟨a4, rfl, hf⟩ := nn_of hf
    obtain ⟨hk_a4, hf⟩ := gt_of hf
    refine v_iast2 hk_a4 hf dX0_offer_18 (fun s5 hts5 hf => ?_)
    have hk_p0 := tk_ hts5 hk_p0
    refine v_aload_n (x := (some p0)) dX0_offer_19 rfl 0 rfl ?_
    refine v_getr cb_1 hk_p0 1 101 rfl (by decide) rfl (lk_n kw_199 rfl) hf dX0_offer_20 (fun r6 hf => ?_)
    refine v_aload_n (x := (some p0)) dX0_offer_23 rfl 0 rfl ?_
    refine v_geti cb_1 hk_p0 5 105 rfl (by decide) rfl (lk_n kw_203 rfl) hf dX0_offer_24 (fun x7 hf => ?_)
    refine v_iload_n (x := p2) dX0_offer_27 rfl 2 rfl ?_
    obtain ⟨a8, rfl, hf⟩ := nn_of hf
    obtain ⟨hk_a8, hf⟩ := gt_of hf
    refine v_iast2 hk_a8 hf dX0_offer_28 (fun s9 hts9 hf => ?_)
    have hk_p0 := tk_ hts9 hk_p0
    refine v_aload_n (x := (some p0)) dX0_offer_29 rfl 0 rfl ?_
    refine v_getr cb_1 hk_p0 2 102 rfl (by decide) rfl (lk_n kw_200 rfl) hf dX0_offer_30 (fun r10 hf => ?_)
    refine v_aload_n (x := (some p0)) dX0_offer_33 rfl 0 rfl ?_
    refine v_geti cb_1 hk_p0 5 105 rfl (by decide) rfl (lk_n kw_203 rfl) hf dX0_offer_34 (fun x11 hf => ?_)
    refine v_iload_n (x := p3) dX0_offer_37 rfl 3 rfl ?_
    obtain ⟨a12, rfl, hf⟩ := nn_of hf
    obtain ⟨hk_a12, hf⟩ := gt_of hf
    refine v_iast2 hk_a12 hf dX0_offer_38 (fun s13 hts13 hf => ?_)
    have hk_p0 := tk_ hts13 hk_p0
    refine v_aload_n (x := (some p0)) dX0_offer_39 rfl 0 rfl ?_
    refine v_getr cb_1 hk_p0 3 103 rfl (by decide) rfl (lk_n kw_201 rfl) hf dX0_offer_40 (fun r14 hf => ?_)
    refine v_aload_n (x := (some p0)) dX0_offer_43 rfl 0 rfl ?_
    refine v_geti cb_1 hk_p0 5 105 rfl (by decide) rfl (lk_n kw_203 rfl) hf dX0_offer_44 (fun x15 hf => ?_)
    refine v_iload (x := p4) dX0_offer_47 4 rfl ?_
    obtain ⟨a16, rfl, hf⟩ := nn_of hf
    obtain ⟨hk_a16, hf⟩ := gt_of hf
    refine v_zast2 hk_a16 hf dX0_offer_49 (fun s17 hts17 hf => ?_)
    have hk_p0 := tk_ hts17 hk_p0
    refine v_aload_n (x := (some p0)) dX0_offer_50 rfl 0 rfl ?_
    refine v_dup dX0_offer_51 (va_rf_cat _) ?_
    refine v_geti cb_1 hk_p0 5 105 rfl (by decide) rfl (lk_n kw_203 rfl) hf dX0_offer_52 (fun x18 hf => ?_)
    refine v_iconst (v := 1) dX0_offer_55 (by decide) ?_
    refine v_iadd dX0_offer_56 ?_
    refine v_puti2 cb_1 hk_p0 5 105 rfl (by decide) rfl (lk_n kw_203 rfl) (Or.inl rfl) rfl rfl hf dX0_offer_57 (fun s19 hts19 hf => ?_)
    have hk_p0 := tk_ hts19 hk_p0
    refine v_sub [] (L2 := []) rfl ?_
    exact t_X0_offer_b60  hf
theorem dX11_fillPrinter_0 : decode cX11_fillPrinter 0 = .ok (.aload_n 0, 1) := by decide +kernel
theorem dX11_fillPrinter_1 : decode cX11_fillPrinter 1 = .ok (.getfield 48, 3) := by decide +kernel
theorem dX11_fillPrinter_4 : decode cX11_fillPrinter 4 = .ok (.aload_n 1, 1) := by decide +kernel
theorem dX11_fillPrinter_5 : decode cX11_fillPrinter 5 = .ok (.invokevirtual 166, 3) := by decide +kernel
theorem dX11_fillPrinter_8 : decode cX11_fillPrinter 8 = .ok (.putfield 473, 3) := by decide +kernel
theorem dX11_fillPrinter_11 : decode cX11_fillPrinter 11 = .ok (.aload_n 0, 1) := by decide +kernel
theorem dX11_fillPrinter_12 : decode cX11_fillPrinter 12 = .ok (.getfield 48, 3) := by decide +kernel
theorem dX11_fillPrinter_15 : decode cX11_fillPrinter 15 = .ok (.aload_n 0, 1) := by decide +kernel
theorem dX11_fillPrinter_16 : decode cX11_fillPrinter 16 = .ok (.aload_n 1, 1) := by decide +kernel
theorem dX11_fillPrinter_17 : decode cX11_fillPrinter 17 = .ok (.aload_n 0, 1) := by decide +kernel
theorem dX11_fillPrinter_18 : decode cX11_fillPrinter 18 = .ok (.invokevirtual 188, 3) := by decide +kernel
theorem dX11_fillPrinter_21 : decode cX11_fillPrinter 21 = .ok (.invokevirtual 191, 3) := by decide +kernel
theorem dX11_fillPrinter_24 : decode cX11_fillPrinter 24 = .ok (.putfield 476, 3) := by decide +kernel
theorem dX11_fillPrinter_27 : decode cX11_fillPrinter 27 = .ok (.aload_n 0, 1) := by decide +kernel
theorem dX11_fillPrinter_28 : decode cX11_fillPrinter 28 = .ok (.getfield 48, 3) := by decide +kernel
theorem dX11_fillPrinter_31 : decode cX11_fillPrinter 31 = .ok (.iconst 0, 1) := by decide +kernel
theorem dX11_fillPrinter_32 : decode cX11_fillPrinter 32 = .ok (.putfield 479, 3) := by decide +kernel
theorem dX11_fillPrinter_35 : decode cX11_fillPrinter 35 = .ok (.iconst 0, 1) := by decide +kernel
theorem dX11_fillPrinter_36 : decode cX11_fillPrinter 36 = .ok (.istore_n 2, 1) := by decide +kernel
theorem dX11_fillPrinter_37 : decode cX11_fillPrinter 37 = .ok (.iload_n 2, 1) := by decide +kernel
theorem dX11_fillPrinter_38 : decode cX11_fillPrinter 38 = .ok (.bipush 10, 2) := by decide +kernel
theorem dX11_fillPrinter_40 : decode cX11_fillPrinter 40 = .ok (.if_icmp .ge 87, 3) := by decide +kernel
theorem dX11_fillPrinter_43 : decode cX11_fillPrinter 43 = .ok (.aload_n 1, 1) := by decide +kernel
theorem dX11_fillPrinter_44 : decode cX11_fillPrinter 44 = .ok (.getfield 203, 3) := by decide +kernel
theorem dX11_fillPrinter_47 : decode cX11_fillPrinter 47 = .ok (.iload_n 2, 1) := by decide +kernel
theorem dX11_fillPrinter_48 : decode cX11_fillPrinter 48 = .ok (.aaload, 1) := by decide +kernel
theorem dX11_fillPrinter_49 : decode cX11_fillPrinter 49 = .ok (.astore_n 3, 1) := by decide +kernel
theorem dX11_fillPrinter_50 : decode cX11_fillPrinter 50 = .ok (.aload_n 3, 1) := by decide +kernel
theorem dX11_fillPrinter_51 : decode cX11_fillPrinter 51 = .ok (.ifnull 21, 3) := by decide +kernel
theorem dX11_fillPrinter_54 : decode cX11_fillPrinter 54 = .ok (.aload_n 3, 1) := by decide +kernel
theorem dX11_fillPrinter_55 : decode cX11_fillPrinter 55 = .ok (.getfield 224, 3) := by decide +kernel
theorem dX11_fillPrinter_58 : decode cX11_fillPrinter 58 = .ok (.ifCond .eq 10, 3) := by decide +kernel
theorem dX11_fillPrinter_61 : decode cX11_fillPrinter 61 = .ok (.aload_n 1, 1) := by decide +kernel
theorem dX11_fillPrinter_62 : decode cX11_fillPrinter 62 = .ok (.invokevirtual 166, 3) := by decide +kernel
theorem dX11_fillPrinter_65 : decode cX11_fillPrinter 65 = .ok (.ifCond .eq 7, 3) := by decide +kernel
theorem dX11_fillPrinter_68 : decode cX11_fillPrinter 68 = .ok (.iconst 1, 1) := by decide +kernel
theorem dX11_fillPrinter_69 : decode cX11_fillPrinter 69 = .ok (.goto 4, 3) := by decide +kernel
theorem dX11_fillPrinter_72 : decode cX11_fillPrinter 72 = .ok (.iconst 0, 1) := by decide +kernel
theorem dX11_fillPrinter_73 : decode cX11_fillPrinter 73 = .ok (.istore 4, 2) := by decide +kernel
theorem dX11_fillPrinter_75 : decode cX11_fillPrinter 75 = .ok (.aload_n 0, 1) := by decide +kernel
theorem dX11_fillPrinter_76 : decode cX11_fillPrinter 76 = .ok (.getfield 48, 3) := by decide +kernel
theorem dX11_fillPrinter_79 : decode cX11_fillPrinter 79 = .ok (.getfield 482, 3) := by decide +kernel
theorem dX11_fillPrinter_82 : decode cX11_fillPrinter 82 = .ok (.iload_n 2, 1) := by decide +kernel
theorem dX11_fillPrinter_83 : decode cX11_fillPrinter 83 = .ok (.iload 4, 2) := by decide +kernel
theorem dX11_fillPrinter_85 : decode cX11_fillPrinter 85 = .ok (.ifCond .eq 10, 3) := by decide +kernel
theorem dX11_fillPrinter_88 : decode cX11_fillPrinter 88 = .ok (.aload_n 3, 1) := by decide +kernel
theorem dX11_fillPrinter_89 : decode cX11_fillPrinter 89 = .ok (.getfield 221, 3) := by decide +kernel
theorem dX11_fillPrinter_92 : decode cX11_fillPrinter 92 = .ok (.goto 4, 3) := by decide +kernel
theorem dX11_fillPrinter_95 : decode cX11_fillPrinter 95 = .ok (.iconst 0, 1) := by decide +kernel
theorem dX11_fillPrinter_96 : decode cX11_fillPrinter 96 = .ok (.iastore, 1) := by decide +kernel
theorem dX11_fillPrinter_97 : decode cX11_fillPrinter 97 = .ok (.aload_n 0, 1) := by decide +kernel
theorem dX11_fillPrinter_98 : decode cX11_fillPrinter 98 = .ok (.getfield 48, 3) := by decide +kernel
theorem dX11_fillPrinter_101 : decode cX11_fillPrinter 101 = .ok (.dup, 1) := by decide +kernel
theorem dX11_fillPrinter_102 : decode cX11_fillPrinter 102 = .ok (.getfield 479, 3) := by decide +kernel
theorem dX11_fillPrinter_105 : decode cX11_fillPrinter 105 = .ok (.iload 4, 2) := by decide +kernel
theorem dX11_fillPrinter_107 : decode cX11_fillPrinter 107 = .ok (.ifCond .eq 9, 3) := by decide +kernel
theorem dX11_fillPrinter_110 : decode cX11_fillPrinter 110 = .ok (.iconst 1, 1) := by decide +kernel
theorem dX11_fillPrinter_111 : decode cX11_fillPrinter 111 = .ok (.iload_n 2, 1) := by decide +kernel
theorem dX11_fillPrinter_112 : decode cX11_fillPrinter 112 = .ok (.ishl, 1) := by decide +kernel
theorem dX11_fillPrinter_113 : decode cX11_fillPrinter 113 = .ok (.goto 4, 3) := by decide +kernel
theorem dX11_fillPrinter_116 : decode cX11_fillPrinter 116 = .ok (.iconst 0, 1) := by decide +kernel
theorem dX11_fillPrinter_117 : decode cX11_fillPrinter 117 = .ok (.ior, 1) := by decide +kernel
theorem dX11_fillPrinter_118 : decode cX11_fillPrinter 118 = .ok (.putfield 479, 3) := by decide +kernel
theorem dX11_fillPrinter_121 : decode cX11_fillPrinter 121 = .ok (.iinc 2 1, 3) := by decide +kernel
theorem dX11_fillPrinter_124 : decode cX11_fillPrinter 124 = .ok (.goto (-87), 3) := by decide +kernel
theorem dX11_fillPrinter_127 : decode cX11_fillPrinter 127 = .ok (.aload_n 0, 1) := by decide +kernel
theorem dX11_fillPrinter_128 : decode cX11_fillPrinter 128 = .ok (.getfield 48, 3) := by decide +kernel
theorem dX11_fillPrinter_131 : decode cX11_fillPrinter 131 = .ok (.getfield 482, 3) := by decide +kernel
theorem dX11_fillPrinter_134 : decode cX11_fillPrinter 134 = .ok (.bipush 10, 2) := by decide +kernel
theorem dX11_fillPrinter_136 : decode cX11_fillPrinter 136 = .ok (.aload_n 0, 1) := by decide +kernel
theorem dX11_fillPrinter_137 : decode cX11_fillPrinter 137 = .ok (.aload_n 1, 1) := by decide +kernel
theorem dX11_fillPrinter_138 : decode cX11_fillPrinter 138 = .ok (.invokevirtual 156, 3) := by decide +kernel
theorem dX11_fillPrinter_141 : decode cX11_fillPrinter 141 = .ok (.iastore, 1) := by decide +kernel
theorem dX11_fillPrinter_142 : decode cX11_fillPrinter 142 = .ok (.aload_n 0, 1) := by decide +kernel
theorem dX11_fillPrinter_143 : decode cX11_fillPrinter 143 = .ok (.getfield 48, 3) := by decide +kernel
theorem dX11_fillPrinter_146 : decode cX11_fillPrinter 146 = .ok (.getfield 482, 3) := by decide +kernel
theorem dX11_fillPrinter_149 : decode cX11_fillPrinter 149 = .ok (.bipush 11, 2) := by decide +kernel
theorem dX11_fillPrinter_151 : decode cX11_fillPrinter 151 = .ok (.bipush 100, 2) := by decide +kernel
theorem dX11_fillPrinter_153 : decode cX11_fillPrinter 153 = .ok (.aload_n 1, 1) := by decide +kernel
theorem dX11_fillPrinter_154 : decode cX11_fillPrinter 154 = .ok (.getfield 470, 3) := by decide +kernel
theorem dX11_fillPrinter_157 : decode cX11_fillPrinter 157 = .ok (.sipush 365, 3) := by decide +kernel
theorem dX11_fillPrinter_160 : decode cX11_fillPrinter 160 = .ok (.iadd, 1) := by decide +kernel
theorem dX11_fillPrinter_161 : decode cX11_fillPrinter 161 = .ok (.iconst 1, 1) := by decide +kernel
theorem dX11_fillPrinter_162 : decode cX11_fillPrinter 162 = .ok (.isub, 1) := by decide +kernel
theorem dX11_fillPrinter_163 : decode cX11_fillPrinter 163 = .ok (.sipush 365, 3) := by decide +kernel
theorem dX11_fillPrinter_166 : decode cX11_fillPrinter 166 = .ok (.idiv, 1) := by decide +kernel
theorem dX11_fillPrinter_167 : decode cX11_fillPrinter 167 = .ok (.isub, 1) := by decide +kernel
theorem dX11_fillPrinter_168 : decode cX11_fillPrinter 168 = .ok (.iastore, 1) := by decide +kernel
theorem dX11_fillPrinter_169 : decode cX11_fillPrinter 169 = .ok (.aload_n 0, 1) := by decide +kernel
theorem dX11_fillPrinter_170 : decode cX11_fillPrinter 170 = .ok (.getfield 48, 3) := by decide +kernel
theorem dX11_fillPrinter_173 : decode cX11_fillPrinter 173 = .ok (.getfield 482, 3) := by decide +kernel
theorem dX11_fillPrinter_176 : decode cX11_fillPrinter 176 = .ok (.bipush 12, 2) := by decide +kernel
theorem dX11_fillPrinter_178 : decode cX11_fillPrinter 178 = .ok (.bipush 100, 2) := by decide +kernel
theorem dX11_fillPrinter_180 : decode cX11_fillPrinter 180 = .ok (.aload_n 0, 1) := by decide +kernel
theorem dX11_fillPrinter_181 : decode cX11_fillPrinter 181 = .ok (.invokevirtual 188, 3) := by decide +kernel
theorem dX11_fillPrinter_184 : decode cX11_fillPrinter 184 = .ok (.sipush 365, 3) := by decide +kernel
theorem dX11_fillPrinter_187 : decode cX11_fillPrinter 187 = .ok (.idiv, 1) := by decide +kernel
theorem dX11_fillPrinter_188 : decode cX11_fillPrinter 188 = .ok (.iadd, 1) := by decide +kernel
theorem dX11_fillPrinter_189 : decode cX11_fillPrinter 189 = .ok (.iastore, 1) := by decide +kernel
theorem dX11_fillPrinter_190 : decode cX11_fillPrinter 190 = .ok (.aload_n 0, 1) := by decide +kernel
theorem dX11_fillPrinter_191 : decode cX11_fillPrinter 191 = .ok (.getfield 48, 3) := by decide +kernel
theorem dX11_fillPrinter_194 : decode cX11_fillPrinter 194 = .ok (.getfield 482, 3) := by decide +kernel
theorem dX11_fillPrinter_197 : decode cX11_fillPrinter 197 = .ok (.bipush 13, 2) := by decide +kernel
theorem dX11_fillPrinter_199 : decode cX11_fillPrinter 199 = .ok (.aload_n 1, 1) := by decide +kernel
theorem dX11_fillPrinter_200 : decode cX11_fillPrinter 200 = .ok (.getfield 160, 3) := by decide +kernel
theorem dX11_fillPrinter_203 : decode cX11_fillPrinter 203 = .ok (.iastore, 1) := by decide +kernel
theorem dX11_fillPrinter_204 : decode cX11_fillPrinter 204 = .ok (.return_, 1) := by decide +kernel
def f_X11_fillPrinter_b117 (rec_37 : TH → Nat → Option Nat → Int32 → Option (Unit × TH)) (σ : TH) (l0 : Nat) (l1 : Option Nat) (l2 : Int32) (t0 : Int32) (t1 : Int32) (t2 : Option Nat) : Option (Unit × TH) :=
  nn_ t2 fun a57 => gt_ (kd_ σ a57 = 6) <| lt_ (si_ σ 502 a57 (t1 ||| t0)) fun s58 => lt_ (l2 + 1) fun x59 => rec_37 s58 l0 l1 x59
set_option maxHeartbeats 4000000 in
set_option maxRecDepth 100000 in
theorem t_X11_fillPrinter_b117 {l : Launch} {D : va_G} {cy : Nat → ClassId} {ka : Nat → Nat} {σ0 z : TH} {r : Unit} {rec_37 : TH → Nat → Option Nat → Int32 → Option (Unit × TH)} (hrec_37 : ∀ (σ : TH) (l0 : Nat) (l1 : Option Nat) (l2 : Int32), rec_37 σ l0 l1 l2 = some (r, z) → v_ l D cy ka cX11_fillPrinter RX11 5 none "fillPrinter" 2 48 (qf_ D cy σ0 z none) σ0 z σ 37 [(0, va_rf (some l0)), (1, va_rf l1), (2, .int l2)] []) {σ : TH} {l0 : Nat} {l1 : Option Nat} {l2 : Int32} {t0 : Int32} {t1 : Int32} {t2 : Option Nat} (hf : f_X11_fillPrinter_b117 rec_37 σ l0 l1 l2 t0 t1 t2 = some (r, z)) : v_ l D cy ka cX11_fillPrinter RX11 5 none "fillPrinter" 2 48 (qf_ D cy σ0 z none) σ0 z σ 117 [(0, va_rf (some l0)), (1, va_rf l1), (2, .int l2)] [.int t0, .int t1, va_rf t2] := by
  unfold f_X11_fillPrinter_b117 at hf
  refine v_ior dX11_fillPrinter_117 ?_
  obtain ⟨a57, rfl, hf⟩ := nn_of hf
  obtain ⟨hk_a57, hf⟩ := gt_of hf
  refine v_puti2 cb_5 hk_a57 2 502 rfl (by decide) rfl (lk_n kw_148 rfl) (Or.inl rfl) rfl rfl hf dX11_fillPrinter_118 (fun s58 hts58 hf => ?_)
  obtain ⟨x59, ex59⟩ : ∃ y : Int32, y = l2 + 1 := ⟨_, rfl⟩
  rw [lt_e, ← ex59] at hf
  refine v_iinc (v := x59) [(2, .int x59), (0, va_rf (some l0)), (1, va_rf l1)] dX11_fillPrinter_121 2 rfl (by rw [ex59]; rfl) (by decide) (by simp [va_rf_cat, cat_i, cat_l]) ?_
  refine v_goto (tgt := 37) dX11_fillPrinter_124 (by decide) ?_
  refine v_sub [1, 2, 0] (L2 := [(0, va_rf (some l0)), (1, va_rf l1), (2, .int x59)]) rfl ?_
  exact hrec_37 _ _ _ _ hf
def f_X11_fillPrinter_b96 (rec_37 : TH → Nat → Option Nat → Int32 → Option (Unit × TH)) (σ : TH) (l0 : Nat) (l1 : Option Nat) (l2 : Int32) (l4 : Int32) (t0 : Int32) (t1 : Int32) (t2 : Option Nat) : Option (Unit × TH) :=
  nn_ t2 fun a52 => gt_ (kd_ σ a52 = 20) <| gt_ (¬ (t1 < 0 ∨ ln_ σ a52 ≤ t1.toNatClampNeg)) <| lt_ (sa_ σ a52 t1.toNatClampNeg t0) fun s53 => gt_ (kd_ s53 l0 = 13) <| lt_ (fr_ s53 1209 l0) fun r54 => nn_ r54 fun a55 => gt_ (kd_ s53 a55 = 6) <| lt_ (fi_ s53 502 a55) fun x56 => if l4 = 0 then (f_X11_fillPrinter_b117 rec_37 s53 l0 l1 l2 (0 : Int32) x56 (some a55)) else (f_X11_fillPrinter_b117 rec_37 s53 l0 l1 l2 ((1 : Int32) <<< (l2 &&& 31)) x56 (some a55))
set_option maxHeartbeats 4000000 in
set_option maxRecDepth 100000 in
theorem t_X11_fillPrinter_b96 {l : Launch} {D : va_G} {cy : Nat → ClassId} {ka : Nat → Nat} {σ0 z : TH} {r : Unit} {rec_37 : TH → Nat → Option Nat → Int32 → Option (Unit × TH)} (hrec_37 : ∀ (σ : TH) (l0 : Nat) (l1 : Option Nat) (l2 : Int32), rec_37 σ l0 l1 l2 = some (r, z) → v_ l D cy ka cX11_fillPrinter RX11 5 none "fillPrinter" 2 48 (qf_ D cy σ0 z none) σ0 z σ 37 [(0, va_rf (some l0)), (1, va_rf l1), (2, .int l2)] []) {σ : TH} {l0 : Nat} {l1 : Option Nat} {l2 : Int32} {l4 : Int32} {t0 : Int32} {t1 : Int32} {t2 : Option Nat} (hf : f_X11_fillPrinter_b96 rec_37 σ l0 l1 l2 l4 t0 t1 t2 = some (r, z)) : v_ l D cy ka cX11_fillPrinter RX11 5 none "fillPrinter" 2 48 (qf_ D cy σ0 z none) σ0 z σ 96 [(0, va_rf (some l0)), (1, va_rf l1), (2, .int l2), (4, .int l4)] [.int t0, .int t1, va_rf t2] := by
  unfold f_X11_fillPrinter_b96 at hf
  obtain ⟨a52, rfl, hf⟩ := nn_of hf
  obtain ⟨hk_a52, hf⟩ := gt_of hf
  refine v_iast2 hk_a52 hf dX11_fillPrinter_96 (fun s53 hts53 hf => ?_)
  refine v_aload_n (x := (some l0)) dX11_fillPrinter_97 rfl 0 rfl ?_
  obtain ⟨hk_l0, hf⟩ := gt_of hf
  refine v_getr cb_12 hk_l0 9 1209 rfl (by decide) rfl (lk_n kw_248 rfl) hf dX11_fillPrinter_98 (fun r54 hf => ?_)
  refine v_dup dX11_fillPrinter_101 (va_rf_cat _) ?_
  obtain ⟨a55, rfl, hf⟩ := nn_of hf
  obtain ⟨hk_a55, hf⟩ := gt_of hf
  refine v_geti cb_5 hk_a55 2 502 rfl (by decide) rfl (lk_n kw_148 rfl) hf dX11_fillPrinter_102 (fun x56 hf => ?_)
  refine v_iload (x := l4) dX11_fillPrinter_105 3 rfl ?_
  refine v_if_eq (tgt := 116) hf dX11_fillPrinter_107 (by decide) (fun hq hf => ?_) (fun hq hf => ?_)
  · refine v_iconst (v := 0) dX11_fillPrinter_116 (by decide) ?_
    refine v_sub [0, 1, 2] (L2 := [(0, va_rf (some l0)), (1, va_rf l1), (2, .int l2)]) rfl ?_
    exact t_X11_fillPrinter_b117 hrec_37 hf
  · refine v_iconst (v := 1) dX11_fillPrinter_110 (by decide) ?_
    refine v_iload_n (x := l2) dX11_fillPrinter_111 rfl 2 rfl ?_
    refine v_ishl dX11_fillPrinter_112 ?_
    refine v_goto (tgt := 117) dX11_fillPrinter_113 (by decide) ?_
    refine v_sub [0, 1, 2] (L2 := [(0, va_rf (some l0)), (1, va_rf l1), (2, .int l2)]) rfl ?_
    exact t_X11_fillPrinter_b117 hrec_37 hf
def f_X11_fillPrinter_b73 (rec_37 : TH → Nat → Option Nat → Int32 → Option (Unit × TH)) (σ : TH) (l0 : Nat) (l1 : Option Nat) (l2 : Int32) (l3 : Option Nat) (t0 : Int32) : Option (Unit × TH) :=
  gt_ (kd_ σ l0 = 13) <| lt_ (fr_ σ 1209 l0) fun r49 => nn_ r49 fun a50 => gt_ (kd_ σ a50 = 6) <| lt_ (fr_ σ 500 a50) fun r51 => if t0 = 0 then (f_X11_fillPrinter_b96 rec_37 σ l0 l1 l2 t0 (0 : Int32) l2 r51) else (nn_ l3 fun a60 => gt_ (kd_ σ a60 = 10) <| lt_ (fi_ σ 900 a60) fun x61 => f_X11_fillPrinter_b96 rec_37 σ l0 l1 l2 t0 x61 l2 r51)
set_option maxHeartbeats 4000000 in
set_option maxRecDepth 100000 in
theorem t_X11_fillPrinter_b73 {l : Launch} {D : va_G} {cy : Nat → ClassId} {ka : Nat → Nat} {σ0 z : TH} {r : Unit} {rec_37 : TH → Nat → Option Nat → Int32 → Option (Unit × TH)} (hrec_37 : ∀ (σ : TH) (l0 : Nat) (l1 : Option Nat) (l2 : Int32), rec_37 σ l0 l1 l2 = some (r, z) → v_ l D cy ka cX11_fillPrinter RX11 5 none "fillPrinter" 2 48 (qf_ D cy σ0 z none) σ0 z σ 37 [(0, va_rf (some l0)), (1, va_rf l1), (2, .int l2)] []) {σ : TH} {l0 : Nat} {l1 : Option Nat} {l2 : Int32} {l3 : Option Nat} {t0 : Int32} (hf : f_X11_fillPrinter_b73 rec_37 σ l0 l1 l2 l3 t0 = some (r, z)) : v_ l D cy ka cX11_fillPrinter RX11 5 none "fillPrinter" 2 48 (qf_ D cy σ0 z none) σ0 z σ 73 [(0, va_rf (some l0)), (1, va_rf l1), (2, .int l2), (3, va_rf l3)] [.int t0] := by
  unfold f_X11_fillPrinter_b73 at hf
  refine v_istore [(4, .int t0), (0, va_rf (some l0)), (1, va_rf l1), (2, .int l2), (3, va_rf l3)] dX11_fillPrinter_73 (by decide) (by simp [va_rf_cat, cat_i, cat_l]) ?_
  refine v_aload_n (x := (some l0)) dX11_fillPrinter_75 rfl 1 rfl ?_
  obtain ⟨hk_l0, hf⟩ := gt_of hf
  refine v_getr cb_12 hk_l0 9 1209 rfl (by decide) rfl (lk_n kw_248 rfl) hf dX11_fillPrinter_76 (fun r49 hf => ?_)
  obtain ⟨a50, rfl, hf⟩ := nn_of hf
  obtain ⟨hk_a50, hf⟩ := gt_of hf
  refine v_getr cb_5 hk_a50 0 500 rfl (by decide) rfl (lk_n kw_144 rfl) hf dX11_fillPrinter_79 (fun r51 hf => ?_)
  refine v_iload_n (x := l2) dX11_fillPrinter_82 rfl 3 rfl ?_
  refine v_iload (x := t0) dX11_fillPrinter_83 0 rfl ?_
  refine v_if_eq (tgt := 95) hf dX11_fillPrinter_85 (by decide) (fun hq hf => ?_) (fun hq hf => ?_)
  · refine v_iconst (v := 0) dX11_fillPrinter_95 (by decide) ?_
    refine v_sub [1, 2, 3, 0] (L2 := [(0, va_rf (some l0)), (1, va_rf l1), (2, .int l2), (4, .int t0)]) rfl ?_
    exact t_X11_fillPrinter_b96 hrec_37 hf
  · refine v_aload_n (x := l3) dX11_fillPrinter_88 rfl 4 rfl ?_
    obtain ⟨a60, rfl, hf⟩ := nn_of hf
    obtain ⟨hk_a60, hf⟩ := gt_of hf
    refine v_geti cb_9 hk_a60 0 900 rfl (by decide) rfl (lk_n kw_586 rfl) hf dX11_fillPrinter_89 (fun x61 hf => ?_)
    refine v_goto (tgt := 96) dX11_fillPrinter_92 (by decide) ?_
    refine v_sub [1, 2, 3, 0] (L2 := [(0, va_rf (some l0)), (1, va_rf l1), (2, .int l2), (4, .int t0)]) rfl ?_
    exact t_X11_fillPrinter_b96 hrec_37 hf
def f_X11_fillPrinter_b72 (rec_37 : TH → Nat → Option Nat → Int32 → Option (Unit × TH)) (σ : TH) (l0 : Nat) (l1 : Option Nat) (l2 : Int32) (l3 : Option Nat) : Option (Unit × TH) :=
  f_X11_fillPrinter_b73 rec_37 σ l0 l1 l2 l3 (0 : Int32)
set_option maxHeartbeats 4000000 in
set_option maxRecDepth 100000 in
theorem t_X11_fillPrinter_b72 {l : Launch} {D : va_G} {cy : Nat → ClassId} {ka : Nat → Nat} {σ0 z : TH} {r : Unit} {rec_37 : TH → Nat → Option Nat → Int32 → Option (Unit × TH)} (hrec_37 : ∀ (σ : TH) (l0 : Nat) (l1 : Option Nat) (l2 : Int32), rec_37 σ l0 l1 l2 = some (r, z) → v_ l D cy ka cX11_fillPrinter RX11 5 none "fillPrinter" 2 48 (qf_ D cy σ0 z none) σ0 z σ 37 [(0, va_rf (some l0)), (1, va_rf l1), (2, .int l2)] []) {σ : TH} {l0 : Nat} {l1 : Option Nat} {l2 : Int32} {l3 : Option Nat} (hf : f_X11_fillPrinter_b72 rec_37 σ l0 l1 l2 l3 = some (r, z)) : v_ l D cy ka cX11_fillPrinter RX11 5 none "fillPrinter" 2 48 (qf_ D cy σ0 z none) σ0 z σ 72 [(0, va_rf (some l0)), (1, va_rf l1), (2, .int l2), (3, va_rf l3)] [] := by
  unfold f_X11_fillPrinter_b72 at hf
  refine v_iconst (v := 0) dX11_fillPrinter_72 (by decide) ?_
  refine v_sub [0, 1, 2, 3] (L2 := [(0, va_rf (some l0)), (1, va_rf l1), (2, .int l2), (3, va_rf l3)]) rfl ?_
  exact t_X11_fillPrinter_b73 hrec_37 hf
def f_X11_fillPrinter_b68 (rec_37 : TH → Nat → Option Nat → Int32 → Option (Unit × TH)) (σ : TH) (l0 : Nat) (l1 : Option Nat) (l2 : Int32) (l3 : Option Nat) : Option (Unit × TH) :=
  f_X11_fillPrinter_b73 rec_37 σ l0 l1 l2 l3 (1 : Int32)
set_option maxHeartbeats 4000000 in
set_option maxRecDepth 100000 in
theorem t_X11_fillPrinter_b68 {l : Launch} {D : va_G} {cy : Nat → ClassId} {ka : Nat → Nat} {σ0 z : TH} {r : Unit} {rec_37 : TH → Nat → Option Nat → Int32 → Option (Unit × TH)} (hrec_37 : ∀ (σ : TH) (l0 : Nat) (l1 : Option Nat) (l2 : Int32), rec_37 σ l0 l1 l2 = some (r, z) → v_ l D cy ka cX11_fillPrinter RX11 5 none "fillPrinter" 2 48 (qf_ D cy σ0 z none) σ0 z σ 37 [(0, va_rf (some l0)), (1, va_rf l1), (2, .int l2)] []) {σ : TH} {l0 : Nat} {l1 : Option Nat} {l2 : Int32} {l3 : Option Nat} (hf : f_X11_fillPrinter_b68 rec_37 σ l0 l1 l2 l3 = some (r, z)) : v_ l D cy ka cX11_fillPrinter RX11 5 none "fillPrinter" 2 48 (qf_ D cy σ0 z none) σ0 z σ 68 [(0, va_rf (some l0)), (1, va_rf l1), (2, .int l2), (3, va_rf l3)] [] := by
  unfold f_X11_fillPrinter_b68 at hf
  refine v_iconst (v := 1) dX11_fillPrinter_68 (by decide) ?_
  refine v_goto (tgt := 73) dX11_fillPrinter_69 (by decide) ?_
  refine v_sub [0, 1, 2, 3] (L2 := [(0, va_rf (some l0)), (1, va_rf l1), (2, .int l2), (3, va_rf l3)]) rfl ?_
  exact t_X11_fillPrinter_b73 hrec_37 hf
def f_X11_fillPrinter_b37 : Nat → TH → Nat → Option Nat → Int32 → Option (Unit × TH)
  | 0, _, _, _, _ => none
  | n + 1, σ, l0, l1, l2 => if (10 : Int32) ≤ l2 then (gt_ (kd_ σ l0 = 13) <| lt_ (fr_ σ 1209 l0) fun r17 => nn_ r17 fun a18 => gt_ (kd_ σ a18 = 6) <| lt_ (fr_ σ 500 a18) fun r19 => bd_ (f_X11_ageOf σ l0 l1) fun x20 s21 => nn_ r19 fun a22 => gt_ (kd_ s21 a22 = 20) <| gt_ (¬ ((10 : Int32) < 0 ∨ ln_ s21 a22 ≤ (10 : Int32).toNatClampNeg)) <| lt_ (sa_ s21 a22 ((10 : Int32).toNatClampNeg) x20) fun s23 => lt_ (fr_ s23 1209 l0) fun r24 => nn_ r24 fun a25 => gt_ (kd_ s23 a25 = 6) <| lt_ (fr_ s23 500 a25) fun r26 => nn_ l1 fun a27 => gt_ (kd_ s23 a27 = 4) <| lt_ (fi_ s23 302 a27) fun x28 => gt_ (¬ (365 : Int32) = 0) <| nn_ r26 fun a29 => gt_ (kd_ s23 a29 = 20) <| gt_ (¬ ((11 : Int32) < 0 ∨ ln_ s23 a29 ≤ (11 : Int32).toNatClampNeg)) <| lt_ (sa_ s23 a29 ((11 : Int32).toNatClampNeg) ((100 : Int32) - (((x28 + (365 : Int32)) - (1 : Int32)) / (365 : Int32)))) fun s30 => lt_ (fr_ s30 1209 l0) fun r31 => nn_ r31 fun a32 => gt_ (kd_ s30 a32 = 6) <| lt_ (fr_ s30 500 a32) fun r33 => bd_ (f_X11_today s30 l0) fun x34 s35 => gt_ (¬ (365 : Int32) = 0) <| nn_ r33 fun a36 => gt_ (kd_ s35 a36 = 20) <| gt_ (¬ ((12 : Int32) < 0 ∨ ln_ s35 a36 ≤ (12 : Int32).toNatClampNeg)) <| lt_ (sa_ s35 a36 ((12 : Int32).toNatClampNeg) ((100 : Int32) + (x34 / (365 : Int32)))) fun s37 => lt_ (fr_ s37 1209 l0) fun r38 => nn_ r38 fun a39 => gt_ (kd_ s37 a39 = 6) <| lt_ (fr_ s37 500 a39) fun r40 => lt_ (fi_ s37 303 a27) fun x41 => nn_ r40 fun a42 => gt_ (kd_ s37 a42 = 20) <| gt_ (¬ ((13 : Int32) < 0 ∨ ln_ s37 a42 ≤ (13 : Int32).toNatClampNeg)) <| lt_ (sa_ s37 a42 ((13 : Int32).toNatClampNeg) x41) fun s43 => some ((), s43)) else (nn_ l1 fun a44 => gt_ (kd_ σ a44 = 4) <| lt_ (fr_ σ 309 a44) fun r45 => nn_ r45 fun a46 => gt_ (kd_ σ a46 = 25) <| gt_ (¬ (l2 < 0 ∨ ln_ σ a46 ≤ l2.toNatClampNeg)) <| lt_ (ar_ σ a46 l2.toNatClampNeg) fun r47 => oc_ r47 (f_X11_fillPrinter_b72 (f_X11_fillPrinter_b37 n) σ l0 (some a44) l2 none) (fun a48 => gt_ (kd_ σ a48 = 10) <| lt_ (fi_ σ 901 a48) fun x62 => if x62 = 0 then (f_X11_fillPrinter_b68 (f_X11_fillPrinter_b37 n) σ l0 (some a44) l2 (some a48)) else (bd_ (f_X2_isDead σ a44) fun x63 s64 => if x63 = 0 then (f_X11_fillPrinter_b72 (f_X11_fillPrinter_b37 n) s64 l0 (some a44) l2 (some a48)) else (f_X11_fillPrinter_b68 (f_X11_fillPrinter_b37 n) s64 l0 (some a44) l2 (some a48)))))
set_option maxHeartbeats 4000000 in
set_option maxRecDepth 100000 in
theorem t_X11_fillPrinter_b37 {l : Launch} {D : va_G} {cy : Nat → ClassId} {ka : Nat → Nat} {σ0 z : TH} {r : Unit}  : ∀ (n : Nat) (σ : TH) (l0 : Nat) (l1 : Option Nat) (l2 : Int32), f_X11_fillPrinter_b37 n σ l0 l1 l2 = some (r, z) → v_ l D cy ka cX11_fillPrinter RX11 5 none "fillPrinter" 2 48 (qf_ D cy σ0 z none) σ0 z σ 37 [(0, va_rf (some l0)), (1, va_rf l1), (2, .int l2)] [] := by
  intro n
  induction n with
  | zero => intro σ l0 l1 l2 hf; unfold f_X11_fillPrinter_b37 at hf; cases hf
  | succ n ih =>
    intro σ l0 l1 l2 hf
    unfold f_X11_fillPrinter_b37 at hf
    have hrec_37 := ih
    refine v_iload_n (x := l2) dX11_fillPrinter_37 rfl 2 rfl ?_
    refine v_bipush (v := 10) dX11_fillPrinter_38 (by decide) ?_
    refine v_icmp_ge (tgt := 127) hf dX11_fillPrinter_40 (by decide) (fun hq hf => ?_) (fun hq hf => ?_)
    · refine v_aload_n (x := (some l0)) dX11_fillPrinter_127 rfl 0 rfl ?_
      obtain ⟨hk_l0, hf⟩ := gt_of hf
      refine v_getr cb_12 hk_l0 9 1209 rfl (by decide) rfl (lk_n kw_248 rfl) hf dX11_fillPrinter_128 (fun r17 hf => ?_)
      obtain ⟨a18, rfl, hf⟩ := nn_of hf
      obtain ⟨hk_a18, hf⟩ := gt_of hf
      refine v_getr cb_5 hk_a18 0 500 rfl (by decide) rfl (lk_n kw_144 rfl) hf dX11_fillPrinter_131 (fun r19 hf => ?_)
      refine v_bipush (v := 10) dX11_fillPrinter_134 (by decide) ?_
      refine v_aload_n (x := (some l0)) dX11_fillPrinter_136 rfl 0 rfl ?_
      refine v_aload_n (x := l1) dX11_fillPrinter_137 rfl 1 rfl ?_
      obtain ⟨x20, s21, hcs21, hf⟩ := bd_of hf
      have hts21 := c_X11_ageOf (l := l) (D := D) (cy := cy) (ka := ka) hcs21
      refine v_callV cb_12 hk_l0 (As := [va_rf l1]) (rest := [.int (10 : Int32), va_rf r19]) hts21 yb_X11_ageOf kw_530 kw_532 kp_12 rfl ⟨Nat.le_of_ble_eq_true rfl, Nat.le_of_ble_eq_true rfl⟩ rfl (cat_len (Nat.le_of_ble_eq_true rfl)) dX11_fillPrinter_138 ?_
      have hk_l0 := tk_ hts21.1 hk_l0
      show v_ l D cy ka cX11_fillPrinter RX11 5 none "fillPrinter" 2 48 (qf_ D cy σ0 z none) σ0 z _ 141 [(0, va_rf (some l0)), (1, va_rf l1), (2, .int l2)] [.int x20, .int (10 : Int32), va_rf r19]
      obtain ⟨a22, rfl, hf⟩ := nn_of hf
      obtain ⟨hk_a22, hf⟩ := gt_of hf
      refine v_iast2 hk_a22 hf dX11_fillPrinter_141 (fun s23 hts23 hf => ?_)
      have hk_l0 := tk_ hts23 hk_l0
      refine v_aload_n (x := (some l0)) dX11_fillPrinter_142 rfl 0 rfl ?_
      refine v_getr cb_12 hk_l0 9 1209 rfl (by decide) rfl (lk_n kw_248 rfl) hf dX11_fillPrinter_143 (fun r24 hf => ?_)
      obtain ⟨a25, rfl, hf⟩ := nn_of hf
      obtain ⟨hk_a25, hf⟩ := gt_of hf
      refine v_getr cb_5 hk_a25 0 500 rfl (by decide) rfl (lk_n kw_144 rfl) hf dX11_fillPrinter_146 (fun r26 hf => ?_)
      refine v_bipush (v := 11) dX11_fillPrinter_149 (by decide) ?_
      refine v_bipush (v := 100) dX11_fillPrinter_151 (by decide) ?_
      refine v_aload_n (x := l1) dX11_fillPrinter_153 rfl 1 rfl ?_
      obtain ⟨a27, rfl, hf⟩ := nn_of hf
      obtain ⟨hk_a27, hf⟩ := gt_of hf
      refine v_geti cb_3 hk_a27 2 302 rfl (by decide) rfl (lk_n kw_469 rfl) hf dX11_fillPrinter_154 (fun x28 hf => ?_)
      refine v_sipush (v := 365) dX11_fillPrinter_157 (by decide) ?_
      refine v_iadd dX11_fillPrinter_160 ?_
      refine v_iconst (v := 1) dX11_fillPrinter_161 (by decide) ?_
      refine v_isub dX11_fillPrinter_162 ?_
      refine v_sipush (v := 365) dX11_fillPrinter_163 (by decide) ?_
      refine v_idiv hf dX11_fillPrinter_166 (fun hf => ?_)
      refine v_isub dX11_fillPrinter_167 ?_
      obtain ⟨a29, rfl, hf⟩ := nn_of hf
      obtain ⟨hk_a29, hf⟩ := gt_of hf
      refine v_iast2 hk_a29 hf dX11_fillPrinter_168 (fun s30 hts30 hf => ?_)
      have hk_l0 := tk_ hts30 hk_l0
      have hk_a27 := tk_ hts30 hk_a27
      refine v_aload_n (x := (some l0)) dX11_fillPrinter_169 rfl 0 rfl ?_
      refine v_getr cb_12 hk_l0 9 1209 rfl (by decide) rfl (lk_n kw_248 rfl) hf dX11_fillPrinter_170 (fun r31 hf => ?_)
      obtain ⟨a32, rfl, hf⟩ := nn_of hf
      obtain ⟨hk_a32, hf⟩ := gt_of hf
      refine v_getr cb_5 hk_a32 0 500 rfl (by decide) rfl (lk_n kw_144 rfl) hf dX11_fillPrinter_173 (fun r33 hf => ?_)
      refine v_bipush (v := 12) dX11_fillPrinter_176 (by decide) ?_
      refine v_bipush (v := 100) dX11_fillPrinter_178 (by decide) ?_
      refine v_aload_n (x := (some l0)) dX11_fillPrinter_180 rfl 0 rfl ?_
      obtain ⟨x34, s35, hcs35, hf⟩ := bd_of hf
      have hts35 := c_X11_today (l := l) (D := D) (cy := cy) (ka := ka) hcs35
      refine v_callV cb_12 hk_l0 (As := []) (rest := [.int (100 : Int32), .int (12 : Int32), va_rf r33]) hts35 yb_X11_today kw_538 kw_540 kp_13 rfl ⟨Nat.le_of_ble_eq_true rfl, Nat.le_of_ble_eq_true rfl⟩ rfl (cat_len (Nat.le_of_ble_eq_true rfl)) dX11_fillPrinter_181 ?_
      have hk_l0 := tk_ hts35.1 hk_l0
      have hk_a27 := tk_ hts35.1 hk_a27
      show v_ l D cy ka cX11_fillPrinter RX11 5 none "fillPrinter" 2 48 (qf_ D cy σ0 z none) σ0 z _ 184 [(0, va_rf (some l0)), (1, va_rf (some a27)), (2, .int l2)] [.int x34, .int (100 : Int32), .int (12 : Int32), va_rf r33]
      refine v_sipush (v := 365) dX11_fillPrinter_184 (by decide) ?_
      refine v_idiv hf dX11_fillPrinter_187 (fun hf => ?_)
      refine v_iadd dX11_fillPrinter_188 ?_
      obtain ⟨a36, rfl, hf⟩ := nn_of hf
      obtain ⟨hk_a36, hf⟩ := gt_of hf
      refine v_iast2 hk_a36 hf dX11_fillPrinter_189 (fun s37 hts37 hf => ?_)
      have hk_l0 := tk_ hts37 hk_l0
      have hk_a27 := tk_ hts37 hk_a27
      refine v_aload_n (x := (some l0)) dX11_fillPrinter_190 rfl 0 rfl ?_
      refine v_getr cb_12 hk_l0 9 1209 rfl (by decide) rfl (lk_n kw_248 rfl) hf dX11_fillPrinter_191 (fun r38 hf => ?_)
      obtain ⟨a39, rfl, hf⟩ := nn_of hf
      obtain ⟨hk_a39, hf⟩ := gt_of hf
      refine v_getr cb_5 hk_a39 0 500 rfl (by decide) rfl (lk_n kw_144 rfl) hf dX11_fillPrinter_194 (fun r40 hf => ?_)
      refine v_bipush (v := 13) dX11_fillPrinter_197 (by decide) ?_
      refine v_aload_n (x := (some a27)) dX11_fillPrinter_199 rfl 1 rfl ?_
      refine v_geti cb_3 hk_a27 3 303 rfl (by decide) rfl (lk_n kw_471 rfl) hf dX11_fillPrinter_200 (fun x41 hf => ?_)
      obtain ⟨a42, rfl, hf⟩ := nn_of hf
      obtain ⟨hk_a42, hf⟩ := gt_of hf
      refine v_iast2 hk_a42 hf dX11_fillPrinter_203 (fun s43 hts43 hf => ?_)
      have hk_l0 := tk_ hts43 hk_l0
      have hk_a27 := tk_ hts43 hk_a27
      exact v_vret hf dX11_fillPrinter_204
    · refine v_aload_n (x := l1) dX11_fillPrinter_43 rfl 1 rfl ?_
      obtain ⟨a44, rfl, hf⟩ := nn_of hf
      obtain ⟨hk_a44, hf⟩ := gt_of hf
      refine v_getr cb_3 hk_a44 9 309 rfl (by decide) rfl (lk_n kw_484 rfl) hf dX11_fillPrinter_44 (fun r45 hf => ?_)
      refine v_iload_n (x := l2) dX11_fillPrinter_47 rfl 2 rfl ?_
      obtain ⟨a46, rfl, hf⟩ := nn_of hf
      obtain ⟨hk_a46, hf⟩ := gt_of hf
      refine v_aald 24 5 RX8 hk_a46 (by decide) rfl hf dX11_fillPrinter_48 (fun r47 hf => ?_)
      refine v_astore_n [(3, va_rf r47), (0, va_rf (some l0)), (1, va_rf (some a44)), (2, .int l2)] dX11_fillPrinter_49 rfl (by decide) rfl ?_
      refine v_aload_n (x := r47) dX11_fillPrinter_50 rfl 0 rfl ?_
      refine v_ifnull2 (tgt := 72) hf dX11_fillPrinter_51 (by decide) (fun e9 hf => ?_) (fun a48 e9 hf => ?_)
      · subst e9
        refine v_sub [1, 2, 3, 0] (L2 := [(0, va_rf (some l0)), (1, va_rf (some a44)), (2, .int l2), (3, va_rf none)]) rfl ?_
        exact t_X11_fillPrinter_b72 hrec_37 hf
      · subst e9
        refine v_aload_n (x := (some a48)) dX11_fillPrinter_54 rfl 0 rfl ?_
        obtain ⟨hk_a48, hf⟩ := gt_of hf
        refine v_geti cb_9 hk_a48 1 901 rfl (by decide) rfl (lk_n kw_588 rfl) hf dX11_fillPrinter_55 (fun x62 hf => ?_)
        refine v_if_eq (tgt := 68) hf dX11_fillPrinter_58 (by decide) (fun hq hf => ?_) (fun hq hf => ?_)
        · refine v_sub [1, 2, 3, 0] (L2 := [(0, va_rf (some l0)), (1, va_rf (some a44)), (2, .int l2), (3, va_rf (some a48))]) rfl ?_
          exact t_X11_fillPrinter_b68 hrec_37 hf
        · refine v_aload_n (x := (some a44)) dX11_fillPrinter_61 rfl 2 rfl ?_
          obtain ⟨x63, s64, hcs64, hf⟩ := bd_of hf
          have hts64 := c_X2_isDead (l := l) (D := D) (cy := cy) (ka := ka) hcs64
          refine v_callV cb_3 hk_a44 (As := []) (rest := []) hts64 yb_X2_isDead kw_534 kw_535 kw_536 rfl ⟨Nat.le_of_ble_eq_true rfl, Nat.le_of_ble_eq_true rfl⟩ rfl (cat_len (Nat.le_of_ble_eq_true rfl)) dX11_fillPrinter_62 ?_
          have hk_a44 := tk_ hts64.1 hk_a44
          have hk_a48 := tk_ hts64.1 hk_a48
          show v_ l D cy ka cX11_fillPrinter RX11 5 none "fillPrinter" 2 48 (qf_ D cy σ0 z none) σ0 z _ 65 [(3, va_rf (some a48)), (0, va_rf (some l0)), (1, va_rf (some a44)), (2, .int l2)] [.int x63]
          refine v_if_eq (tgt := 72) hf dX11_fillPrinter_65 (by decide) (fun hq hf => ?_) (fun hq hf => ?_)
          · refine v_sub [1, 2, 3, 0] (L2 := [(0, va_rf (some l0)), (1, va_rf (some a44)), (2, .int l2), (3, va_rf (some a48))]) rfl ?_
            exact t_X11_fillPrinter_b72 hrec_37 hf
          · refine v_sub [1, 2, 3, 0] (L2 := [(0, va_rf (some l0)), (1, va_rf (some a44)), (2, .int l2), (3, va_rf (some a48))]) rfl ?_
            exact t_X11_fillPrinter_b68 hrec_37 hf
/-- LivesAhead.fillPrinter(LLivesAhead$Person;)V -/
def f_X11_fillPrinter (σ : TH) (p0 : Nat) (p1 : Option Nat) : Option (Unit × TH) :=
  gt_ (kd_ σ p0 = 13) <| lt_ (fr_ σ 1209 p0) fun r1 => nn_ p1 fun a2 => gt_ (kd_ σ a2 = 4) <| bd_ (f_X2_isDead σ a2) fun x3 s4 => nn_ r1 fun a5 => gt_ (kd_ s4 a5 = 6) <| gt_ (x3 = 0 ∨ x3 = 1) <| lt_ (si_ s4 504 a5 x3) fun s6 => lt_ (fr_ s6 1209 p0) fun r7 => bd_ (f_X11_today s6 p0) fun x8 s9 => bd_ (f_X11_staleKinds s9 p0 (some a2) x8) fun x10 s11 => nn_ r7 fun a12 => gt_ (kd_ s11 a12 = 6) <| lt_ (si_ s11 503 a12 x10) fun s13 => lt_ (fr_ s13 1209 p0) fun r14 => nn_ r14 fun a15 => gt_ (kd_ s13 a15 = 6) <| lt_ (si_ s13 502 a15 (0 : Int32)) fun s16 => f_X11_fillPrinter_b37 fu_ s16 p0 (some a2) (0 : Int32)
set_option maxHeartbeats 4000000 in
set_option maxRecDepth 100000 in
theorem c_X11_fillPrinter {l : Launch} {D : va_G} {cy : Nat → ClassId} {ka : Nat → Nat} {σ z : TH} {p0 : Nat} {p1 : Option Nat} {r : Unit} (hf : f_X11_fillPrinter σ p0 p1 = some (r, z)) : ct_ l D cy ka yX11_fillPrinter 2 48 [va_rf (some p0), va_rf p1] σ none z := by
  unfold f_X11_fillPrinter at hf
  refine v_start (cc := cX11_fillPrinter) (own := RX11) (maxL := 5) (ret := none) (nm := "fillPrinter") (by decide +kernel) kw_906 rfl rfl (by simp [lg_sl, va_rf_cat, cat_i, cat_l]) ?_
  refine v_eqL (L2 := [(0, va_rf (some p0)), (1, va_rf p1)]) (by simp [lv_args, va_rf_cat, cat_i, cat_l]) ?_
  refine v_aload_n (x := (some p0)) dX11_fillPrinter_0 rfl 0 rfl ?_
  obtain ⟨hk_p0, hf⟩ := gt_of hf
  refine v_getr cb_12 hk_p0 9 1209 rfl (by decide) rfl (lk_n kw_248 rfl) hf dX11_fillPrinter_1 (fun r1 hf => ?_)
  refine v_aload_n (x := p1) dX11_fillPrinter_4 rfl 1 rfl ?_
  obtain ⟨a2, rfl, hf⟩ := nn_of hf
  obtain ⟨hk_a2, hf⟩ := gt_of hf
  obtain ⟨x3, s4, hcs4, hf⟩ := bd_of hf
  have hts4 := c_X2_isDead (l := l) (D := D) (cy := cy) (ka := ka) hcs4
  refine v_callV cb_3 hk_a2 (As := []) (rest := [va_rf r1]) hts4 yb_X2_isDead kw_534 kw_535 kw_536 rfl ⟨Nat.le_of_ble_eq_true rfl, Nat.le_of_ble_eq_true rfl⟩ rfl (cat_len (Nat.le_of_ble_eq_true rfl)) dX11_fillPrinter_5 ?_
  have hk_p0 := tk_ hts4.1 hk_p0
  have hk_a2 := tk_ hts4.1 hk_a2
  show v_ l D cy ka cX11_fillPrinter RX11 5 none "fillPrinter" 2 48 (qf_ D cy σ z none) σ z _ 8 [(0, va_rf (some p0)), (1, va_rf (some a2))] [.int x3, va_rf r1]
  obtain ⟨a5, rfl, hf⟩ := nn_of hf
  obtain ⟨hk_a5, hf⟩ := gt_of hf
  obtain ⟨hbs6, hf⟩ := gt_of hf
  refine v_puti2 cb_5 hk_a5 4 504 rfl (by decide) rfl (lk_n kw_152 rfl) (Or.inl rfl) (nz_ hbs6) (fz_ hbs6) hf dX11_fillPrinter_8 (fun s6 hts6 hf => ?_)
  have hk_p0 := tk_ hts6 hk_p0
  have hk_a2 := tk_ hts6 hk_a2
  refine v_aload_n (x := (some p0)) dX11_fillPrinter_11 rfl 0 rfl ?_
  refine v_getr cb_12 hk_p0 9 1209 rfl (by decide) rfl (lk_n kw_248 rfl) hf dX11_fillPrinter_12 (fun r7 hf => ?_)
  refine v_aload_n (x := (some p0)) dX11_fillPrinter_15 rfl 0 rfl ?_
  refine v_aload_n (x := (some a2)) dX11_fillPrinter_16 rfl 1 rfl ?_
  refine v_aload_n (x := (some p0)) dX11_fillPrinter_17 rfl 0 rfl ?_
  obtain ⟨x8, s9, hcs9, hf⟩ := bd_of hf
  have hts9 := c_X11_today (l := l) (D := D) (cy := cy) (ka := ka) hcs9
  refine v_callV cb_12 hk_p0 (As := []) (rest := [va_rf (some a2), va_rf (some p0), va_rf r7]) hts9 yb_X11_today kw_538 kw_540 kp_13 rfl ⟨Nat.le_of_ble_eq_true rfl, Nat.le_of_ble_eq_true rfl⟩ rfl (cat_len (Nat.le_of_ble_eq_true rfl)) dX11_fillPrinter_18 ?_
  have hk_p0 := tk_ hts9.1 hk_p0
  have hk_a2 := tk_ hts9.1 hk_a2
  show v_ l D cy ka cX11_fillPrinter RX11 5 none "fillPrinter" 2 48 (qf_ D cy σ z none) σ z _ 21 [(0, va_rf (some p0)), (1, va_rf (some a2))] [.int x8, va_rf (some a2), va_rf (some p0), va_rf r7]
  obtain ⟨x10, s11, hcs11, hf⟩ := bd_of hf
  have hts11 := c_X11_staleKinds (l := l) (D := D) (cy := cy) (ka := ka) hcs11
  refine v_callV cb_12 hk_p0 (As := [va_rf (some a2), .int x8]) (rest := [va_rf r7]) hts11 yb_X11_staleKinds kw_552 kw_554 kp_14 rfl ⟨Nat.le_of_ble_eq_true rfl, Nat.le_of_ble_eq_true rfl⟩ rfl (cat_len (Nat.le_of_ble_eq_true rfl)) dX11_fillPrinter_21 ?_
  have hk_p0 := tk_ hts11.1 hk_p0
  have hk_a2 := tk_ hts11.1 hk_a2
  show v_ l D cy ka cX11_fillPrinter RX11 5 none "fillPrinter" 2 48 (qf_ D cy σ z none) σ z _ 24 [(0, va_rf (some p0)), (1, va_rf (some a2))] [.int x10, va_rf r7]
  obtain ⟨a12, rfl, hf⟩ := nn_of hf
  obtain ⟨hk_a12, hf⟩ := gt_of hf
  refine v_puti2 cb_5 hk_a12 3 503 rfl (by decide) rfl (lk_n kw_150 rfl) (Or.inl rfl) rfl rfl hf dX11_fillPrinter_24 (fun s13 hts13 hf => ?_)
  have hk_p0 := tk_ hts13 hk_p0
  have hk_a2 := tk_ hts13 hk_a2
  refine v_aload_n (x := (some p0)) dX11_fillPrinter_27 rfl 0 rfl ?_
  refine v_getr cb_12 hk_p0 9 1209 rfl (by decide) rfl (lk_n kw_248 rfl) hf dX11_fillPrinter_28 (fun r14 hf => ?_)
  refine v_iconst (v := 0) dX11_fillPrinter_31 (by decide) ?_
  obtain ⟨a15, rfl, hf⟩ := nn_of hf
  obtain ⟨hk_a15, hf⟩ := gt_of hf
  refine v_puti2 cb_5 hk_a15 2 502 rfl (by decide) rfl (lk_n kw_148 rfl) (Or.inl rfl) rfl rfl hf dX11_fillPrinter_32 (fun s16 hts16 hf => ?_)
  have hk_p0 := tk_ hts16 hk_p0
  have hk_a2 := tk_ hts16 hk_a2
  refine v_iconst (v := 0) dX11_fillPrinter_35 (by decide) ?_
  refine v_istore_n [(2, .int (0 : Int32)), (0, va_rf (some p0)), (1, va_rf (some a2))] dX11_fillPrinter_36 rfl (by decide) rfl ?_
  refine v_sub [1, 2, 0] (L2 := [(0, va_rf (some p0)), (1, va_rf (some a2)), (2, .int (0 : Int32))]) rfl ?_
  exact t_X11_fillPrinter_b37  _ _ _ _ _ hf
theorem dX11_unsureKinds_0 : decode cX11_unsureKinds 0 = .ok (.aload_n 0, 1) := by decide +kernel
theorem dX11_unsureKinds_1 : decode cX11_unsureKinds 1 = .ok (.aload_n 1, 1) := by decide +kernel
theorem dX11_unsureKinds_2 : decode cX11_unsureKinds 2 = .ok (.aload_n 0, 1) := by decide +kernel
theorem dX11_unsureKinds_3 : decode cX11_unsureKinds 3 = .ok (.invokevirtual 188, 3) := by decide +kernel
theorem dX11_unsureKinds_6 : decode cX11_unsureKinds 6 = .ok (.invokevirtual 191, 3) := by decide +kernel
theorem dX11_unsureKinds_9 : decode cX11_unsureKinds 9 = .ok (.aload_n 1, 1) := by decide +kernel
theorem dX11_unsureKinds_10 : decode cX11_unsureKinds 10 = .ok (.invokevirtual 180, 3) := by decide +kernel
theorem dX11_unsureKinds_13 : decode cX11_unsureKinds 13 = .ok (.iconst (-1), 1) := by decide +kernel
theorem dX11_unsureKinds_14 : decode cX11_unsureKinds 14 = .ok (.ixor, 1) := by decide +kernel
theorem dX11_unsureKinds_15 : decode cX11_unsureKinds 15 = .ok (.ior, 1) := by decide +kernel
theorem dX11_unsureKinds_16 : decode cX11_unsureKinds 16 = .ok (.ireturn, 1) := by decide +kernel
/-- LivesAhead.unsureKinds(LLivesAhead$Person;)I -/
def f_X11_unsureKinds (σ : TH) (p0 : Nat) (p1 : Option Nat) : Option (Int32 × TH) :=
  gt_ (kd_ σ p0 = 13) <| bd_ (f_X11_today σ p0) fun x1 s2 => bd_ (f_X11_staleKinds s2 p0 p1 x1) fun x3 s4 => nn_ p1 fun a5 => gt_ (kd_ s4 a5 = 4) <| bd_ (f_X2_kindsTold s4 a5) fun x6 s7 => some (x3 ||| (x6 ^^^ (-1 : Int32)), s7)
set_option maxHeartbeats 4000000 in
set_option maxRecDepth 100000 in
theorem c_X11_unsureKinds {l : Launch} {D : va_G} {cy : Nat → ClassId} {ka : Nat → Nat} {σ z : TH} {p0 : Nat} {p1 : Option Nat} {r : Int32} (hf : f_X11_unsureKinds σ p0 p1 = some (r, z)) : ct_ l D cy ka yX11_unsureKinds 2 48 [va_rf (some p0), va_rf p1] σ (some (.int r)) z := by
  unfold f_X11_unsureKinds at hf
  refine v_start (cc := cX11_unsureKinds) (own := RX11) (maxL := 2) (ret := (some FieldType.int)) (nm := "unsureKinds") (by decide +kernel) kw_948 rfl rfl (by simp [lg_sl, va_rf_cat, cat_i, cat_l]) ?_
  refine v_eqL (L2 := [(0, va_rf (some p0)), (1, va_rf p1)]) (by simp [lv_args, va_rf_cat, cat_i, cat_l]) ?_
  refine v_aload_n (x := (some p0)) dX11_unsureKinds_0 rfl 0 rfl ?_
  refine v_aload_n (x := p1) dX11_unsureKinds_1 rfl 1 rfl ?_
  refine v_aload_n (x := (some p0)) dX11_unsureKinds_2 rfl 0 rfl ?_
  obtain ⟨hk_p0, hf⟩ := gt_of hf
  obtain ⟨x1, s2, hcs2, hf⟩ := bd_of hf
  have hts2 := c_X11_today (l := l) (D := D) (cy := cy) (ka := ka) hcs2
  refine v_callV cb_12 hk_p0 (As := []) (rest := [va_rf p1, va_rf (some p0)]) hts2 yb_X11_today kw_538 kw_540 kp_13 rfl ⟨Nat.le_of_ble_eq_true rfl, Nat.le_of_ble_eq_true rfl⟩ rfl (cat_len (Nat.le_of_ble_eq_true rfl)) dX11_unsureKinds_3 ?_
  have hk_p0 := tk_ hts2.1 hk_p0
  show v_ l D cy ka cX11_unsureKinds RX11 2 (some FieldType.int) "unsureKinds" 2 48 (qf_ D cy σ z (some (.int r))) σ z _ 6 [(0, va_rf (some p0)), (1, va_rf p1)] [.int x1, va_rf p1, va_rf (some p0)]
  obtain ⟨x3, s4, hcs4, hf⟩ := bd_of hf
  have hts4 := c_X11_staleKinds (l := l) (D := D) (cy := cy) (ka := ka) hcs4
  refine v_callV cb_12 hk_p0 (As := [va_rf p1, .int x1]) (rest := []) hts4 yb_X11_staleKinds kw_552 kw_554 kp_14 rfl ⟨Nat.le_of_ble_eq_true rfl, Nat.le_of_ble_eq_true rfl⟩ rfl (cat_len (Nat.le_of_ble_eq_true rfl)) dX11_unsureKinds_6 ?_
  have hk_p0 := tk_ hts4.1 hk_p0
  show v_ l D cy ka cX11_unsureKinds RX11 2 (some FieldType.int) "unsureKinds" 2 48 (qf_ D cy σ z (some (.int r))) σ z _ 9 [(0, va_rf (some p0)), (1, va_rf p1)] [.int x3]
  refine v_aload_n (x := p1) dX11_unsureKinds_9 rfl 1 rfl ?_
  obtain ⟨a5, rfl, hf⟩ := nn_of hf
  obtain ⟨hk_a5, hf⟩ := gt_of hf
  obtain ⟨x6, s7, hcs7, hf⟩ := bd_of hf
  have hts7 := c_X2_kindsTold (l := l) (D := D) (cy := cy) (ka := ka) hcs7
  refine v_callV cb_3 hk_a5 (As := []) (rest := [.int x3]) hts7 yb_X2_kindsTold kw_542 kw_543 kw_544 rfl ⟨Nat.le_of_ble_eq_true rfl, Nat.le_of_ble_eq_true rfl⟩ rfl (cat_len (Nat.le_of_ble_eq_true rfl)) dX11_unsureKinds_10 ?_
  have hk_p0 := tk_ hts7.1 hk_p0
  have hk_a5 := tk_ hts7.1 hk_a5
  show v_ l D cy ka cX11_unsureKinds RX11 2 (some FieldType.int) "unsureKinds" 2 48 (qf_ D cy σ z (some (.int r))) σ z _ 13 [(0, va_rf (some p0)), (1, va_rf (some a5))] [.int x6, .int x3]
  refine v_iconst (v := (-1)) dX11_unsureKinds_13 (by decide) ?_
  refine v_ixor dX11_unsureKinds_14 ?_
  refine v_ior dX11_unsureKinds_15 ?_
  exact v_iret hf dX11_unsureKinds_16
theorem dX4_add_0 : decode cX4_add 0 = .ok (.aload_n 0, 1) := by decide +kernel
theorem dX4_add_1 : decode cX4_add 1 = .ok (.dup, 1) := by decide +kernel
theorem dX4_add_2 : decode cX4_add 2 = .ok (.getfield 36, 3) := by decide +kernel
theorem dX4_add_5 : decode cX4_add 5 = .ok (.aload_n 0, 1) := by decide +kernel
theorem dX4_add_6 : decode cX4_add 6 = .ok (.getfield 39, 3) := by decide +kernel
theorem dX4_add_9 : decode cX4_add 9 = .ok (.ifCond .eq 8, 3) := by decide +kernel
theorem dX4_add_12 : decode cX4_add 12 = .ok (.iload_n 1, 1) := by decide +kernel
theorem dX4_add_13 : decode cX4_add 13 = .ok (.ineg, 1) := by decide +kernel
theorem dX4_add_14 : decode cX4_add 14 = .ok (.goto 4, 3) := by decide +kernel
theorem dX4_add_17 : decode cX4_add 17 = .ok (.iload_n 1, 1) := by decide +kernel
theorem dX4_add_18 : decode cX4_add 18 = .ok (.iadd, 1) := by decide +kernel
theorem dX4_add_19 : decode cX4_add 19 = .ok (.putfield 36, 3) := by decide +kernel
theorem dX4_add_22 : decode cX4_add 22 = .ok (.aload_n 0, 1) := by decide +kernel
theorem dX4_add_23 : decode cX4_add 23 = .ok (.iconst 0, 1) := by decide +kernel
theorem dX4_add_24 : decode cX4_add 24 = .ok (.putfield 39, 3) := by decide +kernel
theorem dX4_add_27 : decode cX4_add 27 = .ok (.return_, 1) := by decide +kernel
def f_X4_add_b18 (σ : TH) (l0 : Nat) (t0 : Int32) (t1 : Int32) (t2 : Option Nat) : Option (Unit × TH) :=
  nn_ t2 fun a3 => gt_ (kd_ σ a3 = 6) <| lt_ (si_ σ 507 a3 (t1 + t0)) fun s4 => gt_ (kd_ s4 l0 = 6) <| lt_ (si_ s4 508 l0 (0 : Int32)) fun s5 => some ((), s5)
set_option maxHeartbeats 4000000 in
set_option maxRecDepth 100000 in
theorem t_X4_add_b18 {l : Launch} {D : va_G} {cy : Nat → ClassId} {ka : Nat → Nat} {σ0 z : TH} {r : Unit}  {σ : TH} {l0 : Nat} {t0 : Int32} {t1 : Int32} {t2 : Option Nat} (hf : f_X4_add_b18 σ l0 t0 t1 t2 = some (r, z)) : v_ l D cy ka cX4_add RX4 2 none "add" 0 0 (qf_ D cy σ0 z none) σ0 z σ 18 [(0, va_rf (some l0))] [.int t0, .int t1, va_rf t2] := by
  unfold f_X4_add_b18 at hf
  refine v_iadd dX4_add_18 ?_
  obtain ⟨a3, rfl, hf⟩ := nn_of hf
  obtain ⟨hk_a3, hf⟩ := gt_of hf
  refine v_puti2 cb_5 hk_a3 7 507 rfl (by decide) rfl (lk_n kw_156 rfl) (Or.inl rfl) rfl rfl hf dX4_add_19 (fun s4 hts4 hf => ?_)
  refine v_aload_n (x := (some l0)) dX4_add_22 rfl 0 rfl ?_
  refine v_iconst (v := 0) dX4_add_23 (by decide) ?_
  obtain ⟨hk_l0, hf⟩ := gt_of hf
  refine v_puti2 cb_5 hk_l0 8 508 rfl (by decide) rfl (lk_n kw_157 rfl) (Or.inl rfl) rfl rfl hf dX4_add_24 (fun s5 hts5 hf => ?_)
  have hk_l0 := tk_ hts5 hk_l0
  exact v_vret hf dX4_add_27
/-- LivesAhead$Printer.add(I)V -/
def f_X4_add (σ : TH) (p0 : Nat) (p1 : Int32) : Option (Unit × TH) :=
  gt_ (kd_ σ p0 = 6) <| lt_ (fi_ σ 507 p0) fun x1 => lt_ (fi_ σ 508 p0) fun x2 => if x2 = 0 then (f_X4_add_b18 σ p0 p1 x1 (some p0)) else (f_X4_add_b18 σ p0 (-p1) x1 (some p0))
set_option maxHeartbeats 4000000 in
set_option maxRecDepth 100000 in
theorem c_X4_add {l : Launch} {D : va_G} {cy : Nat → ClassId} {ka : Nat → Nat} {σ z : TH} {p0 : Nat} {p1 : Int32} {r : Unit} (hf : f_X4_add σ p0 p1 = some (r, z)) : ct_ l D cy ka yX4_add 0 0 [va_rf (some p0), .int p1] σ none z := by
  unfold f_X4_add at hf
  refine v_start (cc := cX4_add) (own := RX4) (maxL := 2) (ret := none) (nm := "add") (by decide +kernel) kw_924 rfl rfl (by simp [lg_sl, va_rf_cat, cat_i, cat_l]) ?_
  refine v_eqL (L2 := [(0, va_rf (some p0)), (1, .int p1)]) (by simp [lv_args, va_rf_cat, cat_i, cat_l]) ?_
  refine v_aload_n (x := (some p0)) dX4_add_0 rfl 0 rfl ?_
  refine v_dup dX4_add_1 (va_rf_cat _) ?_
  obtain ⟨hk_p0, hf⟩ := gt_of hf
  refine v_geti cb_5 hk_p0 7 507 rfl (by decide) rfl (lk_n kw_156 rfl) hf dX4_add_2 (fun x1 hf => ?_)
  refine v_aload_n (x := (some p0)) dX4_add_5 rfl 0 rfl ?_
  refine v_geti cb_5 hk_p0 8 508 rfl (by decide) rfl (lk_n kw_157 rfl) hf dX4_add_6 (fun x2 hf => ?_)
  refine v_if_eq (tgt := 17) hf dX4_add_9 (by decide) (fun hq hf => ?_) (fun hq hf => ?_)
  · refine v_iload_n (x := p1) dX4_add_17 rfl 1 rfl ?_
    refine v_sub [0] (L2 := [(0, va_rf (some p0))]) rfl ?_
    exact t_X4_add_b18  hf
  · refine v_iload_n (x := p1) dX4_add_12 rfl 1 rfl ?_
    refine v_ineg dX4_add_13 ?_
    refine v_goto (tgt := 18) dX4_add_14 (by decide) ?_
    refine v_sub [0] (L2 := [(0, va_rf (some p0))]) rfl ?_
    exact t_X4_add_b18  hf
theorem dX4_compares_0 : decode cX4_compares 0 = .ok (.aload_n 0, 1) := by decide +kernel
theorem dX4_compares_1 : decode cX4_compares 1 = .ok (.getfield 45, 3) := by decide +kernel
theorem dX4_compares_4 : decode cX4_compares 4 = .ok (.bipush 60, 2) := by decide +kernel
theorem dX4_compares_6 : decode cX4_compares 6 = .ok (.if_icmp .ne 16, 3) := by decide +kernel
theorem dX4_compares_9 : decode cX4_compares 9 = .ok (.iload_n 1, 1) := by decide +kernel
theorem dX4_compares_10 : decode cX4_compares 10 = .ok (.iload_n 2, 1) := by decide +kernel
theorem dX4_compares_11 : decode cX4_compares 11 = .ok (.if_icmp .ge 7, 3) := by decide +kernel
theorem dX4_compares_14 : decode cX4_compares 14 = .ok (.iconst 1, 1) := by decide +kernel
theorem dX4_compares_15 : decode cX4_compares 15 = .ok (.goto 39, 3) := by decide +kernel
theorem dX4_compares_18 : decode cX4_compares 18 = .ok (.iconst 0, 1) := by decide +kernel
theorem dX4_compares_19 : decode cX4_compares 19 = .ok (.goto 35, 3) := by decide +kernel
theorem dX4_compares_22 : decode cX4_compares 22 = .ok (.aload_n 0, 1) := by decide +kernel
theorem dX4_compares_23 : decode cX4_compares 23 = .ok (.getfield 45, 3) := by decide +kernel
theorem dX4_compares_26 : decode cX4_compares 26 = .ok (.bipush 62, 2) := by decide +kernel
theorem dX4_compares_28 : decode cX4_compares 28 = .ok (.if_icmp .ne 16, 3) := by decide +kernel
theorem dX4_compares_31 : decode cX4_compares 31 = .ok (.iload_n 1, 1) := by decide +kernel
theorem dX4_compares_32 : decode cX4_compares 32 = .ok (.iload_n 2, 1) := by decide +kernel
theorem dX4_compares_33 : decode cX4_compares 33 = .ok (.if_icmp .le 7, 3) := by decide +kernel
theorem dX4_compares_36 : decode cX4_compares 36 = .ok (.iconst 1, 1) := by decide +kernel
theorem dX4_compares_37 : decode cX4_compares 37 = .ok (.goto 17, 3) := by decide +kernel
theorem dX4_compares_40 : decode cX4_compares 40 = .ok (.iconst 0, 1) := by decide +kernel
theorem dX4_compares_41 : decode cX4_compares 41 = .ok (.goto 13, 3) := by decide +kernel
theorem dX4_compares_44 : decode cX4_compares 44 = .ok (.iload_n 1, 1) := by decide +kernel
theorem dX4_compares_45 : decode cX4_compares 45 = .ok (.iload_n 2, 1) := by decide +kernel
theorem dX4_compares_46 : decode cX4_compares 46 = .ok (.if_icmp .ne 7, 3) := by decide +kernel
theorem dX4_compares_49 : decode cX4_compares 49 = .ok (.iconst 1, 1) := by decide +kernel
theorem dX4_compares_50 : decode cX4_compares 50 = .ok (.goto 4, 3) := by decide +kernel
theorem dX4_compares_53 : decode cX4_compares 53 = .ok (.iconst 0, 1) := by decide +kernel
theorem dX4_compares_54 : decode cX4_compares 54 = .ok (.ireturn, 1) := by decide +kernel
def f_X4_compares_b54 (σ : TH) (t0 : Int32) : Option (Int32 × TH) :=
  gt_ (t0 = 0 ∨ t0 = 1) <| some (t0, σ)
set_option maxHeartbeats 4000000 in
set_option maxRecDepth 100000 in
theorem t_X4_compares_b54 {l : Launch} {D : va_G} {cy : Nat → ClassId} {ka : Nat → Nat} {σ0 z : TH} {r : Int32}  {σ : TH} {t0 : Int32} (hf : f_X4_compares_b54 σ t0 = some (r, z)) : v_ l D cy ka cX4_compares RX4 3 (some FieldType.boolean) "compares" 0 0 (qf_ D cy σ0 z (some (.int r))) σ0 z σ 54 [] [.int t0] := by
  unfold f_X4_compares_b54 at hf
  obtain ⟨hb9, hf⟩ := gt_of hf
  exact v_zret hf (nz_ hb9) dX4_compares_54
/-- LivesAhead$Printer.compares(II)Z -/
def f_X4_compares (σ : TH) (p0 : Nat) (p1 : Int32) (p2 : Int32) : Option (Int32 × TH) :=
  gt_ (kd_ σ p0 = 6) <| lt_ (fi_ σ 510 p0) fun x1 => if x1 = (60 : Int32) then (if p2 ≤ p1 then (f_X4_compares_b54 σ (0 : Int32)) else (f_X4_compares_b54 σ (1 : Int32))) else (lt_ (fi_ σ 510 p0) fun x2 => if x2 = (62 : Int32) then (if p1 ≤ p2 then (f_X4_compares_b54 σ (0 : Int32)) else (f_X4_compares_b54 σ (1 : Int32))) else (if p1 = p2 then (f_X4_compares_b54 σ (1 : Int32)) else (f_X4_compares_b54 σ (0 : Int32))))
set_option maxHeartbeats 4000000 in
set_option maxRecDepth 100000 in
theorem c_X4_compares {l : Launch} {D : va_G} {cy : Nat → ClassId} {ka : Nat → Nat} {σ z : TH} {p0 : Nat} {p1 : Int32} {p2 : Int32} {r : Int32} (hf : f_X4_compares σ p0 p1 p2 = some (r, z)) : ct_ l D cy ka yX4_compares 0 0 [va_rf (some p0), .int p1, .int p2] σ (some (.int r)) z := by
  unfold f_X4_compares at hf
  refine v_start (cc := cX4_compares) (own := RX4) (maxL := 3) (ret := (some FieldType.boolean)) (nm := "compares") (by decide +kernel) kw_940 rfl rfl (by simp [lg_sl, va_rf_cat, cat_i, cat_l]) ?_
  refine v_eqL (L2 := [(0, va_rf (some p0)), (1, .int p1), (2, .int p2)]) (by simp [lv_args, va_rf_cat, cat_i, cat_l]) ?_
  refine v_aload_n (x := (some p0)) dX4_compares_0 rfl 0 rfl ?_
  obtain ⟨hk_p0, hf⟩ := gt_of hf
  refine v_geti cb_5 hk_p0 10 510 rfl (by decide) rfl (lk_n kw_159 rfl) hf dX4_compares_1 (fun x1 hf => ?_)
  refine v_bipush (v := 60) dX4_compares_4 (by decide) ?_
  refine v_icmp_ne (tgt := 22) hf dX4_compares_6 (by decide) (fun hq hf => ?_) (fun hq hf => ?_)
  · refine v_iload_n (x := p1) dX4_compares_9 rfl 1 rfl ?_
    refine v_iload_n (x := p2) dX4_compares_10 rfl 2 rfl ?_
    refine v_icmp_ge (tgt := 18) hf dX4_compares_11 (by decide) (fun hq hf => ?_) (fun hq hf => ?_)
    · refine v_iconst (v := 0) dX4_compares_18 (by decide) ?_
      refine v_goto (tgt := 54) dX4_compares_19 (by decide) ?_
      refine v_sub [] (L2 := []) rfl ?_
      exact t_X4_compares_b54  hf
    · refine v_iconst (v := 1) dX4_compares_14 (by decide) ?_
      refine v_goto (tgt := 54) dX4_compares_15 (by decide) ?_
      refine v_sub [] (L2 := []) rfl ?_
      exact t_X4_compares_b54  hf
  · refine v_aload_n (x := (some p0)) dX4_compares_22 rfl 0 rfl ?_
    refine v_geti cb_5 hk_p0 10 510 rfl (by decide) rfl (lk_n kw_159 rfl) hf dX4_compares_23 (fun x2 hf => ?_)
    refine v_bipush (v := 62) dX4_compares_26 (by decide) ?_
    refine v_icmp_ne (tgt := 44) hf dX4_compares_28 (by decide) (fun hq hf => ?_) (fun hq hf => ?_)
    · refine v_iload_n (x := p1) dX4_compares_31 rfl 1 rfl ?_
      refine v_iload_n (x := p2) dX4_compares_32 rfl 2 rfl ?_
      refine v_icmp_le (tgt := 40) hf dX4_compares_33 (by decide) (fun hq hf => ?_) (fun hq hf => ?_)
      · refine v_iconst (v := 0) dX4_compares_40 (by decide) ?_
        refine v_goto (tgt := 54) dX4_compares_41 (by decide) ?_
        refine v_sub [] (L2 := []) rfl ?_
        exact t_X4_compares_b54  hf
      · refine v_iconst (v := 1) dX4_compares_36 (by decide) ?_
        refine v_goto (tgt := 54) dX4_compares_37 (by decide) ?_
        refine v_sub [] (L2 := []) rfl ?_
        exact t_X4_compares_b54  hf
    · refine v_iload_n (x := p1) dX4_compares_44 rfl 1 rfl ?_
      refine v_iload_n (x := p2) dX4_compares_45 rfl 2 rfl ?_
      refine v_icmp_ne (tgt := 53) hf dX4_compares_46 (by decide) (fun hq hf => ?_) (fun hq hf => ?_)
      · refine v_iconst (v := 1) dX4_compares_49 (by decide) ?_
        refine v_goto (tgt := 54) dX4_compares_50 (by decide) ?_
        refine v_sub [] (L2 := []) rfl ?_
        exact t_X4_compares_b54  hf
      · refine v_iconst (v := 0) dX4_compares_53 (by decide) ?_
        refine v_sub [] (L2 := []) rfl ?_
        exact t_X4_compares_b54  hf
theorem dX4_decide_0 : decode cX4_decide 0 = .ok (.iload_n 1, 1) := by decide +kernel
theorem dX4_decide_1 : decode cX4_decide 1 = .ok (.aload_n 0, 1) := by decide +kernel
theorem dX4_decide_2 : decode cX4_decide 2 = .ok (.getfield 48, 3) := by decide +kernel
theorem dX4_decide_5 : decode cX4_decide 5 = .ok (.if_icmp .eq 7, 3) := by decide +kernel
theorem dX4_decide_8 : decode cX4_decide 8 = .ok (.iconst 1, 1) := by decide +kernel
theorem dX4_decide_9 : decode cX4_decide 9 = .ok (.goto 4, 3) := by decide +kernel
theorem dX4_decide_12 : decode cX4_decide 12 = .ok (.iconst 0, 1) := by decide +kernel
theorem dX4_decide_13 : decode cX4_decide 13 = .ok (.istore_n 2, 1) := by decide +kernel
theorem dX4_decide_14 : decode cX4_decide 14 = .ok (.aload_n 0, 1) := by decide +kernel
theorem dX4_decide_15 : decode cX4_decide 15 = .ok (.iconst 0, 1) := by decide +kernel
theorem dX4_decide_16 : decode cX4_decide 16 = .ok (.putfield 48, 3) := by decide +kernel
theorem dX4_decide_19 : decode cX4_decide 19 = .ok (.aload_n 0, 1) := by decide +kernel
theorem dX4_decide_20 : decode cX4_decide 20 = .ok (.getfield 51, 3) := by decide +kernel
theorem dX4_decide_23 : decode cX4_decide 23 = .ok (.iconst 1, 1) := by decide +kernel
theorem dX4_decide_24 : decode cX4_decide 24 = .ok (.if_icmp .ne 26, 3) := by decide +kernel
theorem dX4_decide_27 : decode cX4_decide 27 = .ok (.aload_n 0, 1) := by decide +kernel
theorem dX4_decide_28 : decode cX4_decide 28 = .ok (.aload_n 0, 1) := by decide +kernel
theorem dX4_decide_29 : decode cX4_decide 29 = .ok (.getfield 54, 3) := by decide +kernel
theorem dX4_decide_32 : decode cX4_decide 32 = .ok (.ifCond .eq 11, 3) := by decide +kernel
theorem dX4_decide_35 : decode cX4_decide 35 = .ok (.iload_n 2, 1) := by decide +kernel
theorem dX4_decide_36 : decode cX4_decide 36 = .ok (.ifCond .eq 7, 3) := by decide +kernel
theorem dX4_decide_39 : decode cX4_decide 39 = .ok (.iconst 1, 1) := by decide +kernel
theorem dX4_decide_40 : decode cX4_decide 40 = .ok (.goto 4, 3) := by decide +kernel
theorem dX4_decide_43 : decode cX4_decide 43 = .ok (.iconst 0, 1) := by decide +kernel
theorem dX4_decide_44 : decode cX4_decide 44 = .ok (.putfield 54, 3) := by decide +kernel
theorem dX4_decide_47 : decode cX4_decide 47 = .ok (.goto 39, 3) := by decide +kernel
theorem dX4_decide_50 : decode cX4_decide 50 = .ok (.aload_n 0, 1) := by decide +kernel
theorem dX4_decide_51 : decode cX4_decide 51 = .ok (.getfield 51, 3) := by decide +kernel
theorem dX4_decide_54 : decode cX4_decide 54 = .ok (.iconst 2, 1) := by decide +kernel
theorem dX4_decide_55 : decode cX4_decide 55 = .ok (.if_icmp .ne 26, 3) := by decide +kernel
theorem dX4_decide_58 : decode cX4_decide 58 = .ok (.aload_n 0, 1) := by decide +kernel
theorem dX4_decide_59 : decode cX4_decide 59 = .ok (.aload_n 0, 1) := by decide +kernel
theorem dX4_decide_60 : decode cX4_decide 60 = .ok (.getfield 54, 3) := by decide +kernel
theorem dX4_decide_63 : decode cX4_decide 63 = .ok (.ifCond .ne 7, 3) := by decide +kernel
theorem dX4_decide_66 : decode cX4_decide 66 = .ok (.iload_n 2, 1) := by decide +kernel
theorem dX4_decide_67 : decode cX4_decide 67 = .ok (.ifCond .eq 7, 3) := by decide +kernel
theorem dX4_decide_70 : decode cX4_decide 70 = .ok (.iconst 1, 1) := by decide +kernel
theorem dX4_decide_71 : decode cX4_decide 71 = .ok (.goto 4, 3) := by decide +kernel
theorem dX4_decide_74 : decode cX4_decide 74 = .ok (.iconst 0, 1) := by decide +kernel
theorem dX4_decide_75 : decode cX4_decide 75 = .ok (.putfield 54, 3) := by decide +kernel
theorem dX4_decide_78 : decode cX4_decide 78 = .ok (.goto 8, 3) := by decide +kernel
theorem dX4_decide_81 : decode cX4_decide 81 = .ok (.aload_n 0, 1) := by decide +kernel
theorem dX4_decide_82 : decode cX4_decide 82 = .ok (.iload_n 2, 1) := by decide +kernel
theorem dX4_decide_83 : decode cX4_decide 83 = .ok (.putfield 54, 3) := by decide +kernel
theorem dX4_decide_86 : decode cX4_decide 86 = .ok (.return_, 1) := by decide +kernel
def f_X4_decide_b86 (σ : TH) : Option (Unit × TH) :=
  some ((), σ)
set_option maxHeartbeats 4000000 in
set_option maxRecDepth 100000 in
theorem t_X4_decide_b86 {l : Launch} {D : va_G} {cy : Nat → ClassId} {ka : Nat → Nat} {σ0 z : TH} {r : Unit}  {σ : TH}  (hf : f_X4_decide_b86 σ  = some (r, z)) : v_ l D cy ka cX4_decide RX4 3 none "decide" 0 0 (qf_ D cy σ0 z none) σ0 z σ 86 [] [] := by
  unfold f_X4_decide_b86 at hf
  exact v_vret hf dX4_decide_86
def f_X4_decide_b44 (σ : TH) (t0 : Int32) (t1 : Option Nat) : Option (Unit × TH) :=
  nn_ t1 fun a5 => gt_ (kd_ σ a5 = 6) <| gt_ (t0 = 0 ∨ t0 = 1) <| lt_ (si_ σ 513 a5 t0) fun s6 => f_X4_decide_b86 s6 
set_option maxHeartbeats 4000000 in
set_option maxRecDepth 100000 in
theorem t_X4_decide_b44 {l : Launch} {D : va_G} {cy : Nat → ClassId} {ka : Nat → Nat} {σ0 z : TH} {r : Unit}  {σ : TH} {t0 : Int32} {t1 : Option Nat} (hf : f_X4_decide_b44 σ t0 t1 = some (r, z)) : v_ l D cy ka cX4_decide RX4 3 none "decide" 0 0 (qf_ D cy σ0 z none) σ0 z σ 44 [] [.int t0, va_rf t1] := by
  unfold f_X4_decide_b44 at hf
  obtain ⟨a5, rfl, hf⟩ := nn_of hf
  obtain ⟨hk_a5, hf⟩ := gt_of hf
  obtain ⟨hbs6, hf⟩ := gt_of hf
  refine v_puti2 cb_5 hk_a5 13 513 rfl (by decide) rfl (lk_n kw_162 rfl) (Or.inl rfl) (nz_ hbs6) (fz_ hbs6) hf dX4_decide_44 (fun s6 hts6 hf => ?_)
  refine v_goto (tgt := 86) dX4_decide_47 (by decide) ?_
  refine v_sub [] (L2 := []) rfl ?_
  exact t_X4_decide_b86  hf
def f_X4_decide_b43 (σ : TH) (t0 : Option Nat) : Option (Unit × TH) :=
  f_X4_decide_b44 σ (0 : Int32) t0
set_option maxHeartbeats 4000000 in
set_option maxRecDepth 100000 in
theorem t_X4_decide_b43 {l : Launch} {D : va_G} {cy : Nat → ClassId} {ka : Nat → Nat} {σ0 z : TH} {r : Unit}  {σ : TH} {t0 : Option Nat} (hf : f_X4_decide_b43 σ t0 = some (r, z)) : v_ l D cy ka cX4_decide RX4 3 none "decide" 0 0 (qf_ D cy σ0 z none) σ0 z σ 43 [] [va_rf t0] := by
  unfold f_X4_decide_b43 at hf
  refine v_iconst (v := 0) dX4_decide_43 (by decide) ?_
  refine v_sub [] (L2 := []) rfl ?_
  exact t_X4_decide_b44  hf
def f_X4_decide_b75 (σ : TH) (t0 : Int32) (t1 : Option Nat) : Option (Unit × TH) :=
  nn_ t1 fun a9 => gt_ (kd_ σ a9 = 6) <| gt_ (t0 = 0 ∨ t0 = 1) <| lt_ (si_ σ 513 a9 t0) fun s10 => f_X4_decide_b86 s10 
set_option maxHeartbeats 4000000 in
set_option maxRecDepth 100000 in
theorem t_X4_decide_b75 {l : Launch} {D : va_G} {cy : Nat → ClassId} {ka : Nat → Nat} {σ0 z : TH} {r : Unit}  {σ : TH} {t0 : Int32} {t1 : Option Nat} (hf : f_X4_decide_b75 σ t0 t1 = some (r, z)) : v_ l D cy ka cX4_decide RX4 3 none "decide" 0 0 (qf_ D cy σ0 z none) σ0 z σ 75 [] [.int t0, va_rf t1] := by
  unfold f_X4_decide_b75 at hf
  obtain ⟨a9, rfl, hf⟩ := nn_of hf
  obtain ⟨hk_a9, hf⟩ := gt_of hf
  obtain ⟨hbs10, hf⟩ := gt_of hf
  refine v_puti2 cb_5 hk_a9 13 513 rfl (by decide) rfl (lk_n kw_162 rfl) (Or.inl rfl) (nz_ hbs10) (fz_ hbs10) hf dX4_decide_75 (fun s10 hts10 hf => ?_)
  refine v_goto (tgt := 86) dX4_decide_78 (by decide) ?_
  refine v_sub [] (L2 := []) rfl ?_
  exact t_X4_decide_b86  hf
def f_X4_decide_b70 (σ : TH) (t0 : Option Nat) : Option (Unit × TH) :=
  f_X4_decide_b75 σ (1 : Int32) t0
set_option maxHeartbeats 4000000 in
set_option maxRecDepth 100000 in
theorem t_X4_decide_b70 {l : Launch} {D : va_G} {cy : Nat → ClassId} {ka : Nat → Nat} {σ0 z : TH} {r : Unit}  {σ : TH} {t0 : Option Nat} (hf : f_X4_decide_b70 σ t0 = some (r, z)) : v_ l D cy ka cX4_decide RX4 3 none "decide" 0 0 (qf_ D cy σ0 z none) σ0 z σ 70 [] [va_rf t0] := by
  unfold f_X4_decide_b70 at hf
  refine v_iconst (v := 1) dX4_decide_70 (by decide) ?_
  refine v_goto (tgt := 75) dX4_decide_71 (by decide) ?_
  refine v_sub [] (L2 := []) rfl ?_
  exact t_X4_decide_b75  hf
def f_X4_decide_b13 (σ : TH) (l0 : Nat) (t0 : Int32) : Option (Unit × TH) :=
  gt_ (kd_ σ l0 = 6) <| lt_ (si_ σ 511 l0 (0 : Int32)) fun s2 => lt_ (fi_ s2 512 l0) fun x3 => if x3 = (1 : Int32) then (lt_ (fi_ s2 513 l0) fun x4 => if x4 = 0 then (f_X4_decide_b43 s2 (some l0)) else (if t0 = 0 then (f_X4_decide_b43 s2 (some l0)) else (f_X4_decide_b44 s2 (1 : Int32) (some l0)))) else (lt_ (fi_ s2 512 l0) fun x7 => if x7 = (2 : Int32) then (lt_ (fi_ s2 513 l0) fun x8 => if x8 = 0 then (if t0 = 0 then (f_X4_decide_b75 s2 (0 : Int32) (some l0)) else (f_X4_decide_b70 s2 (some l0))) else (f_X4_decide_b70 s2 (some l0))) else (gt_ (t0 = 0 ∨ t0 = 1) <| lt_ (si_ s2 513 l0 t0) fun s11 => f_X4_decide_b86 s11 ))
set_option maxHeartbeats 4000000 in
set_option maxRecDepth 100000 in
theorem t_X4_decide_b13 {l : Launch} {D : va_G} {cy : Nat → ClassId} {ka : Nat → Nat} {σ0 z : TH} {r : Unit}  {σ : TH} {l0 : Nat} {t0 : Int32} (hf : f_X4_decide_b13 σ l0 t0 = some (r, z)) : v_ l D cy ka cX4_decide RX4 3 none "decide" 0 0 (qf_ D cy σ0 z none) σ0 z σ 13 [(0, va_rf (some l0))] [.int t0] := by
  unfold f_X4_decide_b13 at hf
  refine v_istore_n [(2, .int t0), (0, va_rf (some l0))] dX4_decide_13 rfl (by decide) rfl ?_
  refine v_aload_n (x := (some l0)) dX4_decide_14 rfl 1 rfl ?_
  refine v_iconst (v := 0) dX4_decide_15 (by decide) ?_
  obtain ⟨hk_l0, hf⟩ := gt_of hf
  refine v_puti2 cb_5 hk_l0 11 511 rfl (by decide) rfl (lk_n kw_160 rfl) (Or.inl rfl) rfl rfl hf dX4_decide_16 (fun s2 hts2 hf => ?_)
  have hk_l0 := tk_ hts2 hk_l0
  refine v_aload_n (x := (some l0)) dX4_decide_19 rfl 1 rfl ?_
  refine v_geti cb_5 hk_l0 12 512 rfl (by decide) rfl (lk_n kw_161 rfl) hf dX4_decide_20 (fun x3 hf => ?_)
  refine v_iconst (v := 1) dX4_decide_23 (by decide) ?_
  refine v_icmp_ne (tgt := 50) hf dX4_decide_24 (by decide) (fun hq hf => ?_) (fun hq hf => ?_)
  · refine v_aload_n (x := (some l0)) dX4_decide_27 rfl 1 rfl ?_
    refine v_aload_n (x := (some l0)) dX4_decide_28 rfl 1 rfl ?_
    refine v_geti cb_5 hk_l0 13 513 rfl (by decide) rfl (lk_n kw_162 rfl) hf dX4_decide_29 (fun x4 hf => ?_)
    refine v_if_eq (tgt := 43) hf dX4_decide_32 (by decide) (fun hq hf => ?_) (fun hq hf => ?_)
    · refine v_sub [] (L2 := []) rfl ?_
      exact t_X4_decide_b43  hf
    · refine v_iload_n (x := t0) dX4_decide_35 rfl 0 rfl ?_
      refine v_if_eq (tgt := 43) hf dX4_decide_36 (by decide) (fun hq hf => ?_) (fun hq hf => ?_)
      · refine v_sub [] (L2 := []) rfl ?_
        exact t_X4_decide_b43  hf
      · refine v_iconst (v := 1) dX4_decide_39 (by decide) ?_
        refine v_goto (tgt := 44) dX4_decide_40 (by decide) ?_
        refine v_sub [] (L2 := []) rfl ?_
        exact t_X4_decide_b44  hf
  · refine v_aload_n (x := (some l0)) dX4_decide_50 rfl 1 rfl ?_
    refine v_geti cb_5 hk_l0 12 512 rfl (by decide) rfl (lk_n kw_161 rfl) hf dX4_decide_51 (fun x7 hf => ?_)
    refine v_iconst (v := 2) dX4_decide_54 (by decide) ?_
    refine v_icmp_ne (tgt := 81) hf dX4_decide_55 (by decide) (fun hq hf => ?_) (fun hq hf => ?_)
    · refine v_aload_n (x := (some l0)) dX4_decide_58 rfl 1 rfl ?_
      refine v_aload_n (x := (some l0)) dX4_decide_59 rfl 1 rfl ?_
      refine v_geti cb_5 hk_l0 13 513 rfl (by decide) rfl (lk_n kw_162 rfl) hf dX4_decide_60 (fun x8 hf => ?_)
      refine v_if_ne (tgt := 70) hf dX4_decide_63 (by decide) (fun hq hf => ?_) (fun hq hf => ?_)
      · refine v_iload_n (x := t0) dX4_decide_66 rfl 0 rfl ?_
        refine v_if_eq (tgt := 74) hf dX4_decide_67 (by decide) (fun hq hf => ?_) (fun hq hf => ?_)
        · refine v_iconst (v := 0) dX4_decide_74 (by decide) ?_
          refine v_sub [] (L2 := []) rfl ?_
          exact t_X4_decide_b75  hf
        · refine v_sub [] (L2 := []) rfl ?_
          exact t_X4_decide_b70  hf
      · refine v_sub [] (L2 := []) rfl ?_
        exact t_X4_decide_b70  hf
    · refine v_aload_n (x := (some l0)) dX4_decide_81 rfl 1 rfl ?_
      refine v_iload_n (x := t0) dX4_decide_82 rfl 0 rfl ?_
      obtain ⟨hbs11, hf⟩ := gt_of hf
      refine v_puti2 cb_5 hk_l0 13 513 rfl (by decide) rfl (lk_n kw_162 rfl) (Or.inl rfl) (nz_ hbs11) (fz_ hbs11) hf dX4_decide_83 (fun s11 hts11 hf => ?_)
      have hk_l0 := tk_ hts11 hk_l0
      refine v_sub [] (L2 := []) rfl ?_
      exact t_X4_decide_b86  hf
/-- LivesAhead$Printer.decide(Z)V -/
def f_X4_decide (σ : TH) (p0 : Nat) (p1 : Int32) : Option (Unit × TH) :=
  gt_ (kd_ σ p0 = 6) <| lt_ (fi_ σ 511 p0) fun x1 => if p1 = x1 then (f_X4_decide_b13 σ p0 (0 : Int32)) else (f_X4_decide_b13 σ p0 (1 : Int32))
set_option maxHeartbeats 4000000 in
set_option maxRecDepth 100000 in
theorem c_X4_decide {l : Launch} {D : va_G} {cy : Nat → ClassId} {ka : Nat → Nat} {σ z : TH} {p0 : Nat} {p1 : Int32} {r : Unit} (hf : f_X4_decide σ p0 p1 = some (r, z)) : ct_ l D cy ka yX4_decide 0 0 [va_rf (some p0), .int p1] σ none z := by
  unfold f_X4_decide at hf
  refine v_start (cc := cX4_decide) (own := RX4) (maxL := 3) (ret := none) (nm := "decide") (by decide +kernel) kw_944 rfl rfl (by simp [lg_sl, va_rf_cat, cat_i, cat_l]) ?_
  refine v_eqL (L2 := [(0, va_rf (some p0)), (1, .int p1)]) (by simp [lv_args, va_rf_cat, cat_i, cat_l]) ?_
  refine v_iload_n (x := p1) dX4_decide_0 rfl 1 rfl ?_
  refine v_aload_n (x := (some p0)) dX4_decide_1 rfl 0 rfl ?_
  obtain ⟨hk_p0, hf⟩ := gt_of hf
  refine v_geti cb_5 hk_p0 11 511 rfl (by decide) rfl (lk_n kw_160 rfl) hf dX4_decide_2 (fun x1 hf => ?_)
  refine v_icmp_eq (tgt := 12) hf dX4_decide_5 (by decide) (fun hq hf => ?_) (fun hq hf => ?_)
  · refine v_iconst (v := 0) dX4_decide_12 (by decide) ?_
    refine v_sub [0] (L2 := [(0, va_rf (some p0))]) rfl ?_
    exact t_X4_decide_b13  hf
  · refine v_iconst (v := 1) dX4_decide_8 (by decide) ?_
    refine v_goto (tgt := 13) dX4_decide_9 (by decide) ?_
    refine v_sub [0] (L2 := [(0, va_rf (some p0))]) rfl ?_
    exact t_X4_decide_b13  hf
theorem dX4_put_0 : decode cX4_put 0 = .ok (.aload_n 0, 1) := by decide +kernel
theorem dX4_put_1 : decode cX4_put 1 = .ok (.getfield 33, 3) := by decide +kernel
theorem dX4_put_4 : decode cX4_put 4 = .ok (.ifCond .eq 24, 3) := by decide +kernel
theorem dX4_put_7 : decode cX4_put 7 = .ok (.aload_n 0, 1) := by decide +kernel
theorem dX4_put_8 : decode cX4_put 8 = .ok (.getfield 30, 3) := by decide +kernel
theorem dX4_put_11 : decode cX4_put 11 = .ok (.sipush 1024, 3) := by decide +kernel
theorem dX4_put_14 : decode cX4_put 14 = .ok (.if_icmp .ge 14, 3) := by decide +kernel
theorem dX4_put_17 : decode cX4_put 17 = .ok (.aload_n 0, 1) := by decide +kernel
theorem dX4_put_18 : decode cX4_put 18 = .ok (.getfield 15, 3) := by decide +kernel
theorem dX4_put_21 : decode cX4_put 21 = .ok (.aload_n 0, 1) := by decide +kernel
theorem dX4_put_22 : decode cX4_put 22 = .ok (.getfield 30, 3) := by decide +kernel
theorem dX4_put_25 : decode cX4_put 25 = .ok (.iload_n 1, 1) := by decide +kernel
theorem dX4_put_26 : decode cX4_put 26 = .ok (.i2b, 1) := by decide +kernel
theorem dX4_put_27 : decode cX4_put 27 = .ok (.bastore, 1) := by decide +kernel
theorem dX4_put_28 : decode cX4_put 28 = .ok (.aload_n 0, 1) := by decide +kernel
theorem dX4_put_29 : decode cX4_put 29 = .ok (.dup, 1) := by decide +kernel
theorem dX4_put_30 : decode cX4_put 30 = .ok (.getfield 30, 3) := by decide +kernel
theorem dX4_put_33 : decode cX4_put 33 = .ok (.iconst 1, 1) := by decide +kernel
theorem dX4_put_34 : decode cX4_put 34 = .ok (.iadd, 1) := by decide +kernel
theorem dX4_put_35 : decode cX4_put 35 = .ok (.putfield 30, 3) := by decide +kernel
theorem dX4_put_38 : decode cX4_put 38 = .ok (.return_, 1) := by decide +kernel
def f_X4_put_b28 (σ : TH) (l0 : Nat) : Option (Unit × TH) :=
  gt_ (kd_ σ l0 = 6) <| lt_ (fi_ σ 505 l0) fun x2 => lt_ (si_ σ 505 l0 (x2 + (1 : Int32))) fun s3 => some ((), s3)
set_option maxHeartbeats 4000000 in
set_option maxRecDepth 100000 in
theorem t_X4_put_b28 {l : Launch} {D : va_G} {cy : Nat → ClassId} {ka : Nat → Nat} {σ0 z : TH} {r : Unit}  {σ : TH} {l0 : Nat} (hf : f_X4_put_b28 σ l0 = some (r, z)) : v_ l D cy ka cX4_put RX4 2 none "put" 0 0 (qf_ D cy σ0 z none) σ0 z σ 28 [(0, va_rf (some l0))] [] := by
  unfold f_X4_put_b28 at hf
  refine v_aload_n (x := (some l0)) dX4_put_28 rfl 0 rfl ?_
  refine v_dup dX4_put_29 (va_rf_cat _) ?_
  obtain ⟨hk_l0, hf⟩ := gt_of hf
  refine v_geti cb_5 hk_l0 5 505 rfl (by decide) rfl (lk_n kw_153 rfl) hf dX4_put_30 (fun x2 hf => ?_)
  refine v_iconst (v := 1) dX4_put_33 (by decide) ?_
  refine v_iadd dX4_put_34 ?_
  refine v_puti2 cb_5 hk_l0 5 505 rfl (by decide) rfl (lk_n kw_153 rfl) (Or.inl rfl) rfl rfl hf dX4_put_35 (fun s3 hts3 hf => ?_)
  have hk_l0 := tk_ hts3 hk_l0
  exact v_vret hf dX4_put_38
/-- LivesAhead$Printer.put(I)V -/
def f_X4_put (σ : TH) (p0 : Nat) (p1 : Int32) : Option (Unit × TH) :=
  gt_ (kd_ σ p0 = 6) <| lt_ (fi_ σ 506 p0) fun x1 => if x1 = 0 then (f_X4_put_b28 σ p0) else (lt_ (fi_ σ 505 p0) fun x4 => if (1024 : Int32) ≤ x4 then (f_X4_put_b28 σ p0) else (lt_ (fr_ σ 501 p0) fun r5 => lt_ (fi_ σ 505 p0) fun x6 => nn_ r5 fun a7 => gt_ (kd_ σ a7 = 21) <| gt_ (¬ (x6 < 0 ∨ ln_ σ a7 ≤ x6.toNatClampNeg)) <| lt_ (sa_ σ a7 x6.toNatClampNeg (vp_nar .byte ((Int32.toInt8 p1).toInt32))) fun s8 => f_X4_put_b28 s8 p0))
set_option maxHeartbeats 4000000 in
set_option maxRecDepth 100000 in
theorem c_X4_put {l : Launch} {D : va_G} {cy : Nat → ClassId} {ka : Nat → Nat} {σ z : TH} {p0 : Nat} {p1 : Int32} {r : Unit} (hf : f_X4_put σ p0 p1 = some (r, z)) : ct_ l D cy ka yX4_put 0 0 [va_rf (some p0), .int p1] σ none z := by
  unfold f_X4_put at hf
  refine v_start (cc := cX4_put) (own := RX4) (maxL := 2) (ret := none) (nm := "put") (by decide +kernel) kw_920 rfl rfl (by simp [lg_sl, va_rf_cat, cat_i, cat_l]) ?_
  refine v_eqL (L2 := [(0, va_rf (some p0)), (1, .int p1)]) (by simp [lv_args, va_rf_cat, cat_i, cat_l]) ?_
  refine v_aload_n (x := (some p0)) dX4_put_0 rfl 0 rfl ?_
  obtain ⟨hk_p0, hf⟩ := gt_of hf
  refine v_geti cb_5 hk_p0 6 506 rfl (by decide) rfl (lk_n kw_155 rfl) hf dX4_put_1 (fun x1 hf => ?_)
  refine v_if_eq (tgt := 28) hf dX4_put_4 (by decide) (fun hq hf => ?_) (fun hq hf => ?_)
  · refine v_sub [0] (L2 := [(0, va_rf (some p0))]) rfl ?_
    exact t_X4_put_b28  hf
  · refine v_aload_n (x := (some p0)) dX4_put_7 rfl 0 rfl ?_
    refine v_geti cb_5 hk_p0 5 505 rfl (by decide) rfl (lk_n kw_153 rfl) hf dX4_put_8 (fun x4 hf => ?_)
    refine v_sipush (v := 1024) dX4_put_11 (by decide) ?_
    refine v_icmp_ge (tgt := 28) hf dX4_put_14 (by decide) (fun hq hf => ?_) (fun hq hf => ?_)
    · refine v_sub [0] (L2 := [(0, va_rf (some p0))]) rfl ?_
      exact t_X4_put_b28  hf
    · refine v_aload_n (x := (some p0)) dX4_put_17 rfl 0 rfl ?_
      refine v_getr cb_5 hk_p0 1 501 rfl (by decide) rfl (lk_n kw_145 rfl) hf dX4_put_18 (fun r5 hf => ?_)
      refine v_aload_n (x := (some p0)) dX4_put_21 rfl 0 rfl ?_
      refine v_geti cb_5 hk_p0 5 505 rfl (by decide) rfl (lk_n kw_153 rfl) hf dX4_put_22 (fun x6 hf => ?_)
      refine v_iload_n (x := p1) dX4_put_25 rfl 1 rfl ?_
      refine v_i2b dX4_put_26 ?_
      obtain ⟨a7, rfl, hf⟩ := nn_of hf
      obtain ⟨hk_a7, hf⟩ := gt_of hf
      refine v_bast2 hk_a7 hf dX4_put_27 (fun s8 hts8 hf => ?_)
      have hk_p0 := tk_ hts8 hk_p0
      refine v_sub [0] (L2 := [(0, va_rf (some p0))]) rfl ?_
      exact t_X4_put_b28  hf
theorem dX4_putNumber_0 : decode cX4_putNumber 0 = .ok (.iload_n 1, 1) := by decide +kernel
theorem dX4_putNumber_1 : decode cX4_putNumber 1 = .ok (.ifCond .ge 9, 3) := by decide +kernel
theorem dX4_putNumber_4 : decode cX4_putNumber 4 = .ok (.aload_n 0, 1) := by decide +kernel
theorem dX4_putNumber_5 : decode cX4_putNumber 5 = .ok (.bipush 45, 2) := by decide +kernel
theorem dX4_putNumber_7 : decode cX4_putNumber 7 = .ok (.invokevirtual 68, 3) := by decide +kernel
theorem dX4_putNumber_10 : decode cX4_putNumber 10 = .ok (.iload_n 1, 1) := by decide +kernel
theorem dX4_putNumber_11 : decode cX4_putNumber 11 = .ok (.invokestatic 90, 3) := by decide +kernel
theorem dX4_putNumber_14 : decode cX4_putNumber 14 = .ok (.istore_n 2, 1) := by decide +kernel
theorem dX4_putNumber_15 : decode cX4_putNumber 15 = .ok (.ldc 94, 2) := by decide +kernel
theorem dX4_putNumber_17 : decode cX4_putNumber 17 = .ok (.istore_n 3, 1) := by decide +kernel
theorem dX4_putNumber_18 : decode cX4_putNumber 18 = .ok (.iload_n 3, 1) := by decide +kernel
theorem dX4_putNumber_19 : decode cX4_putNumber 19 = .ok (.ifCond .le 34, 3) := by decide +kernel
theorem dX4_putNumber_22 : decode cX4_putNumber 22 = .ok (.iload_n 2, 1) := by decide +kernel
theorem dX4_putNumber_23 : decode cX4_putNumber 23 = .ok (.iload_n 3, 1) := by decide +kernel
theorem dX4_putNumber_24 : decode cX4_putNumber 24 = .ok (.if_icmp .ge 8, 3) := by decide +kernel
theorem dX4_putNumber_27 : decode cX4_putNumber 27 = .ok (.iload_n 3, 1) := by decide +kernel
theorem dX4_putNumber_28 : decode cX4_putNumber 28 = .ok (.iconst 1, 1) := by decide +kernel
theorem dX4_putNumber_29 : decode cX4_putNumber 29 = .ok (.if_icmp .ne 16, 3) := by decide +kernel
theorem dX4_putNumber_32 : decode cX4_putNumber 32 = .ok (.aload_n 0, 1) := by decide +kernel
theorem dX4_putNumber_33 : decode cX4_putNumber 33 = .ok (.bipush 48, 2) := by decide +kernel
theorem dX4_putNumber_35 : decode cX4_putNumber 35 = .ok (.iload_n 2, 1) := by decide +kernel
theorem dX4_putNumber_36 : decode cX4_putNumber 36 = .ok (.iload_n 3, 1) := by decide +kernel
theorem dX4_putNumber_37 : decode cX4_putNumber 37 = .ok (.idiv, 1) := by decide +kernel
theorem dX4_putNumber_38 : decode cX4_putNumber 38 = .ok (.bipush 10, 2) := by decide +kernel
theorem dX4_putNumber_40 : decode cX4_putNumber 40 = .ok (.irem, 1) := by decide +kernel
theorem dX4_putNumber_41 : decode cX4_putNumber 41 = .ok (.iadd, 1) := by decide +kernel
theorem dX4_putNumber_42 : decode cX4_putNumber 42 = .ok (.invokevirtual 68, 3) := by decide +kernel
theorem dX4_putNumber_45 : decode cX4_putNumber 45 = .ok (.iload_n 3, 1) := by decide +kernel
theorem dX4_putNumber_46 : decode cX4_putNumber 46 = .ok (.bipush 10, 2) := by decide +kernel
theorem dX4_putNumber_48 : decode cX4_putNumber 48 = .ok (.idiv, 1) := by decide +kernel
theorem dX4_putNumber_49 : decode cX4_putNumber 49 = .ok (.istore_n 3, 1) := by decide +kernel
theorem dX4_putNumber_50 : decode cX4_putNumber 50 = .ok (.goto (-32), 3) := by decide +kernel
theorem dX4_putNumber_53 : decode cX4_putNumber 53 = .ok (.return_, 1) := by decide +kernel
def f_X4_putNumber_b45 (rec_18 : TH → Nat → Int32 → Int32 → Option (Unit × TH)) (σ : TH) (l0 : Nat) (l2 : Int32) (l3 : Int32) : Option (Unit × TH) :=
  gt_ (¬ (10 : Int32) = 0) <| lt_ (l3 / (10 : Int32)) fun x4 => rec_18 σ l0 l2 x4
set_option maxHeartbeats 4000000 in
set_option maxRecDepth 100000 in
theorem t_X4_putNumber_b45 {l : Launch} {D : va_G} {cy : Nat → ClassId} {ka : Nat → Nat} {σ0 z : TH} {r : Unit} {rec_18 : TH → Nat → Int32 → Int32 → Option (Unit × TH)} (hrec_18 : ∀ (σ : TH) (l0 : Nat) (l2 : Int32) (l3 : Int32), rec_18 σ l0 l2 l3 = some (r, z) → v_ l D cy ka cX4_putNumber RX4 4 none "putNumber" 1 21 (qf_ D cy σ0 z none) σ0 z σ 18 [(0, va_rf (some l0)), (2, .int l2), (3, .int l3)] []) {σ : TH} {l0 : Nat} {l2 : Int32} {l3 : Int32} (hf : f_X4_putNumber_b45 rec_18 σ l0 l2 l3 = some (r, z)) : v_ l D cy ka cX4_putNumber RX4 4 none "putNumber" 1 21 (qf_ D cy σ0 z none) σ0 z σ 45 [(0, va_rf (some l0)), (2, .int l2), (3, .int l3)] [] := by
  unfold f_X4_putNumber_b45 at hf
  refine v_iload_n (x := l3) dX4_putNumber_45 rfl 2 rfl ?_
  refine v_bipush (v := 10) dX4_putNumber_46 (by decide) ?_
  refine v_idiv hf dX4_putNumber_48 (fun hf => ?_)
  obtain ⟨x4, ex4⟩ : ∃ y : Int32, y = l3 / (10 : Int32) := ⟨_, rfl⟩
  rw [lt_e, ← ex4] at hf
  rw [← ex4]
  refine v_istore_n [(3, .int x4), (0, va_rf (some l0)), (2, .int l2)] dX4_putNumber_49 rfl (by decide) rfl ?_
  refine v_goto (tgt := 18) dX4_putNumber_50 (by decide) ?_
  refine v_sub [1, 2, 0] (L2 := [(0, va_rf (some l0)), (2, .int l2), (3, .int x4)]) rfl ?_
  exact hrec_18 _ _ _ _ hf
def f_X4_putNumber_b32 (rec_18 : TH → Nat → Int32 → Int32 → Option (Unit × TH)) (σ : TH) (l0 : Nat) (l2 : Int32) (l3 : Int32) : Option (Unit × TH) :=
  gt_ (¬ l3 = 0) <| gt_ (¬ (10 : Int32) = 0) <| gt_ (kd_ σ l0 = 6) <| bd_ (f_X4_put σ l0 ((48 : Int32) + ((l2 / l3) - (l2 / l3) / (10 : Int32) * (10 : Int32)))) fun x2 s3 => f_X4_putNumber_b45 rec_18 s3 l0 l2 l3
set_option maxHeartbeats 4000000 in
set_option maxRecDepth 100000 in
theorem t_X4_putNumber_b32 {l : Launch} {D : va_G} {cy : Nat → ClassId} {ka : Nat → Nat} {σ0 z : TH} {r : Unit} {rec_18 : TH → Nat → Int32 → Int32 → Option (Unit × TH)} (hrec_18 : ∀ (σ : TH) (l0 : Nat) (l2 : Int32) (l3 : Int32), rec_18 σ l0 l2 l3 = some (r, z) → v_ l D cy ka cX4_putNumber RX4 4 none "putNumber" 1 21 (qf_ D cy σ0 z none) σ0 z σ 18 [(0, va_rf (some l0)), (2, .int l2), (3, .int l3)] []) {σ : TH} {l0 : Nat} {l2 : Int32} {l3 : Int32} (hf : f_X4_putNumber_b32 rec_18 σ l0 l2 l3 = some (r, z)) : v_ l D cy ka cX4_putNumber RX4 4 none "putNumber" 1 21 (qf_ D cy σ0 z none) σ0 z σ 32 [(0, va_rf (some l0)), (2, .int l2), (3, .int l3)] [] := by
  unfold f_X4_putNumber_b32 at hf
  refine v_aload_n (x := (some l0)) dX4_putNumber_32 rfl 0 rfl ?_
  refine v_bipush (v := 48) dX4_putNumber_33 (by decide) ?_
  refine v_iload_n (x := l2) dX4_putNumber_35 rfl 1 rfl ?_
  refine v_iload_n (x := l3) dX4_putNumber_36 rfl 2 rfl ?_
  refine v_idiv hf dX4_putNumber_37 (fun hf => ?_)
  refine v_bipush (v := 10) dX4_putNumber_38 (by decide) ?_
  refine v_irem hf dX4_putNumber_40 (fun hf => ?_)
  refine v_iadd dX4_putNumber_41 ?_
  obtain ⟨hk_l0, hf⟩ := gt_of hf
  obtain ⟨x2, s3, hcs3, hf⟩ := bd_of hf
  have hts3 := c_X4_put (l := l) (D := D) (cy := cy) (ka := ka) hcs3
  refine v_callV cb_5 hk_l0 (As := [.int ((48 : Int32) + ((l2 / l3) - (l2 / l3) / (10 : Int32) * (10 : Int32)))]) (rest := []) hts3 yb_X4_put kw_917 kw_919 kp_49 rfl ⟨Nat.le_of_ble_eq_true rfl, Nat.le_of_ble_eq_true rfl⟩ rfl (cat_len (Nat.le_of_ble_eq_true rfl)) dX4_putNumber_42 ?_
  have hk_l0 := tk_ hts3.1 hk_l0
  show v_ l D cy ka cX4_putNumber RX4 4 none "putNumber" 1 21 (qf_ D cy σ0 z none) σ0 z _ 45 [(0, va_rf (some l0)), (2, .int l2), (3, .int l3)] []
  refine v_sub [0, 1, 2] (L2 := [(0, va_rf (some l0)), (2, .int l2), (3, .int l3)]) rfl ?_
  exact t_X4_putNumber_b45 hrec_18 hf
def f_X4_putNumber_b18 : Nat → TH → Nat → Int32 → Int32 → Option (Unit × TH)
  | 0, _, _, _, _ => none
  | n + 1, σ, l0, l2, l3 => if l3 ≤ 0 then (some ((), σ)) else (if l3 ≤ l2 then (f_X4_putNumber_b32 (f_X4_putNumber_b18 n) σ l0 l2 l3) else (if l3 = (1 : Int32) then (f_X4_putNumber_b32 (f_X4_putNumber_b18 n) σ l0 l2 l3) else (f_X4_putNumber_b45 (f_X4_putNumber_b18 n) σ l0 l2 l3)))
set_option maxHeartbeats 4000000 in
set_option maxRecDepth 100000 in
theorem t_X4_putNumber_b18 {l : Launch} {D : va_G} {cy : Nat → ClassId} {ka : Nat → Nat} {σ0 z : TH} {r : Unit}  : ∀ (n : Nat) (σ : TH) (l0 : Nat) (l2 : Int32) (l3 : Int32), f_X4_putNumber_b18 n σ l0 l2 l3 = some (r, z) → v_ l D cy ka cX4_putNumber RX4 4 none "putNumber" 1 21 (qf_ D cy σ0 z none) σ0 z σ 18 [(0, va_rf (some l0)), (2, .int l2), (3, .int l3)] [] := by
  intro n
  induction n with
  | zero => intro σ l0 l2 l3 hf; unfold f_X4_putNumber_b18 at hf; cases hf
  | succ n ih =>
    intro σ l0 l2 l3 hf
    unfold f_X4_putNumber_b18 at hf
    have hrec_18 := ih
    refine v_iload_n (x := l3) dX4_putNumber_18 rfl 2 rfl ?_
    refine v_if_le (tgt := 53) hf dX4_putNumber_19 (by decide) (fun hq hf => ?_) (fun hq hf => ?_)
    · exact v_vret hf dX4_putNumber_53
    · refine v_iload_n (x := l2) dX4_putNumber_22 rfl 1 rfl ?_
      refine v_iload_n (x := l3) dX4_putNumber_23 rfl 2 rfl ?_
      refine v_icmp_ge (tgt := 32) hf dX4_putNumber_24 (by decide) (fun hq hf => ?_) (fun hq hf => ?_)
      · refine v_sub [0, 1, 2] (L2 := [(0, va_rf (some l0)), (2, .int l2), (3, .int l3)]) rfl ?_
        exact t_X4_putNumber_b32 hrec_18 hf
      · refine v_iload_n (x := l3) dX4_putNumber_27 rfl 2 rfl ?_
        refine v_iconst (v := 1) dX4_putNumber_28 (by decide) ?_
        refine v_icmp_ne (tgt := 45) hf dX4_putNumber_29 (by decide) (fun hq hf => ?_) (fun hq hf => ?_)
        · refine v_sub [0, 1, 2] (L2 := [(0, va_rf (some l0)), (2, .int l2), (3, .int l3)]) rfl ?_
          exact t_X4_putNumber_b32 hrec_18 hf
        · refine v_sub [0, 1, 2] (L2 := [(0, va_rf (some l0)), (2, .int l2), (3, .int l3)]) rfl ?_
          exact t_X4_putNumber_b45 hrec_18 hf
def f_X4_putNumber_b10 (σ : TH) (l0 : Nat) (l1 : Int32) : Option (Unit × TH) :=
  lt_ (if 0 ≤ l1 then l1 else 0 - l1) fun x1 => f_X4_putNumber_b18 fu_ σ l0 x1 (1000000 : Int32)
set_option maxHeartbeats 4000000 in
set_option maxRecDepth 100000 in
theorem t_X4_putNumber_b10 {l : Launch} {D : va_G} {cy : Nat → ClassId} {ka : Nat → Nat} {σ0 z : TH} {r : Unit}  {σ : TH} {l0 : Nat} {l1 : Int32} (hf : f_X4_putNumber_b10 σ l0 l1 = some (r, z)) : v_ l D cy ka cX4_putNumber RX4 4 none "putNumber" 1 21 (qf_ D cy σ0 z none) σ0 z σ 10 [(0, va_rf (some l0)), (1, .int l1)] [] := by
  unfold f_X4_putNumber_b10 at hf
  refine v_iload_n (x := l1) dX4_putNumber_10 rfl 1 rfl ?_
  refine v_mabs kw_933 kw_16 (by decide) (by decide) (cat_len (Nat.le_of_ble_eq_true rfl)) dX4_putNumber_11 ?_
  obtain ⟨x1, ex1⟩ : ∃ y : Int32, y = if 0 ≤ l1 then l1 else 0 - l1 := ⟨_, rfl⟩
  rw [lt_e, ← ex1] at hf
  rw [← ex1]
  refine v_istore_n [(2, .int x1), (0, va_rf (some l0)), (1, .int l1)] dX4_putNumber_14 rfl (by decide) rfl ?_
  refine v_ldc (v := 1000000) kw_936 dX4_putNumber_15 ?_
  refine v_istore_n [(3, .int (1000000 : Int32)), (2, .int x1), (0, va_rf (some l0)), (1, .int l1)] dX4_putNumber_17 rfl (by decide) rfl ?_
  refine v_sub [2, 1, 0] (L2 := [(0, va_rf (some l0)), (2, .int x1), (3, .int (1000000 : Int32))]) rfl ?_
  exact t_X4_putNumber_b18  _ _ _ _ _ hf
/-- LivesAhead$Printer.putNumber(I)V -/
def f_X4_putNumber (σ : TH) (p0 : Nat) (p1 : Int32) : Option (Unit × TH) :=
  if 0 ≤ p1 then (f_X4_putNumber_b10 σ p0 p1) else (gt_ (kd_ σ p0 = 6) <| bd_ (f_X4_put σ p0 (45 : Int32)) fun x5 s6 => f_X4_putNumber_b10 s6 p0 p1)
set_option maxHeartbeats 4000000 in
set_option maxRecDepth 100000 in
theorem c_X4_putNumber {l : Launch} {D : va_G} {cy : Nat → ClassId} {ka : Nat → Nat} {σ z : TH} {p0 : Nat} {p1 : Int32} {r : Unit} (hf : f_X4_putNumber σ p0 p1 = some (r, z)) : ct_ l D cy ka yX4_putNumber 1 21 [va_rf (some p0), .int p1] σ none z := by
  unfold f_X4_putNumber at hf
  refine v_start (cc := cX4_putNumber) (own := RX4) (maxL := 4) (ret := none) (nm := "putNumber") (by decide +kernel) kw_932 rfl rfl (by simp [lg_sl, va_rf_cat, cat_i, cat_l]) ?_
  refine v_eqL (L2 := [(0, va_rf (some p0)), (1, .int p1)]) (by simp [lv_args, va_rf_cat, cat_i, cat_l]) ?_
  refine v_iload_n (x := p1) dX4_putNumber_0 rfl 1 rfl ?_
  refine v_if_ge (tgt := 10) hf dX4_putNumber_1 (by decide) (fun hq hf => ?_) (fun hq hf => ?_)
  · refine v_sub [0, 1] (L2 := [(0, va_rf (some p0)), (1, .int p1)]) rfl ?_
    exact t_X4_putNumber_b10  hf
  · refine v_aload_n (x := (some p0)) dX4_putNumber_4 rfl 0 rfl ?_
    refine v_bipush (v := 45) dX4_putNumber_5 (by decide) ?_
    obtain ⟨hk_p0, hf⟩ := gt_of hf
    obtain ⟨x5, s6, hcs6, hf⟩ := bd_of hf
    have hts6 := c_X4_put (l := l) (D := D) (cy := cy) (ka := ka) hcs6
    refine v_callV cb_5 hk_p0 (As := [.int (45 : Int32)]) (rest := []) hts6 yb_X4_put kw_917 kw_919 kp_49 rfl ⟨Nat.le_of_ble_eq_true rfl, Nat.le_of_ble_eq_true rfl⟩ rfl (cat_len (Nat.le_of_ble_eq_true rfl)) dX4_putNumber_7 ?_
    have hk_p0 := tk_ hts6.1 hk_p0
    show v_ l D cy ka cX4_putNumber RX4 4 none "putNumber" 1 21 (qf_ D cy σ z none) σ z _ 10 [(0, va_rf (some p0)), (1, .int p1)] []
    refine v_sub [0, 1] (L2 := [(0, va_rf (some p0)), (1, .int p1)]) rfl ?_
    exact t_X4_putNumber_b10  hf
theorem dX4_takeSum_0 : decode cX4_takeSum 0 = .ok (.aload_n 0, 1) := by decide +kernel
theorem dX4_takeSum_1 : decode cX4_takeSum 1 = .ok (.getfield 36, 3) := by decide +kernel
theorem dX4_takeSum_4 : decode cX4_takeSum 4 = .ok (.istore_n 1, 1) := by decide +kernel
theorem dX4_takeSum_5 : decode cX4_takeSum 5 = .ok (.aload_n 0, 1) := by decide +kernel
theorem dX4_takeSum_6 : decode cX4_takeSum 6 = .ok (.iconst 0, 1) := by decide +kernel
theorem dX4_takeSum_7 : decode cX4_takeSum 7 = .ok (.putfield 36, 3) := by decide +kernel
theorem dX4_takeSum_10 : decode cX4_takeSum 10 = .ok (.iload_n 1, 1) := by decide +kernel
theorem dX4_takeSum_11 : decode cX4_takeSum 11 = .ok (.ireturn, 1) := by decide +kernel
/-- LivesAhead$Printer.takeSum()I -/
def f_X4_takeSum (σ : TH) (p0 : Nat) : Option (Int32 × TH) :=
  gt_ (kd_ σ p0 = 6) <| lt_ (fi_ σ 507 p0) fun x1 => lt_ (si_ σ 507 p0 (0 : Int32)) fun s2 => some (x1, s2)
set_option maxHeartbeats 4000000 in
set_option maxRecDepth 100000 in
theorem c_X4_takeSum {l : Launch} {D : va_G} {cy : Nat → ClassId} {ka : Nat → Nat} {σ z : TH} {p0 : Nat} {r : Int32} (hf : f_X4_takeSum σ p0 = some (r, z)) : ct_ l D cy ka yX4_takeSum 0 0 [va_rf (some p0)] σ (some (.int r)) z := by
  unfold f_X4_takeSum at hf
  refine v_start (cc := cX4_takeSum) (own := RX4) (maxL := 2) (ret := (some FieldType.int)) (nm := "takeSum") (by decide +kernel) kw_928 rfl rfl (by simp [lg_sl, va_rf_cat, cat_i, cat_l]) ?_
  refine v_eqL (L2 := [(0, va_rf (some p0))]) (by simp [lv_args, va_rf_cat, cat_i, cat_l]) ?_
  refine v_aload_n (x := (some p0)) dX4_takeSum_0 rfl 0 rfl ?_
  obtain ⟨hk_p0, hf⟩ := gt_of hf
  refine v_geti cb_5 hk_p0 7 507 rfl (by decide) rfl (lk_n kw_156 rfl) hf dX4_takeSum_1 (fun x1 hf => ?_)
  refine v_istore_n [(1, .int x1), (0, va_rf (some p0))] dX4_takeSum_4 rfl (by decide) rfl ?_
  refine v_aload_n (x := (some p0)) dX4_takeSum_5 rfl 1 rfl ?_
  refine v_iconst (v := 0) dX4_takeSum_6 (by decide) ?_
  refine v_puti2 cb_5 hk_p0 7 507 rfl (by decide) rfl (lk_n kw_156 rfl) (Or.inl rfl) rfl rfl hf dX4_takeSum_7 (fun s2 hts2 hf => ?_)
  have hk_p0 := tk_ hts2 hk_p0
  refine v_iload_n (x := x1) dX4_takeSum_10 rfl 0 rfl ?_
  exact v_iret hf dX4_takeSum_11
theorem dX4_perform_0 : decode cX4_perform 0 = .ok (.iload_n 1, 1) := by decide +kernel
theorem dX4_perform_1 : decode cX4_perform 1 = .ok (.tableswitch 252 0 12 #[67, 75, 83, 106, 114, 125, 141, 160, 179, 202, 225, 236, 244], 67) := by decide +kernel
theorem dX4_perform_68 : decode cX4_perform 68 = .ok (.aload_n 0, 1) := by decide +kernel
theorem dX4_perform_69 : decode cX4_perform 69 = .ok (.iload_n 2, 1) := by decide +kernel
theorem dX4_perform_70 : decode cX4_perform 70 = .ok (.invokevirtual 68, 3) := by decide +kernel
theorem dX4_perform_73 : decode cX4_perform 73 = .ok (.goto 180, 3) := by decide +kernel
theorem dX4_perform_76 : decode cX4_perform 76 = .ok (.aload_n 0, 1) := by decide +kernel
theorem dX4_perform_77 : decode cX4_perform 77 = .ok (.iload_n 2, 1) := by decide +kernel
theorem dX4_perform_78 : decode cX4_perform 78 = .ok (.invokevirtual 72, 3) := by decide +kernel
theorem dX4_perform_81 : decode cX4_perform 81 = .ok (.goto 172, 3) := by decide +kernel
theorem dX4_perform_84 : decode cX4_perform 84 = .ok (.aload_n 0, 1) := by decide +kernel
theorem dX4_perform_85 : decode cX4_perform 85 = .ok (.iload_n 2, 1) := by decide +kernel
theorem dX4_perform_86 : decode cX4_perform 86 = .ok (.bipush 21, 2) := by decide +kernel
theorem dX4_perform_88 : decode cX4_perform 88 = .ok (.if_icmp .ge 12, 3) := by decide +kernel
theorem dX4_perform_91 : decode cX4_perform 91 = .ok (.aload_n 0, 1) := by decide +kernel
theorem dX4_perform_92 : decode cX4_perform 92 = .ok (.getfield 9, 3) := by decide +kernel
theorem dX4_perform_95 : decode cX4_perform 95 = .ok (.iload_n 2, 1) := by decide +kernel
theorem dX4_perform_96 : decode cX4_perform 96 = .ok (.iaload, 1) := by decide +kernel
theorem dX4_perform_97 : decode cX4_perform 97 = .ok (.goto 4, 3) := by decide +kernel
theorem dX4_perform_100 : decode cX4_perform 100 = .ok (.iconst 0, 1) := by decide +kernel
theorem dX4_perform_101 : decode cX4_perform 101 = .ok (.invokevirtual 72, 3) := by decide +kernel
theorem dX4_perform_104 : decode cX4_perform 104 = .ok (.goto 149, 3) := by decide +kernel
theorem dX4_perform_107 : decode cX4_perform 107 = .ok (.aload_n 0, 1) := by decide +kernel
theorem dX4_perform_108 : decode cX4_perform 108 = .ok (.iconst 1, 1) := by decide +kernel
theorem dX4_perform_109 : decode cX4_perform 109 = .ok (.putfield 39, 3) := by decide +kernel
theorem dX4_perform_112 : decode cX4_perform 112 = .ok (.goto 141, 3) := by decide +kernel
theorem dX4_perform_115 : decode cX4_perform 115 = .ok (.aload_n 0, 1) := by decide +kernel
theorem dX4_perform_116 : decode cX4_perform 116 = .ok (.aload_n 0, 1) := by decide +kernel
theorem dX4_perform_117 : decode cX4_perform 117 = .ok (.invokevirtual 75, 3) := by decide +kernel
theorem dX4_perform_120 : decode cX4_perform 120 = .ok (.invokevirtual 79, 3) := by decide +kernel
theorem dX4_perform_123 : decode cX4_perform 123 = .ok (.goto 130, 3) := by decide +kernel
theorem dX4_perform_126 : decode cX4_perform 126 = .ok (.aload_n 0, 1) := by decide +kernel
theorem dX4_perform_127 : decode cX4_perform 127 = .ok (.aload_n 0, 1) := by decide +kernel
theorem dX4_perform_128 : decode cX4_perform 128 = .ok (.invokevirtual 75, 3) := by decide +kernel
theorem dX4_perform_131 : decode cX4_perform 131 = .ok (.putfield 42, 3) := by decide +kernel
theorem dX4_perform_134 : decode cX4_perform 134 = .ok (.aload_n 0, 1) := by decide +kernel
theorem dX4_perform_135 : decode cX4_perform 135 = .ok (.iload_n 2, 1) := by decide +kernel
theorem dX4_perform_136 : decode cX4_perform 136 = .ok (.putfield 45, 3) := by decide +kernel
theorem dX4_perform_139 : decode cX4_perform 139 = .ok (.goto 114, 3) := by decide +kernel
theorem dX4_perform_142 : decode cX4_perform 142 = .ok (.aload_n 0, 1) := by decide +kernel
theorem dX4_perform_143 : decode cX4_perform 143 = .ok (.aload_n 0, 1) := by decide +kernel
theorem dX4_perform_144 : decode cX4_perform 144 = .ok (.aload_n 0, 1) := by decide +kernel
theorem dX4_perform_145 : decode cX4_perform 145 = .ok (.getfield 42, 3) := by decide +kernel
theorem dX4_perform_148 : decode cX4_perform 148 = .ok (.aload_n 0, 1) := by decide +kernel
theorem dX4_perform_149 : decode cX4_perform 149 = .ok (.invokevirtual 75, 3) := by decide +kernel
theorem dX4_perform_152 : decode cX4_perform 152 = .ok (.invokevirtual 82, 3) := by decide +kernel
theorem dX4_perform_155 : decode cX4_perform 155 = .ok (.invokevirtual 86, 3) := by decide +kernel
theorem dX4_perform_158 : decode cX4_perform 158 = .ok (.goto 95, 3) := by decide +kernel
theorem dX4_perform_161 : decode cX4_perform 161 = .ok (.aload_n 0, 1) := by decide +kernel
theorem dX4_perform_162 : decode cX4_perform 162 = .ok (.aload_n 0, 1) := by decide +kernel
theorem dX4_perform_163 : decode cX4_perform 163 = .ok (.getfield 48, 3) := by decide +kernel
theorem dX4_perform_166 : decode cX4_perform 166 = .ok (.ifCond .ne 7, 3) := by decide +kernel
theorem dX4_perform_169 : decode cX4_perform 169 = .ok (.iconst 1, 1) := by decide +kernel
theorem dX4_perform_170 : decode cX4_perform 170 = .ok (.goto 4, 3) := by decide +kernel
theorem dX4_perform_173 : decode cX4_perform 173 = .ok (.iconst 0, 1) := by decide +kernel
theorem dX4_perform_174 : decode cX4_perform 174 = .ok (.putfield 48, 3) := by decide +kernel
theorem dX4_perform_177 : decode cX4_perform 177 = .ok (.goto 76, 3) := by decide +kernel
theorem dX4_perform_180 : decode cX4_perform 180 = .ok (.aload_n 0, 1) := by decide +kernel
theorem dX4_perform_181 : decode cX4_perform 181 = .ok (.aload_n 0, 1) := by decide +kernel
theorem dX4_perform_182 : decode cX4_perform 182 = .ok (.getfield 19, 3) := by decide +kernel
theorem dX4_perform_185 : decode cX4_perform 185 = .ok (.iconst 1, 1) := by decide +kernel
theorem dX4_perform_186 : decode cX4_perform 186 = .ok (.iload_n 2, 1) := by decide +kernel
theorem dX4_perform_187 : decode cX4_perform 187 = .ok (.ishl, 1) := by decide +kernel
theorem dX4_perform_188 : decode cX4_perform 188 = .ok (.iand, 1) := by decide +kernel
theorem dX4_perform_189 : decode cX4_perform 189 = .ok (.ifCond .eq 7, 3) := by decide +kernel
theorem dX4_perform_192 : decode cX4_perform 192 = .ok (.iconst 1, 1) := by decide +kernel
theorem dX4_perform_193 : decode cX4_perform 193 = .ok (.goto 4, 3) := by decide +kernel
theorem dX4_perform_196 : decode cX4_perform 196 = .ok (.iconst 0, 1) := by decide +kernel
theorem dX4_perform_197 : decode cX4_perform 197 = .ok (.invokevirtual 86, 3) := by decide +kernel
theorem dX4_perform_200 : decode cX4_perform 200 = .ok (.goto 53, 3) := by decide +kernel
theorem dX4_perform_203 : decode cX4_perform 203 = .ok (.aload_n 0, 1) := by decide +kernel
theorem dX4_perform_204 : decode cX4_perform 204 = .ok (.aload_n 0, 1) := by decide +kernel
theorem dX4_perform_205 : decode cX4_perform 205 = .ok (.getfield 23, 3) := by decide +kernel
theorem dX4_perform_208 : decode cX4_perform 208 = .ok (.iconst 1, 1) := by decide +kernel
theorem dX4_perform_209 : decode cX4_perform 209 = .ok (.iload_n 2, 1) := by decide +kernel
theorem dX4_perform_210 : decode cX4_perform 210 = .ok (.ishl, 1) := by decide +kernel
theorem dX4_perform_211 : decode cX4_perform 211 = .ok (.iand, 1) := by decide +kernel
theorem dX4_perform_212 : decode cX4_perform 212 = .ok (.ifCond .eq 7, 3) := by decide +kernel
theorem dX4_perform_215 : decode cX4_perform 215 = .ok (.iconst 1, 1) := by decide +kernel
theorem dX4_perform_216 : decode cX4_perform 216 = .ok (.goto 4, 3) := by decide +kernel
theorem dX4_perform_219 : decode cX4_perform 219 = .ok (.iconst 0, 1) := by decide +kernel
theorem dX4_perform_220 : decode cX4_perform 220 = .ok (.invokevirtual 86, 3) := by decide +kernel
theorem dX4_perform_223 : decode cX4_perform 223 = .ok (.goto 30, 3) := by decide +kernel
theorem dX4_perform_226 : decode cX4_perform 226 = .ok (.aload_n 0, 1) := by decide +kernel
theorem dX4_perform_227 : decode cX4_perform 227 = .ok (.aload_n 0, 1) := by decide +kernel
theorem dX4_perform_228 : decode cX4_perform 228 = .ok (.getfield 26, 3) := by decide +kernel
theorem dX4_perform_231 : decode cX4_perform 231 = .ok (.invokevirtual 86, 3) := by decide +kernel
theorem dX4_perform_234 : decode cX4_perform 234 = .ok (.goto 19, 3) := by decide +kernel
theorem dX4_perform_237 : decode cX4_perform 237 = .ok (.aload_n 0, 1) := by decide +kernel
theorem dX4_perform_238 : decode cX4_perform 238 = .ok (.iconst 0, 1) := by decide +kernel
theorem dX4_perform_239 : decode cX4_perform 239 = .ok (.putfield 51, 3) := by decide +kernel
theorem dX4_perform_242 : decode cX4_perform 242 = .ok (.goto 11, 3) := by decide +kernel
theorem dX4_perform_245 : decode cX4_perform 245 = .ok (.aload_n 0, 1) := by decide +kernel
theorem dX4_perform_246 : decode cX4_perform 246 = .ok (.iload_n 2, 1) := by decide +kernel
theorem dX4_perform_247 : decode cX4_perform 247 = .ok (.putfield 51, 3) := by decide +kernel
theorem dX4_perform_250 : decode cX4_perform 250 = .ok (.goto 3, 3) := by decide +kernel
theorem dX4_perform_253 : decode cX4_perform 253 = .ok (.return_, 1) := by decide +kernel
def f_X4_perform_b253 (σ : TH) : Option (Unit × TH) :=
  some ((), σ)
set_option maxHeartbeats 4000000 in
set_option maxRecDepth 100000 in
theorem t_X4_perform_b253 {l : Launch} {D : va_G} {cy : Nat → ClassId} {ka : Nat → Nat} {σ0 z : TH} {r : Unit}  {σ : TH}  (hf : f_X4_perform_b253 σ  = some (r, z)) : v_ l D cy ka cX4_perform RX4 3 none "perform" 2 44 (qf_ D cy σ0 z none) σ0 z σ 253 [] [] := by
  unfold f_X4_perform_b253 at hf
  exact v_vret hf dX4_perform_253
def f_X4_perform_b101 (σ : TH) (t0 : Int32) (t1 : Option Nat) : Option (Unit × TH) :=
  nn_ t1 fun a5 => gt_ (kd_ σ a5 = 6) <| bd_ (f_X4_add σ a5 t0) fun x6 s7 => f_X4_perform_b253 s7 
set_option maxHeartbeats 4000000 in
set_option maxRecDepth 100000 in
theorem t_X4_perform_b101 {l : Launch} {D : va_G} {cy : Nat → ClassId} {ka : Nat → Nat} {σ0 z : TH} {r : Unit}  {σ : TH} {t0 : Int32} {t1 : Option Nat} (hf : f_X4_perform_b101 σ t0 t1 = some (r, z)) : v_ l D cy ka cX4_perform RX4 3 none "perform" 2 44 (qf_ D cy σ0 z none) σ0 z σ 101 [] [.int t0, va_rf t1] := by
  unfold f_X4_perform_b101 at hf
  obtain ⟨a5, rfl, hf⟩ := nn_of hf
  obtain ⟨hk_a5, hf⟩ := gt_of hf
  obtain ⟨x6, s7, hcs7, hf⟩ := bd_of hf
  have hts7 := c_X4_add (l := l) (D := D) (cy := cy) (ka := ka) hcs7
  refine v_callV cb_5 hk_a5 (As := [.int t0]) (rest := []) hts7 yb_X4_add kw_921 kw_923 kp_50 rfl ⟨Nat.le_of_ble_eq_true rfl, Nat.le_of_ble_eq_true rfl⟩ rfl (cat_len (Nat.le_of_ble_eq_true rfl)) dX4_perform_101 ?_
  show v_ l D cy ka cX4_perform RX4 3 none "perform" 2 44 (qf_ D cy σ0 z none) σ0 z _ 104 [] []
  refine v_goto (tgt := 253) dX4_perform_104 (by decide) ?_
  refine v_sub [] (L2 := []) rfl ?_
  exact t_X4_perform_b253  hf
def f_X4_perform_b174 (σ : TH) (t0 : Int32) (t1 : Option Nat) : Option (Unit × TH) :=
  nn_ t1 fun a28 => gt_ (kd_ σ a28 = 6) <| gt_ (t0 = 0 ∨ t0 = 1) <| lt_ (si_ σ 511 a28 t0) fun s29 => f_X4_perform_b253 s29 
set_option maxHeartbeats 4000000 in
set_option maxRecDepth 100000 in
theorem t_X4_perform_b174 {l : Launch} {D : va_G} {cy : Nat → ClassId} {ka : Nat → Nat} {σ0 z : TH} {r : Unit}  {σ : TH} {t0 : Int32} {t1 : Option Nat} (hf : f_X4_perform_b174 σ t0 t1 = some (r, z)) : v_ l D cy ka cX4_perform RX4 3 none "perform" 2 44 (qf_ D cy σ0 z none) σ0 z σ 174 [] [.int t0, va_rf t1] := by
  unfold f_X4_perform_b174 at hf
  obtain ⟨a28, rfl, hf⟩ := nn_of hf
  obtain ⟨hk_a28, hf⟩ := gt_of hf
  obtain ⟨hbs29, hf⟩ := gt_of hf
  refine v_puti2 cb_5 hk_a28 11 511 rfl (by decide) rfl (lk_n kw_160 rfl) (Or.inl rfl) (nz_ hbs29) (fz_ hbs29) hf dX4_perform_174 (fun s29 hts29 hf => ?_)
  refine v_goto (tgt := 253) dX4_perform_177 (by decide) ?_
  refine v_sub [] (L2 := []) rfl ?_
  exact t_X4_perform_b253  hf
def f_X4_perform_b197 (σ : TH) (t0 : Int32) (t1 : Option Nat) : Option (Unit × TH) :=
  nn_ t1 fun a31 => gt_ (kd_ σ a31 = 6) <| bd_ (f_X4_decide σ a31 t0) fun x32 s33 => f_X4_perform_b253 s33 
set_option maxHeartbeats 4000000 in
set_option maxRecDepth 100000 in
theorem t_X4_perform_b197 {l : Launch} {D : va_G} {cy : Nat → ClassId} {ka : Nat → Nat} {σ0 z : TH} {r : Unit}  {σ : TH} {t0 : Int32} {t1 : Option Nat} (hf : f_X4_perform_b197 σ t0 t1 = some (r, z)) : v_ l D cy ka cX4_perform RX4 3 none "perform" 2 44 (qf_ D cy σ0 z none) σ0 z σ 197 [] [.int t0, va_rf t1] := by
  unfold f_X4_perform_b197 at hf
  obtain ⟨a31, rfl, hf⟩ := nn_of hf
  obtain ⟨hk_a31, hf⟩ := gt_of hf
  obtain ⟨x32, s33, hcs33, hf⟩ := bd_of hf
  have hts33 := c_X4_decide (l := l) (D := D) (cy := cy) (ka := ka) hcs33
  refine v_callV cb_5 hk_a31 (As := [.int t0]) (rest := []) hts33 yb_X4_decide kw_941 kw_943 kp_54 rfl ⟨Nat.le_of_ble_eq_true rfl, Nat.le_of_ble_eq_true rfl⟩ rfl (cat_len (Nat.le_of_ble_eq_true rfl)) dX4_perform_197 ?_
  show v_ l D cy ka cX4_perform RX4 3 none "perform" 2 44 (qf_ D cy σ0 z none) σ0 z _ 200 [] []
  refine v_goto (tgt := 253) dX4_perform_200 (by decide) ?_
  refine v_sub [] (L2 := []) rfl ?_
  exact t_X4_perform_b253  hf
def f_X4_perform_b220 (σ : TH) (t0 : Int32) (t1 : Option Nat) : Option (Unit × TH) :=
  nn_ t1 fun a35 => gt_ (kd_ σ a35 = 6) <| bd_ (f_X4_decide σ a35 t0) fun x36 s37 => f_X4_perform_b253 s37 
set_option maxHeartbeats 4000000 in
set_option maxRecDepth 100000 in
theorem t_X4_perform_b220 {l : Launch} {D : va_G} {cy : Nat → ClassId} {ka : Nat → Nat} {σ0 z : TH} {r : Unit}  {σ : TH} {t0 : Int32} {t1 : Option Nat} (hf : f_X4_perform_b220 σ t0 t1 = some (r, z)) : v_ l D cy ka cX4_perform RX4 3 none "perform" 2 44 (qf_ D cy σ0 z none) σ0 z σ 220 [] [.int t0, va_rf t1] := by
  unfold f_X4_perform_b220 at hf
  obtain ⟨a35, rfl, hf⟩ := nn_of hf
  obtain ⟨hk_a35, hf⟩ := gt_of hf
  obtain ⟨x36, s37, hcs37, hf⟩ := bd_of hf
  have hts37 := c_X4_decide (l := l) (D := D) (cy := cy) (ka := ka) hcs37
  refine v_callV cb_5 hk_a35 (As := [.int t0]) (rest := []) hts37 yb_X4_decide kw_941 kw_943 kp_54 rfl ⟨Nat.le_of_ble_eq_true rfl, Nat.le_of_ble_eq_true rfl⟩ rfl (cat_len (Nat.le_of_ble_eq_true rfl)) dX4_perform_220 ?_
  show v_ l D cy ka cX4_perform RX4 3 none "perform" 2 44 (qf_ D cy σ0 z none) σ0 z _ 223 [] []
  refine v_goto (tgt := 253) dX4_perform_223 (by decide) ?_
  refine v_sub [] (L2 := []) rfl ?_
  exact t_X4_perform_b253  hf
/-- LivesAhead$Printer.perform(II)V -/
def f_X4_perform (σ : TH) (p0 : Nat) (p1 : Int32) (p2 : Int32) : Option (Unit × TH) :=
  if p1 = 0 then (gt_ (kd_ σ p0 = 6) <| bd_ (f_X4_put σ p0 p2) fun x1 s2 => f_X4_perform_b253 s2 ) else if p1 = 1 then (gt_ (kd_ σ p0 = 6) <| bd_ (f_X4_add σ p0 p2) fun x3 s4 => f_X4_perform_b253 s4 ) else if p1 = 2 then (if (21 : Int32) ≤ p2 then (f_X4_perform_b101 σ (0 : Int32) (some p0)) else (gt_ (kd_ σ p0 = 6) <| lt_ (fr_ σ 500 p0) fun r8 => nn_ r8 fun a9 => gt_ (kd_ σ a9 = 20) <| gt_ (¬ (p2 < 0 ∨ ln_ σ a9 ≤ p2.toNatClampNeg)) <| lt_ (ai_ σ a9 p2.toNatClampNeg) fun x10 => f_X4_perform_b101 σ x10 (some p0))) else if p1 = 3 then (gt_ (kd_ σ p0 = 6) <| lt_ (si_ σ 508 p0 (1 : Int32)) fun s11 => f_X4_perform_b253 s11 ) else if p1 = 4 then (gt_ (kd_ σ p0 = 6) <| bd_ (f_X4_takeSum σ p0) fun x12 s13 => bd_ (f_X4_putNumber s13 p0 x12) fun x14 s15 => f_X4_perform_b253 s15 ) else if p1 = 5 then (gt_ (kd_ σ p0 = 6) <| bd_ (f_X4_takeSum σ p0) fun x16 s17 => lt_ (si_ s17 509 p0 x16) fun s18 => lt_ (si_ s18 510 p0 p2) fun s19 => f_X4_perform_b253 s19 ) else if p1 = 6 then (gt_ (kd_ σ p0 = 6) <| lt_ (fi_ σ 509 p0) fun x20 => bd_ (f_X4_takeSum σ p0) fun x21 s22 => bd_ (f_X4_compares s22 p0 x20 x21) fun x23 s24 => bd_ (f_X4_decide s24 p0 x23) fun x25 s26 => f_X4_perform_b253 s26 ) else if p1 = 7 then (gt_ (kd_ σ p0 = 6) <| lt_ (fi_ σ 511 p0) fun x27 => if x27 = 0 then (f_X4_perform_b174 σ (1 : Int32) (some p0)) else (f_X4_perform_b174 σ (0 : Int32) (some p0))) else if p1 = 8 then (gt_ (kd_ σ p0 = 6) <| lt_ (fi_ σ 502 p0) fun x30 => if (x30 &&& ((1 : Int32) <<< (p2 &&& 31))) = 0 then (f_X4_perform_b197 σ (0 : Int32) (some p0)) else (f_X4_perform_b197 σ (1 : Int32) (some p0))) else if p1 = 9 then (gt_ (kd_ σ p0 = 6) <| lt_ (fi_ σ 503 p0) fun x34 => if (x34 &&& ((1 : Int32) <<< (p2 &&& 31))) = 0 then (f_X4_perform_b220 σ (0 : Int32) (some p0)) else (f_X4_perform_b220 σ (1 : Int32) (some p0))) else if p1 = 10 then (gt_ (kd_ σ p0 = 6) <| lt_ (fi_ σ 504 p0) fun x38 => bd_ (f_X4_decide σ p0 x38) fun x39 s40 => f_X4_perform_b253 s40 ) else if p1 = 11 then (gt_ (kd_ σ p0 = 6) <| lt_ (si_ σ 512 p0 (0 : Int32)) fun s41 => f_X4_perform_b253 s41 ) else if p1 = 12 then (gt_ (kd_ σ p0 = 6) <| lt_ (si_ σ 512 p0 p2) fun s42 => f_X4_perform_b253 s42 ) else (f_X4_perform_b253 σ )
set_option maxHeartbeats 4000000 in
set_option maxRecDepth 100000 in
theorem c_X4_perform {l : Launch} {D : va_G} {cy : Nat → ClassId} {ka : Nat → Nat} {σ z : TH} {p0 : Nat} {p1 : Int32} {p2 : Int32} {r : Unit} (hf : f_X4_perform σ p0 p1 p2 = some (r, z)) : ct_ l D cy ka yX4_perform 2 44 [va_rf (some p0), .int p1, .int p2] σ none z := by
  unfold f_X4_perform at hf
  refine v_start (cc := cX4_perform) (own := RX4) (maxL := 3) (ret := none) (nm := "perform") (by decide +kernel) kw_916 rfl rfl (by simp [lg_sl, va_rf_cat, cat_i, cat_l]) ?_
  refine v_eqL (L2 := [(0, va_rf (some p0)), (1, .int p1), (2, .int p2)]) (by simp [lv_args, va_rf_cat, cat_i, cat_l]) ?_
  refine v_iload_n (x := p1) dX4_perform_0 rfl 1 rfl ?_
  by_cases hq0 : p1 = 0
  · rw [if_pos hq0] at hf
    refine v_tswIn (tgt := 68) (c9 := 0) hq0 dX4_perform_1 (by decide) (by decide) rfl (by decide) ?_
    refine v_aload_n (x := (some p0)) dX4_perform_68 rfl 0 rfl ?_
    refine v_iload_n (x := p2) dX4_perform_69 rfl 2 rfl ?_
    obtain ⟨hk_p0, hf⟩ := gt_of hf
    obtain ⟨x1, s2, hcs2, hf⟩ := bd_of hf
    have hts2 := c_X4_put (l := l) (D := D) (cy := cy) (ka := ka) hcs2
    refine v_callV cb_5 hk_p0 (As := [.int p2]) (rest := []) hts2 yb_X4_put kw_917 kw_919 kp_49 rfl ⟨Nat.le_of_ble_eq_true rfl, Nat.le_of_ble_eq_true rfl⟩ rfl (cat_len (Nat.le_of_ble_eq_true rfl)) dX4_perform_70 ?_
    have hk_p0 := tk_ hts2.1 hk_p0
    show v_ l D cy ka cX4_perform RX4 3 none "perform" 2 44 (qf_ D cy σ z none) σ z _ 73 [(0, va_rf (some p0)), (1, .int p1), (2, .int p2)] []
    refine v_goto (tgt := 253) dX4_perform_73 (by decide) ?_
    refine v_sub [] (L2 := []) rfl ?_
    exact t_X4_perform_b253  hf
  rw [if_neg hq0] at hf
  by_cases hq1 : p1 = 1
  · rw [if_pos hq1] at hf
    refine v_tswIn (tgt := 76) (c9 := 1) hq1 dX4_perform_1 (by decide) (by decide) rfl (by decide) ?_
    refine v_aload_n (x := (some p0)) dX4_perform_76 rfl 0 rfl ?_
    refine v_iload_n (x := p2) dX4_perform_77 rfl 2 rfl ?_
    obtain ⟨hk_p0, hf⟩ := gt_of hf
    obtain ⟨x3, s4, hcs4, hf⟩ := bd_of hf
    have hts4 := c_X4_add (l := l) (D := D) (cy := cy) (ka := ka) hcs4
    refine v_callV cb_5 hk_p0 (As := [.int p2]) (rest := []) hts4 yb_X4_add kw_921 kw_923 kp_50 rfl ⟨Nat.le_of_ble_eq_true rfl, Nat.le_of_ble_eq_true rfl⟩ rfl (cat_len (Nat.le_of_ble_eq_true rfl)) dX4_perform_78 ?_
    have hk_p0 := tk_ hts4.1 hk_p0
    show v_ l D cy ka cX4_perform RX4 3 none "perform" 2 44 (qf_ D cy σ z none) σ z _ 81 [(0, va_rf (some p0)), (1, .int p1), (2, .int p2)] []
    refine v_goto (tgt := 253) dX4_perform_81 (by decide) ?_
    refine v_sub [] (L2 := []) rfl ?_
    exact t_X4_perform_b253  hf
  rw [if_neg hq1] at hf
  by_cases hq2 : p1 = 2
  · rw [if_pos hq2] at hf
    refine v_tswIn (tgt := 84) (c9 := 2) hq2 dX4_perform_1 (by decide) (by decide) rfl (by decide) ?_
    refine v_aload_n (x := (some p0)) dX4_perform_84 rfl 0 rfl ?_
    refine v_iload_n (x := p2) dX4_perform_85 rfl 2 rfl ?_
    refine v_bipush (v := 21) dX4_perform_86 (by decide) ?_
    refine v_icmp_ge (tgt := 100) hf dX4_perform_88 (by decide) (fun hq hf => ?_) (fun hq hf => ?_)
    · refine v_iconst (v := 0) dX4_perform_100 (by decide) ?_
      refine v_sub [] (L2 := []) rfl ?_
      exact t_X4_perform_b101  hf
    · refine v_aload_n (x := (some p0)) dX4_perform_91 rfl 0 rfl ?_
      obtain ⟨hk_p0, hf⟩ := gt_of hf
      refine v_getr cb_5 hk_p0 0 500 rfl (by decide) rfl (lk_n kw_143 rfl) hf dX4_perform_92 (fun r8 hf => ?_)
      refine v_iload_n (x := p2) dX4_perform_95 rfl 2 rfl ?_
      obtain ⟨a9, rfl, hf⟩ := nn_of hf
      obtain ⟨hk_a9, hf⟩ := gt_of hf
      refine v_iald hk_a9 hf dX4_perform_96 (fun x10 hf => ?_)
      refine v_goto (tgt := 101) dX4_perform_97 (by decide) ?_
      refine v_sub [] (L2 := []) rfl ?_
      exact t_X4_perform_b101  hf
  rw [if_neg hq2] at hf
  by_cases hq3 : p1 = 3
  · rw [if_pos hq3] at hf
    refine v_tswIn (tgt := 107) (c9 := 3) hq3 dX4_perform_1 (by decide) (by decide) rfl (by decide) ?_
    refine v_aload_n (x := (some p0)) dX4_perform_107 rfl 0 rfl ?_
    refine v_iconst (v := 1) dX4_perform_108 (by decide) ?_
    obtain ⟨hk_p0, hf⟩ := gt_of hf
    refine v_puti2 cb_5 hk_p0 8 508 rfl (by decide) rfl (lk_n kw_157 rfl) (Or.inl rfl) rfl rfl hf dX4_perform_109 (fun s11 hts11 hf => ?_)
    have hk_p0 := tk_ hts11 hk_p0
    refine v_goto (tgt := 253) dX4_perform_112 (by decide) ?_
    refine v_sub [] (L2 := []) rfl ?_
    exact t_X4_perform_b253  hf
  rw [if_neg hq3] at hf
  by_cases hq4 : p1 = 4
  · rw [if_pos hq4] at hf
    refine v_tswIn (tgt := 115) (c9 := 4) hq4 dX4_perform_1 (by decide) (by decide) rfl (by decide) ?_
    refine v_aload_n (x := (some p0)) dX4_perform_115 rfl 0 rfl ?_
    refine v_aload_n (x := (some p0)) dX4_perform_116 rfl 0 rfl ?_
    obtain ⟨hk_p0, hf⟩ := gt_of hf
    obtain ⟨x12, s13, hcs13, hf⟩ := bd_of hf
    have hts13 := c_X4_takeSum (l := l) (D := D) (cy := cy) (ka := ka) hcs13
    refine v_callV cb_5 hk_p0 (As := []) (rest := [va_rf (some p0)]) hts13 yb_X4_takeSum kw_925 kw_927 kp_51 rfl ⟨Nat.le_of_ble_eq_true rfl, Nat.le_of_ble_eq_true rfl⟩ rfl (cat_len (Nat.le_of_ble_eq_true rfl)) dX4_perform_117 ?_
    have hk_p0 := tk_ hts13.1 hk_p0
    show v_ l D cy ka cX4_perform RX4 3 none "perform" 2 44 (qf_ D cy σ z none) σ z _ 120 [(0, va_rf (some p0)), (1, .int p1), (2, .int p2)] [.int x12, va_rf (some p0)]
    obtain ⟨x14, s15, hcs15, hf⟩ := bd_of hf
    have hts15 := c_X4_putNumber (l := l) (D := D) (cy := cy) (ka := ka) hcs15
    refine v_callV cb_5 hk_p0 (As := [.int x12]) (rest := []) hts15 yb_X4_putNumber kw_929 kw_931 kp_52 rfl ⟨Nat.le_of_ble_eq_true rfl, Nat.le_of_ble_eq_true rfl⟩ rfl (cat_len (Nat.le_of_ble_eq_true rfl)) dX4_perform_120 ?_
    have hk_p0 := tk_ hts15.1 hk_p0
    show v_ l D cy ka cX4_perform RX4 3 none "perform" 2 44 (qf_ D cy σ z none) σ z _ 123 [(0, va_rf (some p0)), (1, .int p1), (2, .int p2)] []
    refine v_goto (tgt := 253) dX4_perform_123 (by decide) ?_
    refine v_sub [] (L2 := []) rfl ?_
    exact t_X4_perform_b253  hf
  rw [if_neg hq4] at hf
  by_cases hq5 : p1 = 5
  · rw [if_pos hq5] at hf
    refine v_tswIn (tgt := 126) (c9 := 5) hq5 dX4_perform_1 (by decide) (by decide) rfl (by decide) ?_
    refine v_aload_n (x := (some p0)) dX4_perform_126 rfl 0 rfl ?_
    refine v_aload_n (x := (some p0)) dX4_perform_127 rfl 0 rfl ?_
    obtain ⟨hk_p0, hf⟩ := gt_of hf
    obtain ⟨x16, s17, hcs17, hf⟩ := bd_of hf
    have hts17 := c_X4_takeSum (l := l) (D := D) (cy := cy) (ka := ka) hcs17
    refine v_callV cb_5 hk_p0 (As := []) (rest := [va_rf (some p0)]) hts17 yb_X4_takeSum kw_925 kw_927 kp_51 rfl ⟨Nat.le_of_ble_eq_true rfl, Nat.le_of_ble_eq_true rfl⟩ rfl (cat_len (Nat.le_of_ble_eq_true rfl)) dX4_perform_128 ?_
    have hk_p0 := tk_ hts17.1 hk_p0
    show v_ l D cy ka cX4_perform RX4 3 none "perform" 2 44 (qf_ D cy σ z none) σ z _ 131 [(0, va_rf (some p0)), (1, .int p1), (2, .int p2)] [.int x16, va_rf (some p0)]
    refine v_puti2 cb_5 hk_p0 9 509 rfl (by decide) rfl (lk_n kw_158 rfl) (Or.inl rfl) rfl rfl hf dX4_perform_131 (fun s18 hts18 hf => ?_)
    have hk_p0 := tk_ hts18 hk_p0
    refine v_aload_n (x := (some p0)) dX4_perform_134 rfl 0 rfl ?_
    refine v_iload_n (x := p2) dX4_perform_135 rfl 2 rfl ?_
    refine v_puti2 cb_5 hk_p0 10 510 rfl (by decide) rfl (lk_n kw_159 rfl) (Or.inl rfl) rfl rfl hf dX4_perform_136 (fun s19 hts19 hf => ?_)
    have hk_p0 := tk_ hts19 hk_p0
    refine v_goto (tgt := 253) dX4_perform_139 (by decide) ?_
    refine v_sub [] (L2 := []) rfl ?_
    exact t_X4_perform_b253  hf
  rw [if_neg hq5] at hf
  by_cases hq6 : p1 = 6
  · rw [if_pos hq6] at hf
    refine v_tswIn (tgt := 142) (c9 := 6) hq6 dX4_perform_1 (by decide) (by decide) rfl (by decide) ?_
    refine v_aload_n (x := (some p0)) dX4_perform_142 rfl 0 rfl ?_
    refine v_aload_n (x := (some p0)) dX4_perform_143 rfl 0 rfl ?_
    refine v_aload_n (x := (some p0)) dX4_perform_144 rfl 0 rfl ?_
    obtain ⟨hk_p0, hf⟩ := gt_of hf
    refine v_geti cb_5 hk_p0 9 509 rfl (by decide) rfl (lk_n kw_158 rfl) hf dX4_perform_145 (fun x20 hf => ?_)
    refine v_aload_n (x := (some p0)) dX4_perform_148 rfl 0 rfl ?_
    obtain ⟨x21, s22, hcs22, hf⟩ := bd_of hf
    have hts22 := c_X4_takeSum (l := l) (D := D) (cy := cy) (ka := ka) hcs22
    refine v_callV cb_5 hk_p0 (As := []) (rest := [.int x20, va_rf (some p0), va_rf (some p0)]) hts22 yb_X4_takeSum kw_925 kw_927 kp_51 rfl ⟨Nat.le_of_ble_eq_true rfl, Nat.le_of_ble_eq_true rfl⟩ rfl (cat_len (Nat.le_of_ble_eq_true rfl)) dX4_perform_149 ?_
    have hk_p0 := tk_ hts22.1 hk_p0
    show v_ l D cy ka cX4_perform RX4 3 none "perform" 2 44 (qf_ D cy σ z none) σ z _ 152 [(0, va_rf (some p0)), (1, .int p1), (2, .int p2)] [.int x21, .int x20, va_rf (some p0), va_rf (some p0)]
    obtain ⟨x23, s24, hcs24, hf⟩ := bd_of hf
    have hts24 := c_X4_compares (l := l) (D := D) (cy := cy) (ka := ka) hcs24
    refine v_callV cb_5 hk_p0 (As := [.int x20, .int x21]) (rest := [va_rf (some p0)]) hts24 yb_X4_compares kw_937 kw_939 kp_53 rfl ⟨Nat.le_of_ble_eq_true rfl, Nat.le_of_ble_eq_true rfl⟩ rfl (cat_len (Nat.le_of_ble_eq_true rfl)) dX4_perform_152 ?_
    have hk_p0 := tk_ hts24.1 hk_p0
    show v_ l D cy ka cX4_perform RX4 3 none "perform" 2 44 (qf_ D cy σ z none) σ z _ 155 [(0, va_rf (some p0)), (1, .int p1), (2, .int p2)] [.int x23, va_rf (some p0)]
    obtain ⟨x25, s26, hcs26, hf⟩ := bd_of hf
    have hts26 := c_X4_decide (l := l) (D := D) (cy := cy) (ka := ka) hcs26
    refine v_callV cb_5 hk_p0 (As := [.int x23]) (rest := []) hts26 yb_X4_decide kw_941 kw_943 kp_54 rfl ⟨Nat.le_of_ble_eq_true rfl, Nat.le_of_ble_eq_true rfl⟩ rfl (cat_len (Nat.le_of_ble_eq_true rfl)) dX4_perform_155 ?_
    have hk_p0 := tk_ hts26.1 hk_p0
    show v_ l D cy ka cX4_perform RX4 3 none "perform" 2 44 (qf_ D cy σ z none) σ z _ 158 [(0, va_rf (some p0)), (1, .int p1), (2, .int p2)] []
    refine v_goto (tgt := 253) dX4_perform_158 (by decide) ?_
    refine v_sub [] (L2 := []) rfl ?_
    exact t_X4_perform_b253  hf
  rw [if_neg hq6] at hf
  by_cases hq7 : p1 = 7
  · rw [if_pos hq7] at hf
    refine v_tswIn (tgt := 161) (c9 := 7) hq7 dX4_perform_1 (by decide) (by decide) rfl (by decide) ?_
    refine v_aload_n (x := (some p0)) dX4_perform_161 rfl 0 rfl ?_
    refine v_aload_n (x := (some p0)) dX4_perform_162 rfl 0 rfl ?_
    obtain ⟨hk_p0, hf⟩ := gt_of hf
    refine v_geti cb_5 hk_p0 11 511 rfl (by decide) rfl (lk_n kw_160 rfl) hf dX4_perform_163 (fun x27 hf => ?_)
    refine v_if_ne (tgt := 173) hf dX4_perform_166 (by decide) (fun hq hf => ?_) (fun hq hf => ?_)
    · refine v_iconst (v := 1) dX4_perform_169 (by decide) ?_
      refine v_goto (tgt := 174) dX4_perform_170 (by decide) ?_
      refine v_sub [] (L2 := []) rfl ?_
      exact t_X4_perform_b174  hf
    · refine v_iconst (v := 0) dX4_perform_173 (by decide) ?_
      refine v_sub [] (L2 := []) rfl ?_
      exact t_X4_perform_b174  hf
  rw [if_neg hq7] at hf
  by_cases hq8 : p1 = 8
  · rw [if_pos hq8] at hf
    refine v_tswIn (tgt := 180) (c9 := 8) hq8 dX4_perform_1 (by decide) (by decide) rfl (by decide) ?_
    refine v_aload_n (x := (some p0)) dX4_perform_180 rfl 0 rfl ?_
    refine v_aload_n (x := (some p0)) dX4_perform_181 rfl 0 rfl ?_
    obtain ⟨hk_p0, hf⟩ := gt_of hf
    refine v_geti cb_5 hk_p0 2 502 rfl (by decide) rfl (lk_n kw_147 rfl) hf dX4_perform_182 (fun x30 hf => ?_)
    refine v_iconst (v := 1) dX4_perform_185 (by decide) ?_
    refine v_iload_n (x := p2) dX4_perform_186 rfl 2 rfl ?_
    refine v_ishl dX4_perform_187 ?_
    refine v_iand dX4_perform_188 ?_
    refine v_if_eq (tgt := 196) hf dX4_perform_189 (by decide) (fun hq hf => ?_) (fun hq hf => ?_)
    · refine v_iconst (v := 0) dX4_perform_196 (by decide) ?_
      refine v_sub [] (L2 := []) rfl ?_
      exact t_X4_perform_b197  hf
    · refine v_iconst (v := 1) dX4_perform_192 (by decide) ?_
      refine v_goto (tgt := 197) dX4_perform_193 (by decide) ?_
      refine v_sub [] (L2 := []) rfl ?_
      exact t_X4_perform_b197  hf
  rw [if_neg hq8] at hf
  by_cases hq9 : p1 = 9
  · rw [if_pos hq9] at hf
    refine v_tswIn (tgt := 203) (c9 := 9) hq9 dX4_perform_1 (by decide) (by decide) rfl (by decide) ?_
    refine v_aload_n (x := (some p0)) dX4_perform_203 rfl 0 rfl ?_
    refine v_aload_n (x := (some p0)) dX4_perform_204 rfl 0 rfl ?_
    obtain ⟨hk_p0, hf⟩ := gt_of hf
    refine v_geti cb_5 hk_p0 3 503 rfl (by decide) rfl (lk_n kw_149 rfl) hf dX4_perform_205 (fun x34 hf => ?_)
    refine v_iconst (v := 1) dX4_perform_208 (by decide) ?_
    refine v_iload_n (x := p2) dX4_perform_209 rfl 2 rfl ?_
    refine v_ishl dX4_perform_210 ?_
    refine v_iand dX4_perform_211 ?_
    refine v_if_eq (tgt := 219) hf dX4_perform_212 (by decide) (fun hq hf => ?_) (fun hq hf => ?_)
    · refine v_iconst (v := 0) dX4_perform_219 (by decide) ?_
      refine v_sub [] (L2 := []) rfl ?_
      exact t_X4_perform_b220  hf
    · refine v_iconst (v := 1) dX4_perform_215 (by decide) ?_
      refine v_goto (tgt := 220) dX4_perform_216 (by decide) ?_
      refine v_sub [] (L2 := []) rfl ?_
      exact t_X4_perform_b220  hf
  rw [if_neg hq9] at hf
  by_cases hq10 : p1 = 10
  · rw [if_pos hq10] at hf
    refine v_tswIn (tgt := 226) (c9 := 10) hq10 dX4_perform_1 (by decide) (by decide) rfl (by decide) ?_
    refine v_aload_n (x := (some p0)) dX4_perform_226 rfl 0 rfl ?_
    refine v_aload_n (x := (some p0)) dX4_perform_227 rfl 0 rfl ?_
    obtain ⟨hk_p0, hf⟩ := gt_of hf
    refine v_geti cb_5 hk_p0 4 504 rfl (by decide) rfl (lk_n kw_151 rfl) hf dX4_perform_228 (fun x38 hf => ?_)
    obtain ⟨x39, s40, hcs40, hf⟩ := bd_of hf
    have hts40 := c_X4_decide (l := l) (D := D) (cy := cy) (ka := ka) hcs40
    refine v_callV cb_5 hk_p0 (As := [.int x38]) (rest := []) hts40 yb_X4_decide kw_941 kw_943 kp_54 rfl ⟨Nat.le_of_ble_eq_true rfl, Nat.le_of_ble_eq_true rfl⟩ rfl (cat_len (Nat.le_of_ble_eq_true rfl)) dX4_perform_231 ?_
    have hk_p0 := tk_ hts40.1 hk_p0
    show v_ l D cy ka cX4_perform RX4 3 none "perform" 2 44 (qf_ D cy σ z none) σ z _ 234 [(0, va_rf (some p0)), (1, .int p1), (2, .int p2)] []
    refine v_goto (tgt := 253) dX4_perform_234 (by decide) ?_
    refine v_sub [] (L2 := []) rfl ?_
    exact t_X4_perform_b253  hf
  rw [if_neg hq10] at hf
  by_cases hq11 : p1 = 11
  · rw [if_pos hq11] at hf
    refine v_tswIn (tgt := 237) (c9 := 11) hq11 dX4_perform_1 (by decide) (by decide) rfl (by decide) ?_
    refine v_aload_n (x := (some p0)) dX4_perform_237 rfl 0 rfl ?_
    refine v_iconst (v := 0) dX4_perform_238 (by decide) ?_
    obtain ⟨hk_p0, hf⟩ := gt_of hf
    refine v_puti2 cb_5 hk_p0 12 512 rfl (by decide) rfl (lk_n kw_161 rfl) (Or.inl rfl) rfl rfl hf dX4_perform_239 (fun s41 hts41 hf => ?_)
    have hk_p0 := tk_ hts41 hk_p0
    refine v_goto (tgt := 253) dX4_perform_242 (by decide) ?_
    refine v_sub [] (L2 := []) rfl ?_
    exact t_X4_perform_b253  hf
  rw [if_neg hq11] at hf
  by_cases hq12 : p1 = 12
  · rw [if_pos hq12] at hf
    refine v_tswIn (tgt := 245) (c9 := 12) hq12 dX4_perform_1 (by decide) (by decide) rfl (by decide) ?_
    refine v_aload_n (x := (some p0)) dX4_perform_245 rfl 0 rfl ?_
    refine v_iload_n (x := p2) dX4_perform_246 rfl 2 rfl ?_
    obtain ⟨hk_p0, hf⟩ := gt_of hf
    refine v_puti2 cb_5 hk_p0 12 512 rfl (by decide) rfl (lk_n kw_161 rfl) (Or.inl rfl) rfl rfl hf dX4_perform_247 (fun s42 hts42 hf => ?_)
    have hk_p0 := tk_ hts42 hk_p0
    refine v_goto (tgt := 253) dX4_perform_250 (by decide) ?_
    refine v_sub [] (L2 := []) rfl ?_
    exact t_X4_perform_b253  hf
  rw [if_neg hq12] at hf
  refine v_tswOut (tgt := 253) 13 0 (by decide) (by decide) (fun j hj => ?_) (by decide) (by decide) dX4_perform_1 (by decide) ?_
  · match j, hj with
    | 0, _ => exact hq0
    | 1, _ => exact hq1
    | 2, _ => exact hq2
    | 3, _ => exact hq3
    | 4, _ => exact hq4
    | 5, _ => exact hq5
    | 6, _ => exact hq6
    | 7, _ => exact hq7
    | 8, _ => exact hq8
    | 9, _ => exact hq9
    | 10, _ => exact hq10
    | 11, _ => exact hq11
    | 12, _ => exact hq12
    | j + 13, hj => exact absurd hj (by omega)
  · refine v_sub [] (L2 := []) rfl ?_
    exact t_X4_perform_b253  hf
theorem dX4_run_0 : decode cX4_run 0 = .ok (.aload_n 0, 1) := by decide +kernel
theorem dX4_run_1 : decode cX4_run 1 = .ok (.iload_n 2, 1) := by decide +kernel
theorem dX4_run_2 : decode cX4_run 2 = .ok (.putfield 33, 3) := by decide +kernel
theorem dX4_run_5 : decode cX4_run 5 = .ok (.aload_n 0, 1) := by decide +kernel
theorem dX4_run_6 : decode cX4_run 6 = .ok (.iconst 0, 1) := by decide +kernel
theorem dX4_run_7 : decode cX4_run 7 = .ok (.putfield 30, 3) := by decide +kernel
theorem dX4_run_10 : decode cX4_run 10 = .ok (.aload_n 0, 1) := by decide +kernel
theorem dX4_run_11 : decode cX4_run 11 = .ok (.iconst 0, 1) := by decide +kernel
theorem dX4_run_12 : decode cX4_run 12 = .ok (.putfield 36, 3) := by decide +kernel
theorem dX4_run_15 : decode cX4_run 15 = .ok (.aload_n 0, 1) := by decide +kernel
theorem dX4_run_16 : decode cX4_run 16 = .ok (.iconst 0, 1) := by decide +kernel
theorem dX4_run_17 : decode cX4_run 17 = .ok (.putfield 39, 3) := by decide +kernel
theorem dX4_run_20 : decode cX4_run 20 = .ok (.aload_n 0, 1) := by decide +kernel
theorem dX4_run_21 : decode cX4_run 21 = .ok (.iconst 0, 1) := by decide +kernel
theorem dX4_run_22 : decode cX4_run 22 = .ok (.putfield 48, 3) := by decide +kernel
theorem dX4_run_25 : decode cX4_run 25 = .ok (.aload_n 0, 1) := by decide +kernel
theorem dX4_run_26 : decode cX4_run 26 = .ok (.iconst 0, 1) := by decide +kernel
theorem dX4_run_27 : decode cX4_run 27 = .ok (.putfield 51, 3) := by decide +kernel
theorem dX4_run_30 : decode cX4_run 30 = .ok (.aload_n 0, 1) := by decide +kernel
theorem dX4_run_31 : decode cX4_run 31 = .ok (.iconst 0, 1) := by decide +kernel
theorem dX4_run_32 : decode cX4_run 32 = .ok (.putfield 54, 3) := by decide +kernel
theorem dX4_run_35 : decode cX4_run 35 = .ok (.iconst 0, 1) := by decide +kernel
theorem dX4_run_36 : decode cX4_run 36 = .ok (.istore_n 3, 1) := by decide +kernel
theorem dX4_run_37 : decode cX4_run 37 = .ok (.iload_n 3, 1) := by decide +kernel
theorem dX4_run_38 : decode cX4_run 38 = .ok (.aload_n 1, 1) := by decide +kernel
theorem dX4_run_39 : decode cX4_run 39 = .ok (.arraylength, 1) := by decide +kernel
theorem dX4_run_40 : decode cX4_run 40 = .ok (.if_icmp .ge 64, 3) := by decide +kernel
theorem dX4_run_43 : decode cX4_run 43 = .ok (.aload_n 1, 1) := by decide +kernel
theorem dX4_run_44 : decode cX4_run 44 = .ok (.iload_n 3, 1) := by decide +kernel
theorem dX4_run_45 : decode cX4_run 45 = .ok (.iaload, 1) := by decide +kernel
theorem dX4_run_46 : decode cX4_run 46 = .ok (.bipush 16, 2) := by decide +kernel
theorem dX4_run_48 : decode cX4_run 48 = .ok (.ishr, 1) := by decide +kernel
theorem dX4_run_49 : decode cX4_run 49 = .ok (.istore 4, 2) := by decide +kernel
theorem dX4_run_51 : decode cX4_run 51 = .ok (.aload_n 1, 1) := by decide +kernel
theorem dX4_run_52 : decode cX4_run 52 = .ok (.iload_n 3, 1) := by decide +kernel
theorem dX4_run_53 : decode cX4_run 53 = .ok (.iaload, 1) := by decide +kernel
theorem dX4_run_54 : decode cX4_run 54 = .ok (.ldc 57, 2) := by decide +kernel
theorem dX4_run_56 : decode cX4_run 56 = .ok (.iand, 1) := by decide +kernel
theorem dX4_run_57 : decode cX4_run 57 = .ok (.istore 5, 2) := by decide +kernel
theorem dX4_run_59 : decode cX4_run 59 = .ok (.iinc 3 1, 3) := by decide +kernel
theorem dX4_run_62 : decode cX4_run 62 = .ok (.iload 4, 2) := by decide +kernel
theorem dX4_run_64 : decode cX4_run 64 = .ok (.bipush 14, 2) := by decide +kernel
theorem dX4_run_66 : decode cX4_run 66 = .ok (.if_icmp .eq 17, 3) := by decide +kernel
theorem dX4_run_69 : decode cX4_run 69 = .ok (.iload 4, 2) := by decide +kernel
theorem dX4_run_71 : decode cX4_run 71 = .ok (.bipush 13, 2) := by decide +kernel
theorem dX4_run_73 : decode cX4_run 73 = .ok (.if_icmp .ne 20, 3) := by decide +kernel
theorem dX4_run_76 : decode cX4_run 76 = .ok (.aload_n 0, 1) := by decide +kernel
theorem dX4_run_77 : decode cX4_run 77 = .ok (.getfield 54, 3) := by decide +kernel
theorem dX4_run_80 : decode cX4_run 80 = .ok (.ifCond .ne 13, 3) := by decide +kernel
theorem dX4_run_83 : decode cX4_run 83 = .ok (.iload_n 3, 1) := by decide +kernel
theorem dX4_run_84 : decode cX4_run 84 = .ok (.iload 5, 2) := by decide +kernel
theorem dX4_run_86 : decode cX4_run 86 = .ok (.invokestatic 58, 3) := by decide +kernel
theorem dX4_run_89 : decode cX4_run 89 = .ok (.istore_n 3, 1) := by decide +kernel
theorem dX4_run_90 : decode cX4_run 90 = .ok (.goto 11, 3) := by decide +kernel
theorem dX4_run_93 : decode cX4_run 93 = .ok (.aload_n 0, 1) := by decide +kernel
theorem dX4_run_94 : decode cX4_run 94 = .ok (.iload 4, 2) := by decide +kernel
theorem dX4_run_96 : decode cX4_run 96 = .ok (.iload 5, 2) := by decide +kernel
theorem dX4_run_98 : decode cX4_run 98 = .ok (.invokevirtual 64, 3) := by decide +kernel
theorem dX4_run_101 : decode cX4_run 101 = .ok (.goto (-64), 3) := by decide +kernel
theorem dX4_run_104 : decode cX4_run 104 = .ok (.aload_n 0, 1) := by decide +kernel
theorem dX4_run_105 : decode cX4_run 105 = .ok (.getfield 54, 3) := by decide +kernel
theorem dX4_run_108 : decode cX4_run 108 = .ok (.ireturn, 1) := by decide +kernel
def f_X4_run_b101 (rec_37 : TH → Nat → Option Nat → Int32 → Option (Int32 × TH)) (σ : TH) (l0 : Nat) (l1 : Option Nat) (l3 : Int32) : Option (Int32 × TH) :=
  rec_37 σ l0 l1 l3
set_option maxHeartbeats 4000000 in
set_option maxRecDepth 100000 in
theorem t_X4_run_b101 {l : Launch} {D : va_G} {cy : Nat → ClassId} {ka : Nat → Nat} {σ0 z : TH} {r : Int32} {rec_37 : TH → Nat → Option Nat → Int32 → Option (Int32 × TH)} (hrec_37 : ∀ (σ : TH) (l0 : Nat) (l1 : Option Nat) (l3 : Int32), rec_37 σ l0 l1 l3 = some (r, z) → v_ l D cy ka cX4_run RX4 6 (some FieldType.boolean) "run" 3 66 (qf_ D cy σ0 z (some (.int r))) σ0 z σ 37 [(0, va_rf (some l0)), (1, va_rf l1), (3, .int l3)] []) {σ : TH} {l0 : Nat} {l1 : Option Nat} {l3 : Int32} (hf : f_X4_run_b101 rec_37 σ l0 l1 l3 = some (r, z)) : v_ l D cy ka cX4_run RX4 6 (some FieldType.boolean) "run" 3 66 (qf_ D cy σ0 z (some (.int r))) σ0 z σ 101 [(0, va_rf (some l0)), (1, va_rf l1), (3, .int l3)] [] := by
  unfold f_X4_run_b101 at hf
  refine v_goto (tgt := 37) dX4_run_101 (by decide) ?_
  refine v_sub [0, 1, 2] (L2 := [(0, va_rf (some l0)), (1, va_rf l1), (3, .int l3)]) rfl ?_
  exact hrec_37 _ _ _ _ hf
def f_X4_run_b83 (rec_37 : TH → Nat → Option Nat → Int32 → Option (Int32 × TH)) (σ : TH) (l0 : Nat) (l1 : Option Nat) (l3 : Int32) (l5 : Int32) : Option (Int32 × TH) :=
  lt_ (if l3 < l5 then l5 else l3) fun x16 => f_X4_run_b101 rec_37 σ l0 l1 x16
set_option maxHeartbeats 4000000 in
set_option maxRecDepth 100000 in
theorem t_X4_run_b83 {l : Launch} {D : va_G} {cy : Nat → ClassId} {ka : Nat → Nat} {σ0 z : TH} {r : Int32} {rec_37 : TH → Nat → Option Nat → Int32 → Option (Int32 × TH)} (hrec_37 : ∀ (σ : TH) (l0 : Nat) (l1 : Option Nat) (l3 : Int32), rec_37 σ l0 l1 l3 = some (r, z) → v_ l D cy ka cX4_run RX4 6 (some FieldType.boolean) "run" 3 66 (qf_ D cy σ0 z (some (.int r))) σ0 z σ 37 [(0, va_rf (some l0)), (1, va_rf l1), (3, .int l3)] []) {σ : TH} {l0 : Nat} {l1 : Option Nat} {l3 : Int32} {l5 : Int32} (hf : f_X4_run_b83 rec_37 σ l0 l1 l3 l5 = some (r, z)) : v_ l D cy ka cX4_run RX4 6 (some FieldType.boolean) "run" 3 66 (qf_ D cy σ0 z (some (.int r))) σ0 z σ 83 [(0, va_rf (some l0)), (1, va_rf l1), (3, .int l3), (5, .int l5)] [] := by
  unfold f_X4_run_b83 at hf
  refine v_iload_n (x := l3) dX4_run_83 rfl 2 rfl ?_
  refine v_iload (x := l5) dX4_run_84 3 rfl ?_
  refine v_mmax kw_912 kw_16 (by decide) (by decide) (cat_len (Nat.le_of_ble_eq_true rfl)) dX4_run_86 ?_
  obtain ⟨x16, ex16⟩ : ∃ y : Int32, y = if l3 < l5 then l5 else l3 := ⟨_, rfl⟩
  rw [lt_e, ← ex16] at hf
  rw [← ex16]
  refine v_istore_n [(3, .int x16), (0, va_rf (some l0)), (1, va_rf l1), (5, .int l5)] dX4_run_89 rfl (by decide) rfl ?_
  refine v_goto (tgt := 101) dX4_run_90 (by decide) ?_
  refine v_sub [1, 2, 0] (L2 := [(0, va_rf (some l0)), (1, va_rf l1), (3, .int x16)]) rfl ?_
  exact t_X4_run_b101 hrec_37 hf
def f_X4_run_b93 (rec_37 : TH → Nat → Option Nat → Int32 → Option (Int32 × TH)) (σ : TH) (l0 : Nat) (l1 : Option Nat) (l3 : Int32) (l4 : Int32) (l5 : Int32) : Option (Int32 × TH) :=
  gt_ (kd_ σ l0 = 6) <| bd_ (f_X4_perform σ l0 l4 l5) fun x18 s19 => f_X4_run_b101 rec_37 s19 l0 l1 l3
set_option maxHeartbeats 4000000 in
set_option maxRecDepth 100000 in
theorem t_X4_run_b93 {l : Launch} {D : va_G} {cy : Nat → ClassId} {ka : Nat → Nat} {σ0 z : TH} {r : Int32} {rec_37 : TH → Nat → Option Nat → Int32 → Option (Int32 × TH)} (hrec_37 : ∀ (σ : TH) (l0 : Nat) (l1 : Option Nat) (l3 : Int32), rec_37 σ l0 l1 l3 = some (r, z) → v_ l D cy ka cX4_run RX4 6 (some FieldType.boolean) "run" 3 66 (qf_ D cy σ0 z (some (.int r))) σ0 z σ 37 [(0, va_rf (some l0)), (1, va_rf l1), (3, .int l3)] []) {σ : TH} {l0 : Nat} {l1 : Option Nat} {l3 : Int32} {l4 : Int32} {l5 : Int32} (hf : f_X4_run_b93 rec_37 σ l0 l1 l3 l4 l5 = some (r, z)) : v_ l D cy ka cX4_run RX4 6 (some FieldType.boolean) "run" 3 66 (qf_ D cy σ0 z (some (.int r))) σ0 z σ 93 [(0, va_rf (some l0)), (1, va_rf l1), (3, .int l3), (4, .int l4), (5, .int l5)] [] := by
  unfold f_X4_run_b93 at hf
  refine v_aload_n (x := (some l0)) dX4_run_93 rfl 0 rfl ?_
  refine v_iload (x := l4) dX4_run_94 3 rfl ?_
  refine v_iload (x := l5) dX4_run_96 4 rfl ?_
  obtain ⟨hk_l0, hf⟩ := gt_of hf
  obtain ⟨x18, s19, hcs19, hf⟩ := bd_of hf
  have hts19 := c_X4_perform (l := l) (D := D) (cy := cy) (ka := ka) hcs19
  refine v_callV cb_5 hk_l0 (As := [.int l4, .int l5]) (rest := []) hts19 yb_X4_perform kw_913 kw_915 kp_48 rfl ⟨Nat.le_of_ble_eq_true rfl, Nat.le_of_ble_eq_true rfl⟩ rfl (cat_len (Nat.le_of_ble_eq_true rfl)) dX4_run_98 ?_
  have hk_l0 := tk_ hts19.1 hk_l0
  show v_ l D cy ka cX4_run RX4 6 (some FieldType.boolean) "run" 3 66 (qf_ D cy σ0 z (some (.int r))) σ0 z _ 101 [(0, va_rf (some l0)), (1, va_rf l1), (3, .int l3), (4, .int l4), (5, .int l5)] []
  refine v_sub [0, 1, 2] (L2 := [(0, va_rf (some l0)), (1, va_rf l1), (3, .int l3)]) rfl ?_
  exact t_X4_run_b101 hrec_37 hf
def f_X4_run_b37 : Nat → TH → Nat → Option Nat → Int32 → Option (Int32 × TH)
  | 0, _, _, _, _ => none
  | n + 1, σ, l0, l1, l3 => nn_ l1 fun a8 => gt_ (kd_ σ a8 = 20) <| lt_ (Int32.ofNat (ln_ σ a8)) fun x9 => if x9 ≤ l3 then (gt_ (kd_ σ l0 = 6) <| lt_ (fi_ σ 513 l0) fun x10 => gt_ (x10 = 0 ∨ x10 = 1) <| some (x10, σ)) else (gt_ (¬ (l3 < 0 ∨ ln_ σ a8 ≤ l3.toNatClampNeg)) <| lt_ (ai_ σ a8 l3.toNatClampNeg) fun x11 => lt_ (x11 >>> ((16 : Int32) &&& 31)) fun x12 => gt_ (¬ (l3 < 0 ∨ ln_ σ a8 ≤ l3.toNatClampNeg)) <| lt_ (ai_ σ a8 l3.toNatClampNeg) fun x13 => lt_ (x13 &&& (65535 : Int32)) fun x14 => lt_ (l3 + 1) fun x15 => if x12 = (14 : Int32) then (f_X4_run_b83 (f_X4_run_b37 n) σ l0 (some a8) x15 x14) else (if x12 = (13 : Int32) then (gt_ (kd_ σ l0 = 6) <| lt_ (fi_ σ 513 l0) fun x17 => if x17 = 0 then (f_X4_run_b83 (f_X4_run_b37 n) σ l0 (some a8) x15 x14) else (f_X4_run_b93 (f_X4_run_b37 n) σ l0 (some a8) x15 x12 x14)) else (f_X4_run_b93 (f_X4_run_b37 n) σ l0 (some a8) x15 x12 x14)))
set_option maxHeartbeats 4000000 in
set_option maxRecDepth 100000 in
theorem t_X4_run_b37 {l : Launch} {D : va_G} {cy : Nat → ClassId} {ka : Nat → Nat} {σ0 z : TH} {r : Int32}  : ∀ (n : Nat) (σ : TH) (l0 : Nat) (l1 : Option Nat) (l3 : Int32), f_X4_run_b37 n σ l0 l1 l3 = some (r, z) → v_ l D cy ka cX4_run RX4 6 (some FieldType.boolean) "run" 3 66 (qf_ D cy σ0 z (some (.int r))) σ0 z σ 37 [(0, va_rf (some l0)), (1, va_rf l1), (3, .int l3)] [] := by
  intro n
  induction n with
  | zero => intro σ l0 l1 l3 hf; unfold f_X4_run_b37 at hf; cases hf
  | succ n ih =>
    intro σ l0 l1 l3 hf
    unfold f_X4_run_b37 at hf
    have hrec_37 := ih
    refine v_iload_n (x := l3) dX4_run_37 rfl 2 rfl ?_
    refine v_aload_n (x := l1) dX4_run_38 rfl 1 rfl ?_
    obtain ⟨a8, rfl, hf⟩ := nn_of hf
    obtain ⟨hk_a8, hf⟩ := gt_of hf
    refine v_alen 19 0 .int hk_a8 (by decide) rfl hf dX4_run_39 (fun x9 hf => ?_)
    refine v_icmp_ge (tgt := 104) hf dX4_run_40 (by decide) (fun hq hf => ?_) (fun hq hf => ?_)
    · refine v_aload_n (x := (some l0)) dX4_run_104 rfl 0 rfl ?_
      obtain ⟨hk_l0, hf⟩ := gt_of hf
      refine v_geti cb_5 hk_l0 13 513 rfl (by decide) rfl (lk_n kw_162 rfl) hf dX4_run_105 (fun x10 hf => ?_)
      obtain ⟨hb9, hf⟩ := gt_of hf
      exact v_zret hf (nz_ hb9) dX4_run_108
    · refine v_aload_n (x := (some a8)) dX4_run_43 rfl 1 rfl ?_
      refine v_iload_n (x := l3) dX4_run_44 rfl 2 rfl ?_
      refine v_iald hk_a8 hf dX4_run_45 (fun x11 hf => ?_)
      refine v_bipush (v := 16) dX4_run_46 (by decide) ?_
      refine v_ishr dX4_run_48 ?_
      obtain ⟨x12, ex12⟩ : ∃ y : Int32, y = x11 >>> ((16 : Int32) &&& 31) := ⟨_, rfl⟩
      rw [lt_e, ← ex12] at hf
      rw [← ex12]
      refine v_istore [(4, .int x12), (0, va_rf (some l0)), (1, va_rf (some a8)), (3, .int l3)] dX4_run_49 (by decide) rfl ?_
      refine v_aload_n (x := (some a8)) dX4_run_51 rfl 2 rfl ?_
      refine v_iload_n (x := l3) dX4_run_52 rfl 3 rfl ?_
      refine v_iald hk_a8 hf dX4_run_53 (fun x13 hf => ?_)
      refine v_ldc (v := 65535) kw_911 dX4_run_54 ?_
      refine v_iand dX4_run_56 ?_
      obtain ⟨x14, ex14⟩ : ∃ y : Int32, y = x13 &&& (65535 : Int32) := ⟨_, rfl⟩
      rw [lt_e, ← ex14] at hf
      rw [← ex14]
      refine v_istore [(5, .int x14), (4, .int x12), (0, va_rf (some l0)), (1, va_rf (some a8)), (3, .int l3)] dX4_run_57 (by decide) rfl ?_
      obtain ⟨x15, ex15⟩ : ∃ y : Int32, y = l3 + 1 := ⟨_, rfl⟩
      rw [lt_e, ← ex15] at hf
      refine v_iinc (v := x15) [(3, .int x15), (5, .int x14), (4, .int x12), (0, va_rf (some l0)), (1, va_rf (some a8))] dX4_run_59 4 rfl (by rw [ex15]; rfl) (by decide) rfl ?_
      refine v_iload (x := x12) dX4_run_62 2 rfl ?_
      refine v_bipush (v := 14) dX4_run_64 (by decide) ?_
      refine v_icmp_eq (tgt := 83) hf dX4_run_66 (by decide) (fun hq hf => ?_) (fun hq hf => ?_)
      · refine v_sub [3, 4, 0, 1] (L2 := [(0, va_rf (some l0)), (1, va_rf (some a8)), (3, .int x15), (5, .int x14)]) rfl ?_
        exact t_X4_run_b83 hrec_37 hf
      · refine v_iload (x := x12) dX4_run_69 2 rfl ?_
        refine v_bipush (v := 13) dX4_run_71 (by decide) ?_
        refine v_icmp_ne (tgt := 93) hf dX4_run_73 (by decide) (fun hq hf => ?_) (fun hq hf => ?_)
        · refine v_aload_n (x := (some l0)) dX4_run_76 rfl 3 rfl ?_
          obtain ⟨hk_l0, hf⟩ := gt_of hf
          refine v_geti cb_5 hk_l0 13 513 rfl (by decide) rfl (lk_n kw_162 rfl) hf dX4_run_77 (fun x17 hf => ?_)
          refine v_if_ne (tgt := 93) hf dX4_run_80 (by decide) (fun hq hf => ?_) (fun hq hf => ?_)
          · refine v_sub [3, 4, 0, 1] (L2 := [(0, va_rf (some l0)), (1, va_rf (some a8)), (3, .int x15), (5, .int x14)]) rfl ?_
            exact t_X4_run_b83 hrec_37 hf
          · refine v_sub [3, 4, 0, 2, 1] (L2 := [(0, va_rf (some l0)), (1, va_rf (some a8)), (3, .int x15), (4, .int x12), (5, .int x14)]) rfl ?_
            exact t_X4_run_b93 hrec_37 hf
        · refine v_sub [3, 4, 0, 2, 1] (L2 := [(0, va_rf (some l0)), (1, va_rf (some a8)), (3, .int x15), (4, .int x12), (5, .int x14)]) rfl ?_
          exact t_X4_run_b93 hrec_37 hf
/-- LivesAhead$Printer.run([IZ)Z -/
def f_X4_run (σ : TH) (p0 : Nat) (p1 : Option Nat) (p2 : Int32) : Option (Int32 × TH) :=
  gt_ (kd_ σ p0 = 6) <| gt_ (p2 = 0 ∨ p2 = 1) <| lt_ (si_ σ 506 p0 p2) fun s1 => lt_ (si_ s1 505 p0 (0 : Int32)) fun s2 => lt_ (si_ s2 507 p0 (0 : Int32)) fun s3 => lt_ (si_ s3 508 p0 (0 : Int32)) fun s4 => lt_ (si_ s4 511 p0 (0 : Int32)) fun s5 => lt_ (si_ s5 512 p0 (0 : Int32)) fun s6 => lt_ (si_ s6 513 p0 (0 : Int32)) fun s7 => f_X4_run_b37 fu_ s7 p0 p1 (0 : Int32)
set_option maxHeartbeats 4000000 in
set_option maxRecDepth 100000 in
theorem c_X4_run {l : Launch} {D : va_G} {cy : Nat → ClassId} {ka : Nat → Nat} {σ z : TH} {p0 : Nat} {p1 : Option Nat} {p2 : Int32} {r : Int32} (hf : f_X4_run σ p0 p1 p2 = some (r, z)) : ct_ l D cy ka yX4_run 3 66 [va_rf (some p0), va_rf p1, .int p2] σ (some (.int r)) z := by
  unfold f_X4_run at hf
  refine v_start (cc := cX4_run) (own := RX4) (maxL := 6) (ret := (some FieldType.boolean)) (nm := "run") (by decide +kernel) kw_910 rfl rfl (by simp [lg_sl, va_rf_cat, cat_i, cat_l]) ?_
  refine v_eqL (L2 := [(0, va_rf (some p0)), (1, va_rf p1), (2, .int p2)]) (by simp [lv_args, va_rf_cat, cat_i, cat_l]) ?_
  refine v_aload_n (x := (some p0)) dX4_run_0 rfl 0 rfl ?_
  refine v_iload_n (x := p2) dX4_run_1 rfl 2 rfl ?_
  obtain ⟨hk_p0, hf⟩ := gt_of hf
  obtain ⟨hbs1, hf⟩ := gt_of hf
  refine v_puti2 cb_5 hk_p0 6 506 rfl (by decide) rfl (lk_n kw_155 rfl) (Or.inl rfl) (nz_ hbs1) (fz_ hbs1) hf dX4_run_2 (fun s1 hts1 hf => ?_)
  have hk_p0 := tk_ hts1 hk_p0
  refine v_aload_n (x := (some p0)) dX4_run_5 rfl 0 rfl ?_
  refine v_iconst (v := 0) dX4_run_6 (by decide) ?_
  refine v_puti2 cb_5 hk_p0 5 505 rfl (by decide) rfl (lk_n kw_153 rfl) (Or.inl rfl) rfl rfl hf dX4_run_7 (fun s2 hts2 hf => ?_)
  have hk_p0 := tk_ hts2 hk_p0
  refine v_aload_n (x := (some p0)) dX4_run_10 rfl 0 rfl ?_
  refine v_iconst (v := 0) dX4_run_11 (by decide) ?_
  refine v_puti2 cb_5 hk_p0 7 507 rfl (by decide) rfl (lk_n kw_156 rfl) (Or.inl rfl) rfl rfl hf dX4_run_12 (fun s3 hts3 hf => ?_)
  have hk_p0 := tk_ hts3 hk_p0
  refine v_aload_n (x := (some p0)) dX4_run_15 rfl 0 rfl ?_
  refine v_iconst (v := 0) dX4_run_16 (by decide) ?_
  refine v_puti2 cb_5 hk_p0 8 508 rfl (by decide) rfl (lk_n kw_157 rfl) (Or.inl rfl) rfl rfl hf dX4_run_17 (fun s4 hts4 hf => ?_)
  have hk_p0 := tk_ hts4 hk_p0
  refine v_aload_n (x := (some p0)) dX4_run_20 rfl 0 rfl ?_
  refine v_iconst (v := 0) dX4_run_21 (by decide) ?_
  refine v_puti2 cb_5 hk_p0 11 511 rfl (by decide) rfl (lk_n kw_160 rfl) (Or.inl rfl) rfl rfl hf dX4_run_22 (fun s5 hts5 hf => ?_)
  have hk_p0 := tk_ hts5 hk_p0
  refine v_aload_n (x := (some p0)) dX4_run_25 rfl 0 rfl ?_
  refine v_iconst (v := 0) dX4_run_26 (by decide) ?_
  refine v_puti2 cb_5 hk_p0 12 512 rfl (by decide) rfl (lk_n kw_161 rfl) (Or.inl rfl) rfl rfl hf dX4_run_27 (fun s6 hts6 hf => ?_)
  have hk_p0 := tk_ hts6 hk_p0
  refine v_aload_n (x := (some p0)) dX4_run_30 rfl 0 rfl ?_
  refine v_iconst (v := 0) dX4_run_31 (by decide) ?_
  refine v_puti2 cb_5 hk_p0 13 513 rfl (by decide) rfl (lk_n kw_162 rfl) (Or.inl rfl) rfl rfl hf dX4_run_32 (fun s7 hts7 hf => ?_)
  have hk_p0 := tk_ hts7 hk_p0
  refine v_iconst (v := 0) dX4_run_35 (by decide) ?_
  refine v_istore_n [(3, .int (0 : Int32)), (0, va_rf (some p0)), (1, va_rf p1), (2, .int p2)] dX4_run_36 rfl (by decide) rfl ?_
  refine v_sub [1, 2, 0] (L2 := [(0, va_rf (some p0)), (1, va_rf p1), (3, .int (0 : Int32))]) rfl ?_
  exact t_X4_run_b37  _ _ _ _ _ hf
theorem dX11_cutLong_0 : decode cX11_cutLong 0 = .ok (.aload_n 0, 1) := by decide +kernel
theorem dX11_cutLong_1 : decode cX11_cutLong 1 = .ok (.getfield 78, 3) := by decide +kernel
theorem dX11_cutLong_4 : decode cX11_cutLong 4 = .ok (.ireturn, 1) := by decide +kernel
/-- LivesAhead.cutLong()I -/
def f_X11_cutLong (σ : TH) (p0 : Nat) : Option (Int32 × TH) :=
  gt_ (kd_ σ p0 = 13) <| lt_ (fi_ σ 1217 p0) fun x1 => some (x1, σ)
set_option maxHeartbeats 4000000 in
set_option maxRecDepth 100000 in
theorem c_X11_cutLong {l : Launch} {D : va_G} {cy : Nat → ClassId} {ka : Nat → Nat} {σ z : TH} {p0 : Nat} {r : Int32} (hf : f_X11_cutLong σ p0 = some (r, z)) : ct_ l D cy ka yX11_cutLong 0 0 [va_rf (some p0)] σ (some (.int r)) z := by
  unfold f_X11_cutLong at hf
  refine v_start (cc := cX11_cutLong) (own := RX11) (maxL := 1) (ret := (some FieldType.int)) (nm := "cutLong") (by decide +kernel) kw_983 rfl rfl (by simp [lg_sl, va_rf_cat, cat_i, cat_l]) ?_
  refine v_eqL (L2 := [(0, va_rf (some p0))]) (by simp [lv_args, va_rf_cat, cat_i, cat_l]) ?_
  refine v_aload_n (x := (some p0)) dX11_cutLong_0 rfl 0 rfl ?_
  obtain ⟨hk_p0, hf⟩ := gt_of hf
  refine v_geti cb_12 hk_p0 17 1217 rfl (by decide) rfl (lk_n kw_256 rfl) hf dX11_cutLong_1 (fun x1 hf => ?_)
  exact v_iret hf dX11_cutLong_4
theorem dX11_cutOf_0 : decode cX11_cutOf 0 = .ok (.aload_n 0, 1) := by decide +kernel
theorem dX11_cutOf_1 : decode cX11_cutOf 1 = .ok (.getfield 75, 3) := by decide +kernel
theorem dX11_cutOf_4 : decode cX11_cutOf 4 = .ok (.ireturn, 1) := by decide +kernel
/-- LivesAhead.cutOf()I -/
def f_X11_cutOf (σ : TH) (p0 : Nat) : Option (Int32 × TH) :=
  gt_ (kd_ σ p0 = 13) <| lt_ (fi_ σ 1216 p0) fun x1 => some (x1, σ)
set_option maxHeartbeats 4000000 in
set_option maxRecDepth 100000 in
theorem c_X11_cutOf {l : Launch} {D : va_G} {cy : Nat → ClassId} {ka : Nat → Nat} {σ z : TH} {p0 : Nat} {r : Int32} (hf : f_X11_cutOf σ p0 = some (r, z)) : ct_ l D cy ka yX11_cutOf 0 0 [va_rf (some p0)] σ (some (.int r)) z := by
  unfold f_X11_cutOf at hf
  refine v_start (cc := cX11_cutOf) (own := RX11) (maxL := 1) (ret := (some FieldType.int)) (nm := "cutOf") (by decide +kernel) kw_979 rfl rfl (by simp [lg_sl, va_rf_cat, cat_i, cat_l]) ?_
  refine v_eqL (L2 := [(0, va_rf (some p0))]) (by simp [lv_args, va_rf_cat, cat_i, cat_l]) ?_
  refine v_aload_n (x := (some p0)) dX11_cutOf_0 rfl 0 rfl ?_
  obtain ⟨hk_p0, hf⟩ := gt_of hf
  refine v_geti cb_12 hk_p0 16 1216 rfl (by decide) rfl (lk_n kw_255 rfl) hf dX11_cutOf_1 (fun x1 hf => ?_)
  exact v_iret hf dX11_cutOf_4
theorem dX11_layFacts_0 : decode cX11_layFacts 0 = .ok (.iconst 0, 1) := by decide +kernel
theorem dX11_layFacts_1 : decode cX11_layFacts 1 = .ok (.istore_n 2, 1) := by decide +kernel
theorem dX11_layFacts_2 : decode cX11_layFacts 2 = .ok (.iconst 0, 1) := by decide +kernel
theorem dX11_layFacts_3 : decode cX11_layFacts 3 = .ok (.istore_n 3, 1) := by decide +kernel
theorem dX11_layFacts_4 : decode cX11_layFacts 4 = .ok (.iload_n 3, 1) := by decide +kernel
theorem dX11_layFacts_5 : decode cX11_layFacts 5 = .ok (.aload_n 1, 1) := by decide +kernel
theorem dX11_layFacts_6 : decode cX11_layFacts 6 = .ok (.getfield 179, 3) := by decide +kernel
theorem dX11_layFacts_9 : decode cX11_layFacts 9 = .ok (.if_icmp .ge 47, 3) := by decide +kernel
theorem dX11_layFacts_12 : decode cX11_layFacts 12 = .ok (.iload_n 3, 1) := by decide +kernel
theorem dX11_layFacts_13 : decode cX11_layFacts 13 = .ok (.bipush 14, 2) := by decide +kernel
theorem dX11_layFacts_15 : decode cX11_layFacts 15 = .ok (.if_icmp .ge 41, 3) := by decide +kernel
theorem dX11_layFacts_18 : decode cX11_layFacts 18 = .ok (.aload_n 1, 1) := by decide +kernel
theorem dX11_layFacts_19 : decode cX11_layFacts 19 = .ok (.getfield 258, 3) := by decide +kernel
theorem dX11_layFacts_22 : decode cX11_layFacts 22 = .ok (.iload_n 3, 1) := by decide +kernel
theorem dX11_layFacts_23 : decode cX11_layFacts 23 = .ok (.aaload, 1) := by decide +kernel
theorem dX11_layFacts_24 : decode cX11_layFacts 24 = .ok (.astore 4, 2) := by decide +kernel
theorem dX11_layFacts_26 : decode cX11_layFacts 26 = .ok (.aload 4, 2) := by decide +kernel
theorem dX11_layFacts_28 : decode cX11_layFacts 28 = .ok (.ifnull 22, 3) := by decide +kernel
theorem dX11_layFacts_31 : decode cX11_layFacts 31 = .ok (.aload_n 0, 1) := by decide +kernel
theorem dX11_layFacts_32 : decode cX11_layFacts 32 = .ok (.getfield 392, 3) := by decide +kernel
theorem dX11_layFacts_35 : decode cX11_layFacts 35 = .ok (.iconst 1, 1) := by decide +kernel
theorem dX11_layFacts_36 : decode cX11_layFacts 36 = .ok (.iload_n 3, 1) := by decide +kernel
theorem dX11_layFacts_37 : decode cX11_layFacts 37 = .ok (.ishl, 1) := by decide +kernel
theorem dX11_layFacts_38 : decode cX11_layFacts 38 = .ok (.iand, 1) := by decide +kernel
theorem dX11_layFacts_39 : decode cX11_layFacts 39 = .ok (.ifCond .eq 11, 3) := by decide +kernel
theorem dX11_layFacts_42 : decode cX11_layFacts 42 = .ok (.iload_n 2, 1) := by decide +kernel
theorem dX11_layFacts_43 : decode cX11_layFacts 43 = .ok (.aload 4, 2) := by decide +kernel
theorem dX11_layFacts_45 : decode cX11_layFacts 45 = .ok (.getfield 282, 3) := by decide +kernel
theorem dX11_layFacts_48 : decode cX11_layFacts 48 = .ok (.ior, 1) := by decide +kernel
theorem dX11_layFacts_49 : decode cX11_layFacts 49 = .ok (.istore_n 2, 1) := by decide +kernel
theorem dX11_layFacts_50 : decode cX11_layFacts 50 = .ok (.iinc 3 1, 3) := by decide +kernel
theorem dX11_layFacts_53 : decode cX11_layFacts 53 = .ok (.goto (-49), 3) := by decide +kernel
theorem dX11_layFacts_56 : decode cX11_layFacts 56 = .ok (.aload_n 0, 1) := by decide +kernel
theorem dX11_layFacts_57 : decode cX11_layFacts 57 = .ok (.iload_n 2, 1) := by decide +kernel
theorem dX11_layFacts_58 : decode cX11_layFacts 58 = .ok (.aload_n 1, 1) := by decide +kernel
theorem dX11_layFacts_59 : decode cX11_layFacts 59 = .ok (.invokevirtual 180, 3) := by decide +kernel
theorem dX11_layFacts_62 : decode cX11_layFacts 62 = .ok (.iand, 1) := by decide +kernel
theorem dX11_layFacts_63 : decode cX11_layFacts 63 = .ok (.putfield 410, 3) := by decide +kernel
theorem dX11_layFacts_66 : decode cX11_layFacts 66 = .ok (.iconst 0, 1) := by decide +kernel
theorem dX11_layFacts_67 : decode cX11_layFacts 67 = .ok (.istore_n 3, 1) := by decide +kernel
theorem dX11_layFacts_68 : decode cX11_layFacts 68 = .ok (.iload_n 3, 1) := by decide +kernel
theorem dX11_layFacts_69 : decode cX11_layFacts 69 = .ok (.bipush 10, 2) := by decide +kernel
theorem dX11_layFacts_71 : decode cX11_layFacts 71 = .ok (.if_icmp .ge 52, 3) := by decide +kernel
theorem dX11_layFacts_74 : decode cX11_layFacts 74 = .ok (.aload_n 1, 1) := by decide +kernel
theorem dX11_layFacts_75 : decode cX11_layFacts 75 = .ok (.getfield 203, 3) := by decide +kernel
theorem dX11_layFacts_78 : decode cX11_layFacts 78 = .ok (.iload_n 3, 1) := by decide +kernel
theorem dX11_layFacts_79 : decode cX11_layFacts 79 = .ok (.aaload, 1) := by decide +kernel
theorem dX11_layFacts_80 : decode cX11_layFacts 80 = .ok (.astore 4, 2) := by decide +kernel
theorem dX11_layFacts_82 : decode cX11_layFacts 82 = .ok (.aload 4, 2) := by decide +kernel
theorem dX11_layFacts_84 : decode cX11_layFacts 84 = .ok (.ifnull 33, 3) := by decide +kernel
theorem dX11_layFacts_87 : decode cX11_layFacts 87 = .ok (.aload_n 0, 1) := by decide +kernel
theorem dX11_layFacts_88 : decode cX11_layFacts 88 = .ok (.iload_n 3, 1) := by decide +kernel
theorem dX11_layFacts_89 : decode cX11_layFacts 89 = .ok (.invokevirtual 418, 3) := by decide +kernel
theorem dX11_layFacts_92 : decode cX11_layFacts 92 = .ok (.ifCond .eq 25, 3) := by decide +kernel
theorem dX11_layFacts_95 : decode cX11_layFacts 95 = .ok (.aload_n 0, 1) := by decide +kernel
theorem dX11_layFacts_96 : decode cX11_layFacts 96 = .ok (.getfield 428, 3) := by decide +kernel
theorem dX11_layFacts_99 : decode cX11_layFacts 99 = .ok (.iload_n 3, 1) := by decide +kernel
theorem dX11_layFacts_100 : decode cX11_layFacts 100 = .ok (.aload 4, 2) := by decide +kernel
theorem dX11_layFacts_102 : decode cX11_layFacts 102 = .ok (.getfield 221, 3) := by decide +kernel
theorem dX11_layFacts_105 : decode cX11_layFacts 105 = .ok (.iastore, 1) := by decide +kernel
theorem dX11_layFacts_106 : decode cX11_layFacts 106 = .ok (.aload_n 0, 1) := by decide +kernel
theorem dX11_layFacts_107 : decode cX11_layFacts 107 = .ok (.getfield 421, 3) := by decide +kernel
theorem dX11_layFacts_110 : decode cX11_layFacts 110 = .ok (.iload_n 3, 1) := by decide +kernel
theorem dX11_layFacts_111 : decode cX11_layFacts 111 = .ok (.aload 4, 2) := by decide +kernel
theorem dX11_layFacts_113 : decode cX11_layFacts 113 = .ok (.getfield 221, 3) := by decide +kernel
theorem dX11_layFacts_116 : decode cX11_layFacts 116 = .ok (.iastore, 1) := by decide +kernel
theorem dX11_layFacts_117 : decode cX11_layFacts 117 = .ok (.iinc 3 1, 3) := by decide +kernel
theorem dX11_layFacts_120 : decode cX11_layFacts 120 = .ok (.goto (-52), 3) := by decide +kernel
theorem dX11_layFacts_123 : decode cX11_layFacts 123 = .ok (.return_, 1) := by decide +kernel
def f_X11_layFacts_b117 (rec_68 : TH → Option Nat → Option Nat → Int32 → Option (Unit × TH)) (σ : TH) (l0 : Option Nat) (l1 : Option Nat) (l3 : Int32) : Option (Unit × TH) :=
  lt_ (l3 + 1) fun x13 => rec_68 σ l0 l1 x13
set_option maxHeartbeats 4000000 in
set_option maxRecDepth 100000 in
theorem t_X11_layFacts_b117 {l : Launch} {D : va_G} {cy : Nat → ClassId} {ka : Nat → Nat} {σ0 z : TH} {r : Unit} {rec_68 : TH → Option Nat → Option Nat → Int32 → Option (Unit × TH)} (hrec_68 : ∀ (σ : TH) (l0 : Option Nat) (l1 : Option Nat) (l3 : Int32), rec_68 σ l0 l1 l3 = some (r, z) → v_ l D cy ka cX11_layFacts RX11 5 none "layFacts" 3 63 (qf_ D cy σ0 z none) σ0 z σ 68 [(0, va_rf l0), (1, va_rf l1), (3, .int l3)] []) {σ : TH} {l0 : Option Nat} {l1 : Option Nat} {l3 : Int32} (hf : f_X11_layFacts_b117 rec_68 σ l0 l1 l3 = some (r, z)) : v_ l D cy ka cX11_layFacts RX11 5 none "layFacts" 3 63 (qf_ D cy σ0 z none) σ0 z σ 117 [(0, va_rf l0), (1, va_rf l1), (3, .int l3)] [] := by
  unfold f_X11_layFacts_b117 at hf
  obtain ⟨x13, ex13⟩ : ∃ y : Int32, y = l3 + 1 := ⟨_, rfl⟩
  rw [lt_e, ← ex13] at hf
  refine v_iinc (v := x13) [(3, .int x13), (0, va_rf l0), (1, va_rf l1)] dX11_layFacts_117 2 rfl (by rw [ex13]; rfl) (by decide) rfl ?_
  refine v_goto (tgt := 68) dX11_layFacts_120 (by decide) ?_
  refine v_sub [1, 2, 0] (L2 := [(0, va_rf l0), (1, va_rf l1), (3, .int x13)]) rfl ?_
  exact hrec_68 _ _ _ _ hf
def f_X11_layFacts_b68 : Nat → TH → Option Nat → Option Nat → Int32 → Option (Unit × TH)
  | 0, _, _, _, _ => none
  | n + 1, σ, l0, l1, l3 => if (10 : Int32) ≤ l3 then (some ((), σ)) else (nn_ l1 fun a8 => gt_ (kd_ σ a8 = 4) <| lt_ (fr_ σ 309 a8) fun r9 => nn_ r9 fun a10 => gt_ (kd_ σ a10 = 25) <| gt_ (¬ (l3 < 0 ∨ ln_ σ a10 ≤ l3.toNatClampNeg)) <| lt_ (ar_ σ a10 l3.toNatClampNeg) fun r11 => oc_ r11 (f_X11_layFacts_b117 (f_X11_layFacts_b68 n) σ l0 (some a8) l3) (fun a12 => nn_ l0 fun a14 => gt_ (kd_ σ a14 = 3) <| bd_ (f_X1_hasPrinted σ a14 l3) fun x15 s16 => if x15 = 0 then (f_X11_layFacts_b117 (f_X11_layFacts_b68 n) s16 (some a14) (some a8) l3) else (lt_ (fr_ s16 208 a14) fun r17 => gt_ (kd_ s16 a12 = 10) <| lt_ (fi_ s16 900 a12) fun x18 => nn_ r17 fun a19 => gt_ (kd_ s16 a19 = 20) <| gt_ (¬ (l3 < 0 ∨ ln_ s16 a19 ≤ l3.toNatClampNeg)) <| lt_ (sa_ s16 a19 l3.toNatClampNeg x18) fun s20 => lt_ (fr_ s20 209 a14) fun r21 => lt_ (fi_ s20 900 a12) fun x22 => nn_ r21 fun a23 => gt_ (kd_ s20 a23 = 20) <| gt_ (¬ (l3 < 0 ∨ ln_ s20 a23 ≤ l3.toNatClampNeg)) <| lt_ (sa_ s20 a23 l3.toNatClampNeg x22) fun s24 => f_X11_layFacts_b117 (f_X11_layFacts_b68 n) s24 (some a14) (some a8) l3)))
set_option maxHeartbeats 4000000 in
set_option maxRecDepth 100000 in
theorem t_X11_layFacts_b68 {l : Launch} {D : va_G} {cy : Nat → ClassId} {ka : Nat → Nat} {σ0 z : TH} {r : Unit}  : ∀ (n : Nat) (σ : TH) (l0 : Option Nat) (l1 : Option Nat) (l3 : Int32), f_X11_layFacts_b68 n σ l0 l1 l3 = some (r, z) → v_ l D cy ka cX11_layFacts RX11 5 none "layFacts" 3 63 (qf_ D cy σ0 z none) σ0 z σ 68 [(0, va_rf l0), (1, va_rf l1), (3, .int l3)] [] := by
  intro n
  induction n with
  | zero => intro σ l0 l1 l3 hf; unfold f_X11_layFacts_b68 at hf; cases hf
  | succ n ih =>
    intro σ l0 l1 l3 hf
    unfold f_X11_layFacts_b68 at hf
    have hrec_68 := ih
    refine v_iload_n (x := l3) dX11_layFacts_68 rfl 2 rfl ?_
    refine v_bipush (v := 10) dX11_layFacts_69 (by decide) ?_
    refine v_icmp_ge (tgt := 123) hf dX11_layFacts_71 (by decide) (fun hq hf => ?_) (fun hq hf => ?_)
    · exact v_vret hf dX11_layFacts_123
    · refine v_aload_n (x := l1) dX11_layFacts_74 rfl 1 rfl ?_
      obtain ⟨a8, rfl, hf⟩ := nn_of hf
      obtain ⟨hk_a8, hf⟩ := gt_of hf
      refine v_getr cb_3 hk_a8 9 309 rfl (by decide) rfl (lk_n kw_484 rfl) hf dX11_layFacts_75 (fun r9 hf => ?_)
      refine v_iload_n (x := l3) dX11_layFacts_78 rfl 2 rfl ?_
      obtain ⟨a10, rfl, hf⟩ := nn_of hf
      obtain ⟨hk_a10, hf⟩ := gt_of hf
      refine v_aald 24 5 RX8 hk_a10 (by decide) rfl hf dX11_layFacts_79 (fun r11 hf => ?_)
      refine v_astore [(4, va_rf r11), (0, va_rf l0), (1, va_rf (some a8)), (3, .int l3)] dX11_layFacts_80 (by decide) rfl ?_
      refine v_aload (x := r11) dX11_layFacts_82 0 rfl ?_
      refine v_ifnull2 (tgt := 117) hf dX11_layFacts_84 (by decide) (fun e9 hf => ?_) (fun a12 e9 hf => ?_)
      · subst e9
        refine v_sub [1, 2, 3] (L2 := [(0, va_rf l0), (1, va_rf (some a8)), (3, .int l3)]) rfl ?_
        exact t_X11_layFacts_b117 hrec_68 hf
      · subst e9
        refine v_aload_n (x := l0) dX11_layFacts_87 rfl 1 rfl ?_
        refine v_iload_n (x := l3) dX11_layFacts_88 rfl 3 rfl ?_
        obtain ⟨a14, rfl, hf⟩ := nn_of hf
        obtain ⟨hk_a14, hf⟩ := gt_of hf
        obtain ⟨x15, s16, hcs16, hf⟩ := bd_of hf
        have hts16 := c_X1_hasPrinted (l := l) (D := D) (cy := cy) (ka := ka) hcs16
        refine v_callV cb_2 hk_a14 (As := [.int l3]) (rest := []) hts16 yb_X1_hasPrinted kw_1234 kw_1235 kw_1236 rfl ⟨Nat.le_of_ble_eq_true rfl, Nat.le_of_ble_eq_true rfl⟩ rfl (cat_len (Nat.le_of_ble_eq_true rfl)) dX11_layFacts_89 ?_
        have hk_a8 := tk_ hts16.1 hk_a8
        have hk_a14 := tk_ hts16.1 hk_a14
        show v_ l D cy ka cX11_layFacts RX11 5 none "layFacts" 3 63 (qf_ D cy σ0 z none) σ0 z _ 92 [(4, va_rf (some a12)), (0, va_rf (some a14)), (1, va_rf (some a8)), (3, .int l3)] [.int x15]
        refine v_if_eq (tgt := 117) hf dX11_layFacts_92 (by decide) (fun hq hf => ?_) (fun hq hf => ?_)
        · refine v_sub [1, 2, 3] (L2 := [(0, va_rf (some a14)), (1, va_rf (some a8)), (3, .int l3)]) rfl ?_
          exact t_X11_layFacts_b117 hrec_68 hf
        · refine v_aload_n (x := (some a14)) dX11_layFacts_95 rfl 1 rfl ?_
          refine v_getr cb_2 hk_a14 8 208 rfl (by decide) rfl (lk_n kw_1195 rfl) hf dX11_layFacts_96 (fun r17 hf => ?_)
          refine v_iload_n (x := l3) dX11_layFacts_99 rfl 3 rfl ?_
          refine v_aload (x := (some a12)) dX11_layFacts_100 0 rfl ?_
          obtain ⟨hk_a12, hf⟩ := gt_of hf
          refine v_geti cb_9 hk_a12 0 900 rfl (by decide) rfl (lk_n kw_586 rfl) hf dX11_layFacts_102 (fun x18 hf => ?_)
          obtain ⟨a19, rfl, hf⟩ := nn_of hf
          obtain ⟨hk_a19, hf⟩ := gt_of hf
          refine v_iast2 hk_a19 hf dX11_layFacts_105 (fun s20 hts20 hf => ?_)
          have hk_a8 := tk_ hts20 hk_a8
          have hk_a14 := tk_ hts20 hk_a14
          have hk_a12 := tk_ hts20 hk_a12
          refine v_aload_n (x := (some a14)) dX11_layFacts_106 rfl 1 rfl ?_
          refine v_getr cb_2 hk_a14 9 209 rfl (by decide) rfl (lk_n kw_1197 rfl) hf dX11_layFacts_107 (fun r21 hf => ?_)
          refine v_iload_n (x := l3) dX11_layFacts_110 rfl 3 rfl ?_
          refine v_aload (x := (some a12)) dX11_layFacts_111 0 rfl ?_
          refine v_geti cb_9 hk_a12 0 900 rfl (by decide) rfl (lk_n kw_586 rfl) hf dX11_layFacts_113 (fun x22 hf => ?_)
          obtain ⟨a23, rfl, hf⟩ := nn_of hf
          obtain ⟨hk_a23, hf⟩ := gt_of hf
          refine v_iast2 hk_a23 hf dX11_layFacts_116 (fun s24 hts24 hf => ?_)
          have hk_a8 := tk_ hts24 hk_a8
          have hk_a14 := tk_ hts24 hk_a14
          have hk_a12 := tk_ hts24 hk_a12
          refine v_sub [1, 2, 3] (L2 := [(0, va_rf (some a14)), (1, va_rf (some a8)), (3, .int l3)]) rfl ?_
          exact t_X11_layFacts_b117 hrec_68 hf
def f_X11_layFacts_b56 (σ : TH) (l0 : Option Nat) (l1 : Option Nat) (l2 : Int32) : Option (Unit × TH) :=
  nn_ l1 fun a3 => gt_ (kd_ σ a3 = 4) <| bd_ (f_X2_kindsTold σ a3) fun x4 s5 => nn_ l0 fun a6 => gt_ (kd_ s5 a6 = 3) <| lt_ (si_ s5 206 a6 (l2 &&& x4)) fun s7 => f_X11_layFacts_b68 fu_ s7 (some a6) (some a3) (0 : Int32)
set_option maxHeartbeats 4000000 in
set_option maxRecDepth 100000 in
theorem t_X11_layFacts_b56 {l : Launch} {D : va_G} {cy : Nat → ClassId} {ka : Nat → Nat} {σ0 z : TH} {r : Unit}  {σ : TH} {l0 : Option Nat} {l1 : Option Nat} {l2 : Int32} (hf : f_X11_layFacts_b56 σ l0 l1 l2 = some (r, z)) : v_ l D cy ka cX11_layFacts RX11 5 none "layFacts" 3 63 (qf_ D cy σ0 z none) σ0 z σ 56 [(0, va_rf l0), (1, va_rf l1), (2, .int l2)] [] := by
  unfold f_X11_layFacts_b56 at hf
  refine v_aload_n (x := l0) dX11_layFacts_56 rfl 0 rfl ?_
  refine v_iload_n (x := l2) dX11_layFacts_57 rfl 2 rfl ?_
  refine v_aload_n (x := l1) dX11_layFacts_58 rfl 1 rfl ?_
  obtain ⟨a3, rfl, hf⟩ := nn_of hf
  obtain ⟨hk_a3, hf⟩ := gt_of hf
  obtain ⟨x4, s5, hcs5, hf⟩ := bd_of hf
  have hts5 := c_X2_kindsTold (l := l) (D := D) (cy := cy) (ka := ka) hcs5
  refine v_callV cb_3 hk_a3 (As := []) (rest := [.int l2, va_rf l0]) hts5 yb_X2_kindsTold kw_542 kw_543 kw_544 rfl ⟨Nat.le_of_ble_eq_true rfl, Nat.le_of_ble_eq_true rfl⟩ rfl (cat_len (Nat.le_of_ble_eq_true rfl)) dX11_layFacts_59 ?_
  have hk_a3 := tk_ hts5.1 hk_a3
  show v_ l D cy ka cX11_layFacts RX11 5 none "layFacts" 3 63 (qf_ D cy σ0 z none) σ0 z _ 62 [(0, va_rf l0), (1, va_rf (some a3)), (2, .int l2)] [.int x4, .int l2, va_rf l0]
  refine v_iand dX11_layFacts_62 ?_
  obtain ⟨a6, rfl, hf⟩ := nn_of hf
  obtain ⟨hk_a6, hf⟩ := gt_of hf
  refine v_puti2 cb_2 hk_a6 6 206 rfl (by decide) rfl (lk_n kw_1191 rfl) (Or.inl rfl) rfl rfl hf dX11_layFacts_63 (fun s7 hts7 hf => ?_)
  have hk_a3 := tk_ hts7 hk_a3
  have hk_a6 := tk_ hts7 hk_a6
  refine v_iconst (v := 0) dX11_layFacts_66 (by decide) ?_
  refine v_istore_n [(3, .int (0 : Int32)), (0, va_rf (some a6)), (1, va_rf (some a3)), (2, .int l2)] dX11_layFacts_67 rfl (by decide) rfl ?_
  refine v_sub [1, 2, 0] (L2 := [(0, va_rf (some a6)), (1, va_rf (some a3)), (3, .int (0 : Int32))]) rfl ?_
  exact t_X11_layFacts_b68  _ _ _ _ _ hf
def f_X11_layFacts_b50 (rec_4 : TH → Option Nat → Option Nat → Int32 → Int32 → Option (Unit × TH)) (σ : TH) (l0 : Option Nat) (l1 : Option Nat) (l2 : Int32) (l3 : Int32) : Option (Unit × TH) :=
  lt_ (l3 + 1) fun x29 => rec_4 σ l0 l1 l2 x29
set_option maxHeartbeats 4000000 in
set_option maxRecDepth 100000 in
theorem t_X11_layFacts_b50 {l : Launch} {D : va_G} {cy : Nat → ClassId} {ka : Nat → Nat} {σ0 z : TH} {r : Unit} {rec_4 : TH → Option Nat → Option Nat → Int32 → Int32 → Option (Unit × TH)} (hrec_4 : ∀ (σ : TH) (l0 : Option Nat) (l1 : Option Nat) (l2 : Int32) (l3 : Int32), rec_4 σ l0 l1 l2 l3 = some (r, z) → v_ l D cy ka cX11_layFacts RX11 5 none "layFacts" 3 63 (qf_ D cy σ0 z none) σ0 z σ 4 [(0, va_rf l0), (1, va_rf l1), (2, .int l2), (3, .int l3)] []) {σ : TH} {l0 : Option Nat} {l1 : Option Nat} {l2 : Int32} {l3 : Int32} (hf : f_X11_layFacts_b50 rec_4 σ l0 l1 l2 l3 = some (r, z)) : v_ l D cy ka cX11_layFacts RX11 5 none "layFacts" 3 63 (qf_ D cy σ0 z none) σ0 z σ 50 [(0, va_rf l0), (1, va_rf l1), (2, .int l2), (3, .int l3)] [] := by
  unfold f_X11_layFacts_b50 at hf
  obtain ⟨x29, ex29⟩ : ∃ y : Int32, y = l3 + 1 := ⟨_, rfl⟩
  rw [lt_e, ← ex29] at hf
  refine v_iinc (v := x29) [(3, .int x29), (0, va_rf l0), (1, va_rf l1), (2, .int l2)] dX11_layFacts_50 3 rfl (by rw [ex29]; rfl) (by decide) rfl ?_
  refine v_goto (tgt := 4) dX11_layFacts_53 (by decide) ?_
  refine v_sub [1, 2, 3, 0] (L2 := [(0, va_rf l0), (1, va_rf l1), (2, .int l2), (3, .int x29)]) rfl ?_
  exact hrec_4 _ _ _ _ _ hf
def f_X11_layFacts_b4 : Nat → TH → Option Nat → Option Nat → Int32 → Int32 → Option (Unit × TH)
  | 0, _, _, _, _, _ => none
  | n + 1, σ, l0, l1, l2, l3 => nn_ l1 fun a1 => gt_ (kd_ σ a1 = 4) <| lt_ (fi_ σ 313 a1) fun x2 => if x2 ≤ l3 then (f_X11_layFacts_b56 σ l0 (some a1) l2) else (if (14 : Int32) ≤ l3 then (f_X11_layFacts_b56 σ l0 (some a1) l2) else (lt_ (fr_ σ 310 a1) fun r25 => nn_ r25 fun a26 => gt_ (kd_ σ a26 = 26) <| gt_ (¬ (l3 < 0 ∨ ln_ σ a26 ≤ l3.toNatClampNeg)) <| lt_ (ar_ σ a26 l3.toNatClampNeg) fun r27 => oc_ r27 (f_X11_layFacts_b50 (f_X11_layFacts_b4 n) σ l0 (some a1) l2 l3) (fun a28 => nn_ l0 fun a30 => gt_ (kd_ σ a30 = 3) <| lt_ (fi_ σ 203 a30) fun x31 => if (x31 &&& ((1 : Int32) <<< (l3 &&& 31))) = 0 then (f_X11_layFacts_b50 (f_X11_layFacts_b4 n) σ (some a30) (some a1) l2 l3) else (gt_ (kd_ σ a28 = 11) <| lt_ (fi_ σ 1001 a28) fun x32 => lt_ (l2 ||| x32) fun x33 => f_X11_layFacts_b50 (f_X11_layFacts_b4 n) σ (some a30) (some a1) x33 l3))))
set_option maxHeartbeats 4000000 in
set_option maxRecDepth 100000 in
theorem t_X11_layFacts_b4 {l : Launch} {D : va_G} {cy : Nat → ClassId} {ka : Nat → Nat} {σ0 z : TH} {r : Unit}  : ∀ (n : Nat) (σ : TH) (l0 : Option Nat) (l1 : Option Nat) (l2 : Int32) (l3 : Int32), f_X11_layFacts_b4 n σ l0 l1 l2 l3 = some (r, z) → v_ l D cy ka cX11_layFacts RX11 5 none "layFacts" 3 63 (qf_ D cy σ0 z none) σ0 z σ 4 [(0, va_rf l0), (1, va_rf l1), (2, .int l2), (3, .int l3)] [] := by
  intro n
  induction n with
  | zero => intro σ l0 l1 l2 l3 hf; unfold f_X11_layFacts_b4 at hf; cases hf
  | succ n ih =>
    intro σ l0 l1 l2 l3 hf
    unfold f_X11_layFacts_b4 at hf
    have hrec_4 := ih
    refine v_iload_n (x := l3) dX11_layFacts_4 rfl 3 rfl ?_
    refine v_aload_n (x := l1) dX11_layFacts_5 rfl 1 rfl ?_
    obtain ⟨a1, rfl, hf⟩ := nn_of hf
    obtain ⟨hk_a1, hf⟩ := gt_of hf
    refine v_geti cb_3 hk_a1 13 313 rfl (by decide) rfl (lk_n kw_492 rfl) hf dX11_layFacts_6 (fun x2 hf => ?_)
    refine v_icmp_ge (tgt := 56) hf dX11_layFacts_9 (by decide) (fun hq hf => ?_) (fun hq hf => ?_)
    · refine v_sub [0, 1, 2] (L2 := [(0, va_rf l0), (1, va_rf (some a1)), (2, .int l2)]) rfl ?_
      exact t_X11_layFacts_b56  hf
    · refine v_iload_n (x := l3) dX11_layFacts_12 rfl 3 rfl ?_
      refine v_bipush (v := 14) dX11_layFacts_13 (by decide) ?_
      refine v_icmp_ge (tgt := 56) hf dX11_layFacts_15 (by decide) (fun hq hf => ?_) (fun hq hf => ?_)
      · refine v_sub [0, 1, 2] (L2 := [(0, va_rf l0), (1, va_rf (some a1)), (2, .int l2)]) rfl ?_
        exact t_X11_layFacts_b56  hf
      · refine v_aload_n (x := (some a1)) dX11_layFacts_18 rfl 1 rfl ?_
        refine v_getr cb_3 hk_a1 10 310 rfl (by decide) rfl (lk_n kw_486 rfl) hf dX11_layFacts_19 (fun r25 hf => ?_)
        refine v_iload_n (x := l3) dX11_layFacts_22 rfl 3 rfl ?_
        obtain ⟨a26, rfl, hf⟩ := nn_of hf
        obtain ⟨hk_a26, hf⟩ := gt_of hf
        refine v_aald 25 6 RX9 hk_a26 (by decide) rfl hf dX11_layFacts_23 (fun r27 hf => ?_)
        refine v_astore [(4, va_rf r27), (0, va_rf l0), (1, va_rf (some a1)), (2, .int l2), (3, .int l3)] dX11_layFacts_24 (by decide) rfl ?_
        refine v_aload (x := r27) dX11_layFacts_26 0 rfl ?_
        refine v_ifnull2 (tgt := 50) hf dX11_layFacts_28 (by decide) (fun e9 hf => ?_) (fun a28 e9 hf => ?_)
        · subst e9
          refine v_sub [1, 2, 3, 4] (L2 := [(0, va_rf l0), (1, va_rf (some a1)), (2, .int l2), (3, .int l3)]) rfl ?_
          exact t_X11_layFacts_b50 hrec_4 hf
        · subst e9
          refine v_aload_n (x := l0) dX11_layFacts_31 rfl 1 rfl ?_
          obtain ⟨a30, rfl, hf⟩ := nn_of hf
          obtain ⟨hk_a30, hf⟩ := gt_of hf
          refine v_geti cb_2 hk_a30 3 203 rfl (by decide) rfl (lk_n kw_1185 rfl) hf dX11_layFacts_32 (fun x31 hf => ?_)
          refine v_iconst (v := 1) dX11_layFacts_35 (by decide) ?_
          refine v_iload_n (x := l3) dX11_layFacts_36 rfl 4 rfl ?_
          refine v_ishl dX11_layFacts_37 ?_
          refine v_iand dX11_layFacts_38 ?_
          refine v_if_eq (tgt := 50) hf dX11_layFacts_39 (by decide) (fun hq hf => ?_) (fun hq hf => ?_)
          · refine v_sub [1, 2, 3, 4] (L2 := [(0, va_rf (some a30)), (1, va_rf (some a1)), (2, .int l2), (3, .int l3)]) rfl ?_
            exact t_X11_layFacts_b50 hrec_4 hf
          · refine v_iload_n (x := l2) dX11_layFacts_42 rfl 3 rfl ?_
            refine v_aload (x := (some a28)) dX11_layFacts_43 0 rfl ?_
            obtain ⟨hk_a28, hf⟩ := gt_of hf
            refine v_geti cb_10 hk_a28 1 1001 rfl (by decide) rfl (lk_n kw_870 rfl) hf dX11_layFacts_45 (fun x32 hf => ?_)
            refine v_ior dX11_layFacts_48 ?_
            obtain ⟨x33, ex33⟩ : ∃ y : Int32, y = l2 ||| x32 := ⟨_, rfl⟩
            rw [lt_e, ← ex33] at hf
            rw [← ex33]
            refine v_istore_n [(2, .int x33), (4, va_rf (some a28)), (0, va_rf (some a30)), (1, va_rf (some a1)), (3, .int l3)] dX11_layFacts_49 rfl (by decide) rfl ?_
            refine v_sub [2, 3, 0, 4] (L2 := [(0, va_rf (some a30)), (1, va_rf (some a1)), (2, .int x33), (3, .int l3)]) rfl ?_
            exact t_X11_layFacts_b50 hrec_4 hf
/-- LivesAhead.layFacts(LLivesAhead$Edition;LLivesAhead$Person;)V -/
def f_X11_layFacts (σ : TH) (p0 : Option Nat) (p1 : Option Nat) : Option (Unit × TH) :=
  f_X11_layFacts_b4 fu_ σ p0 p1 (0 : Int32) (0 : Int32)
set_option maxHeartbeats 4000000 in
set_option maxRecDepth 100000 in
theorem c_X11_layFacts {l : Launch} {D : va_G} {cy : Nat → ClassId} {ka : Nat → Nat} {σ z : TH} {p0 : Option Nat} {p1 : Option Nat} {r : Unit} (hf : f_X11_layFacts σ p0 p1 = some (r, z)) : ct_ l D cy ka yX11_layFacts 3 63 [va_rf p0, va_rf p1] σ none z := by
  unfold f_X11_layFacts at hf
  refine v_start (cc := cX11_layFacts) (own := RX11) (maxL := 5) (ret := none) (nm := "layFacts") (by decide +kernel) kw_1233 rfl rfl (by simp [lg_sl, va_rf_cat, cat_i, cat_l]) ?_
  refine v_eqL (L2 := [(0, va_rf p0), (1, va_rf p1)]) (by simp [lv_args, va_rf_cat, cat_i, cat_l]) ?_
  refine v_iconst (v := 0) dX11_layFacts_0 (by decide) ?_
  refine v_istore_n [(2, .int (0 : Int32)), (0, va_rf p0), (1, va_rf p1)] dX11_layFacts_1 rfl (by decide) (by simp [va_rf_cat, cat_i, cat_l]) ?_
  refine v_iconst (v := 0) dX11_layFacts_2 (by decide) ?_
  refine v_istore_n [(3, .int (0 : Int32)), (2, .int (0 : Int32)), (0, va_rf p0), (1, va_rf p1)] dX11_layFacts_3 rfl (by decide) rfl ?_
  refine v_sub [2, 3, 1, 0] (L2 := [(0, va_rf p0), (1, va_rf p1), (2, .int (0 : Int32)), (3, .int (0 : Int32))]) rfl ?_
  exact t_X11_layFacts_b4  _ _ _ _ _ _ hf
theorem dX3_isFree_0 : decode cX3_isFree 0 = .ok (.iload_n 1, 1) := by decide +kernel
theorem dX3_isFree_1 : decode cX3_isFree 1 = .ok (.aload_n 0, 1) := by decide +kernel
theorem dX3_isFree_2 : decode cX3_isFree 2 = .ok (.getfield 19, 3) := by decide +kernel
theorem dX3_isFree_5 : decode cX3_isFree 5 = .ok (.if_icmp .lt 26, 3) := by decide +kernel
theorem dX3_isFree_8 : decode cX3_isFree 8 = .ok (.iload_n 1, 1) := by decide +kernel
theorem dX3_isFree_9 : decode cX3_isFree 9 = .ok (.aload_n 0, 1) := by decide +kernel
theorem dX3_isFree_10 : decode cX3_isFree 10 = .ok (.getfield 22, 3) := by decide +kernel
theorem dX3_isFree_13 : decode cX3_isFree 13 = .ok (.if_icmp .gt 18, 3) := by decide +kernel
theorem dX3_isFree_16 : decode cX3_isFree 16 = .ok (.aload_n 0, 1) := by decide +kernel
theorem dX3_isFree_17 : decode cX3_isFree 17 = .ok (.getfield 7, 3) := by decide +kernel
theorem dX3_isFree_20 : decode cX3_isFree 20 = .ok (.aload_n 0, 1) := by decide +kernel
theorem dX3_isFree_21 : decode cX3_isFree 21 = .ok (.getfield 25, 3) := by decide +kernel
theorem dX3_isFree_24 : decode cX3_isFree 24 = .ok (.if_icmp .ge 7, 3) := by decide +kernel
theorem dX3_isFree_27 : decode cX3_isFree 27 = .ok (.iconst 1, 1) := by decide +kernel
theorem dX3_isFree_28 : decode cX3_isFree 28 = .ok (.goto 4, 3) := by decide +kernel
theorem dX3_isFree_31 : decode cX3_isFree 31 = .ok (.iconst 0, 1) := by decide +kernel
theorem dX3_isFree_32 : decode cX3_isFree 32 = .ok (.ireturn, 1) := by decide +kernel
def f_X3_isFree_b32 (σ : TH) (t0 : Int32) : Option (Int32 × TH) :=
  gt_ (t0 = 0 ∨ t0 = 1) <| some (t0, σ)
set_option maxHeartbeats 4000000 in
set_option maxRecDepth 100000 in
theorem t_X3_isFree_b32 {l : Launch} {D : va_G} {cy : Nat → ClassId} {ka : Nat → Nat} {σ0 z : TH} {r : Int32}  {σ : TH} {t0 : Int32} (hf : f_X3_isFree_b32 σ t0 = some (r, z)) : v_ l D cy ka cX3_isFree RX3 2 (some FieldType.boolean) "isFree" 0 0 (qf_ D cy σ0 z (some (.int r))) σ0 z σ 32 [] [.int t0] := by
  unfold f_X3_isFree_b32 at hf
  obtain ⟨hb9, hf⟩ := gt_of hf
  exact v_zret hf (nz_ hb9) dX3_isFree_32
def f_X3_isFree_b31 (σ : TH) : Option (Int32 × TH) :=
  f_X3_isFree_b32 σ (0 : Int32)
set_option maxHeartbeats 4000000 in
set_option maxRecDepth 100000 in
theorem t_X3_isFree_b31 {l : Launch} {D : va_G} {cy : Nat → ClassId} {ka : Nat → Nat} {σ0 z : TH} {r : Int32}  {σ : TH}  (hf : f_X3_isFree_b31 σ  = some (r, z)) : v_ l D cy ka cX3_isFree RX3 2 (some FieldType.boolean) "isFree" 0 0 (qf_ D cy σ0 z (some (.int r))) σ0 z σ 31 [] [] := by
  unfold f_X3_isFree_b31 at hf
  refine v_iconst (v := 0) dX3_isFree_31 (by decide) ?_
  refine v_sub [] (L2 := []) rfl ?_
  exact t_X3_isFree_b32  hf
/-- LivesAhead$Picture.isFree(I)Z -/
def f_X3_isFree (σ : TH) (p0 : Nat) (p1 : Int32) : Option (Int32 × TH) :=
  gt_ (kd_ σ p0 = 5) <| lt_ (fi_ σ 402 p0) fun x1 => if p1 < x1 then (f_X3_isFree_b31 σ ) else (lt_ (fi_ σ 403 p0) fun x2 => if x2 < p1 then (f_X3_isFree_b31 σ ) else (lt_ (fi_ σ 405 p0) fun x3 => lt_ (fi_ σ 404 p0) fun x4 => if x4 ≤ x3 then (f_X3_isFree_b31 σ ) else (f_X3_isFree_b32 σ (1 : Int32))))
set_option maxHeartbeats 4000000 in
set_option maxRecDepth 100000 in
theorem c_X3_isFree {l : Launch} {D : va_G} {cy : Nat → ClassId} {ka : Nat → Nat} {σ z : TH} {p0 : Nat} {p1 : Int32} {r : Int32} (hf : f_X3_isFree σ p0 p1 = some (r, z)) : ct_ l D cy ka yX3_isFree 0 0 [va_rf (some p0), .int p1] σ (some (.int r)) z := by
  unfold f_X3_isFree at hf
  refine v_start (cc := cX3_isFree) (own := RX3) (maxL := 2) (ret := (some FieldType.boolean)) (nm := "isFree") (by decide +kernel) kw_1226 rfl rfl (by simp [lg_sl, va_rf_cat, cat_i, cat_l]) ?_
  refine v_eqL (L2 := [(0, va_rf (some p0)), (1, .int p1)]) (by simp [lv_args, va_rf_cat, cat_i, cat_l]) ?_
  refine v_iload_n (x := p1) dX3_isFree_0 rfl 1 rfl ?_
  refine v_aload_n (x := (some p0)) dX3_isFree_1 rfl 0 rfl ?_
  obtain ⟨hk_p0, hf⟩ := gt_of hf
  refine v_geti cb_4 hk_p0 2 402 rfl (by decide) rfl (lk_n kw_1111 rfl) hf dX3_isFree_2 (fun x1 hf => ?_)
  refine v_icmp_lt (tgt := 31) hf dX3_isFree_5 (by decide) (fun hq hf => ?_) (fun hq hf => ?_)
  · refine v_sub [] (L2 := []) rfl ?_
    exact t_X3_isFree_b31  hf
  · refine v_iload_n (x := p1) dX3_isFree_8 rfl 1 rfl ?_
    refine v_aload_n (x := (some p0)) dX3_isFree_9 rfl 0 rfl ?_
    refine v_geti cb_4 hk_p0 3 403 rfl (by decide) rfl (lk_n kw_1112 rfl) hf dX3_isFree_10 (fun x2 hf => ?_)
    refine v_icmp_gt (tgt := 31) hf dX3_isFree_13 (by decide) (fun hq hf => ?_) (fun hq hf => ?_)
    · refine v_sub [] (L2 := []) rfl ?_
      exact t_X3_isFree_b31  hf
    · refine v_aload_n (x := (some p0)) dX3_isFree_16 rfl 0 rfl ?_
      refine v_geti cb_4 hk_p0 5 405 rfl (by decide) rfl (lk_n kw_1114 rfl) hf dX3_isFree_17 (fun x3 hf => ?_)
      refine v_aload_n (x := (some p0)) dX3_isFree_20 rfl 0 rfl ?_
      refine v_geti cb_4 hk_p0 4 404 rfl (by decide) rfl (lk_n kw_1113 rfl) hf dX3_isFree_21 (fun x4 hf => ?_)
      refine v_icmp_ge (tgt := 31) hf dX3_isFree_24 (by decide) (fun hq hf => ?_) (fun hq hf => ?_)
      · refine v_sub [] (L2 := []) rfl ?_
        exact t_X3_isFree_b31  hf
      · refine v_iconst (v := 1) dX3_isFree_27 (by decide) ?_
        refine v_goto (tgt := 32) dX3_isFree_28 (by decide) ?_
        refine v_sub [] (L2 := []) rfl ?_
        exact t_X3_isFree_b32  hf
theorem dX1_init_0 : decode cX1_init 0 = .ok (.aload_n 0, 1) := by decide +kernel
theorem dX1_init_1 : decode cX1_init 1 = .ok (.invokespecial 3, 3) := by decide +kernel
theorem dX1_init_4 : decode cX1_init 4 = .ok (.aload_n 0, 1) := by decide +kernel
theorem dX1_init_5 : decode cX1_init 5 = .ok (.iconst 0, 1) := by decide +kernel
theorem dX1_init_6 : decode cX1_init 6 = .ok (.putfield 9, 3) := by decide +kernel
theorem dX1_init_9 : decode cX1_init 9 = .ok (.aload_n 0, 1) := by decide +kernel
theorem dX1_init_10 : decode cX1_init 10 = .ok (.iconst 0, 1) := by decide +kernel
theorem dX1_init_11 : decode cX1_init 11 = .ok (.putfield 15, 3) := by decide +kernel
theorem dX1_init_14 : decode cX1_init 14 = .ok (.aload_n 0, 1) := by decide +kernel
theorem dX1_init_15 : decode cX1_init 15 = .ok (.bipush (-2), 2) := by decide +kernel
theorem dX1_init_17 : decode cX1_init 17 = .ok (.putfield 18, 3) := by decide +kernel
theorem dX1_init_20 : decode cX1_init 20 = .ok (.aload_n 0, 1) := by decide +kernel
theorem dX1_init_21 : decode cX1_init 21 = .ok (.iconst 0, 1) := by decide +kernel
theorem dX1_init_22 : decode cX1_init 22 = .ok (.putfield 21, 3) := by decide +kernel
theorem dX1_init_25 : decode cX1_init 25 = .ok (.aload_n 0, 1) := by decide +kernel
theorem dX1_init_26 : decode cX1_init 26 = .ok (.iconst 0, 1) := by decide +kernel
theorem dX1_init_27 : decode cX1_init 27 = .ok (.putfield 24, 3) := by decide +kernel
theorem dX1_init_30 : decode cX1_init 30 = .ok (.aload_n 0, 1) := by decide +kernel
theorem dX1_init_31 : decode cX1_init 31 = .ok (.iconst 0, 1) := by decide +kernel
theorem dX1_init_32 : decode cX1_init 32 = .ok (.putfield 27, 3) := by decide +kernel
theorem dX1_init_35 : decode cX1_init 35 = .ok (.aload_n 0, 1) := by decide +kernel
theorem dX1_init_36 : decode cX1_init 36 = .ok (.bipush 10, 2) := by decide +kernel
theorem dX1_init_38 : decode cX1_init 38 = .ok (.newarray .int, 2) := by decide +kernel
theorem dX1_init_40 : decode cX1_init 40 = .ok (.putfield 30, 3) := by decide +kernel
theorem dX1_init_43 : decode cX1_init 43 = .ok (.aload_n 0, 1) := by decide +kernel
theorem dX1_init_44 : decode cX1_init 44 = .ok (.bipush 10, 2) := by decide +kernel
theorem dX1_init_46 : decode cX1_init 46 = .ok (.newarray .int, 2) := by decide +kernel
theorem dX1_init_48 : decode cX1_init 48 = .ok (.putfield 34, 3) := by decide +kernel
theorem dX1_init_51 : decode cX1_init 51 = .ok (.aload_n 0, 1) := by decide +kernel
theorem dX1_init_52 : decode cX1_init 52 = .ok (.iload_n 1, 1) := by decide +kernel
theorem dX1_init_53 : decode cX1_init 53 = .ok (.putfield 37, 3) := by decide +kernel
theorem dX1_init_56 : decode cX1_init 56 = .ok (.aload_n 0, 1) := by decide +kernel
theorem dX1_init_57 : decode cX1_init 57 = .ok (.iload_n 2, 1) := by decide +kernel
theorem dX1_init_58 : decode cX1_init 58 = .ok (.putfield 40, 3) := by decide +kernel
theorem dX1_init_61 : decode cX1_init 61 = .ok (.return_, 1) := by decide +kernel
/-- LivesAhead$Edition.<init>(II)V -/
def f_X1_init (σ : TH) (p0 : Nat) (p1 : Int32) (p2 : Int32) : Option (Unit × TH) :=
  gt_ (kd_ σ p0 = 3) <| lt_ (si_ σ 202 p0 (0 : Int32)) fun s1 => lt_ (si_ s1 203 p0 (0 : Int32)) fun s2 => lt_ (si_ s2 204 p0 (-2 : Int32)) fun s3 => lt_ (si_ s3 205 p0 (0 : Int32)) fun s4 => lt_ (si_ s4 206 p0 (0 : Int32)) fun s5 => lt_ (si_ s5 207 p0 (0 : Int32)) fun s6 => gt_ (¬ (10 : Int32) < 0 ∧ (10 : Int32).toNatClampNeg ≤ 100000 ∧ kd_ s6 (nx_ s6) = 0) <| lt_ (nx_ s6) fun a7 => lt_ (nw_ s6 20 ((10 : Int32).toNatClampNeg) ((10 : Int32).toNatClampNeg)) fun s8 => lt_ (sr_ s8 208 p0 ((some a7))) fun s9 => gt_ (¬ (10 : Int32) < 0 ∧ (10 : Int32).toNatClampNeg ≤ 100000 ∧ kd_ s9 (nx_ s9) = 0) <| lt_ (nx_ s9) fun a10 => lt_ (nw_ s9 20 ((10 : Int32).toNatClampNeg) ((10 : Int32).toNatClampNeg)) fun s11 => lt_ (sr_ s11 209 p0 ((some a10))) fun s12 => lt_ (si_ s12 200 p0 p1) fun s13 => lt_ (si_ s13 201 p0 p2) fun s14 => some ((), s14)
set_option maxHeartbeats 4000000 in
set_option maxRecDepth 100000 in
theorem c_X1_init {l : Launch} {D : va_G} {cy : Nat → ClassId} {ka : Nat → Nat} {σ z : TH} {p0 : Nat} {p1 : Int32} {p2 : Int32} {r : Unit} (hf : f_X1_init σ p0 p1 p2 = some (r, z)) : ct_ l D cy ka yX1_init 1 20 [va_rf (some p0), .int p1, .int p2] σ none z := by
  unfold f_X1_init at hf
  refine v_start (cc := cX1_init) (own := RX1) (maxL := 3) (ret := none) (nm := "<init>") (by decide +kernel) kw_1176 rfl rfl (by simp [lg_sl, va_rf_cat, cat_i, cat_l]) ?_
  refine v_eqL (L2 := [(0, va_rf (some p0)), (1, .int p1), (2, .int p2)]) (by simp [lv_args, va_rf_cat, cat_i, cat_l]) ?_
  refine v_aload_n (x := (some p0)) dX1_init_0 rfl 0 rfl ?_
  refine v_objInit kw_1177 kw_40 kw_41 (by decide) (by decide) (cat_len (Nat.le_of_ble_eq_true rfl)) dX1_init_1 ?_
  refine v_aload_n (x := (some p0)) dX1_init_4 rfl 0 rfl ?_
  refine v_iconst (v := 0) dX1_init_5 (by decide) ?_
  obtain ⟨hk_p0, hf⟩ := gt_of hf
  refine v_puti2 cb_2 hk_p0 2 202 rfl (by decide) rfl (lk_n kw_1182 rfl) (Or.inl rfl) rfl rfl hf dX1_init_6 (fun s1 hts1 hf => ?_)
  have hk_p0 := tk_ hts1 hk_p0
  refine v_aload_n (x := (some p0)) dX1_init_9 rfl 0 rfl ?_
  refine v_iconst (v := 0) dX1_init_10 (by decide) ?_
  refine v_puti2 cb_2 hk_p0 3 203 rfl (by decide) rfl (lk_n kw_1184 rfl) (Or.inl rfl) rfl rfl hf dX1_init_11 (fun s2 hts2 hf => ?_)
  have hk_p0 := tk_ hts2 hk_p0
  refine v_aload_n (x := (some p0)) dX1_init_14 rfl 0 rfl ?_
  refine v_bipush (v := (-2)) dX1_init_15 (by decide) ?_
  refine v_puti2 cb_2 hk_p0 4 204 rfl (by decide) rfl (lk_n kw_1186 rfl) (Or.inl rfl) rfl rfl hf dX1_init_17 (fun s3 hts3 hf => ?_)
  have hk_p0 := tk_ hts3 hk_p0
  refine v_aload_n (x := (some p0)) dX1_init_20 rfl 0 rfl ?_
  refine v_iconst (v := 0) dX1_init_21 (by decide) ?_
  refine v_puti2 cb_2 hk_p0 5 205 rfl (by decide) rfl (lk_n kw_1188 rfl) (Or.inl rfl) rfl rfl hf dX1_init_22 (fun s4 hts4 hf => ?_)
  have hk_p0 := tk_ hts4 hk_p0
  refine v_aload_n (x := (some p0)) dX1_init_25 rfl 0 rfl ?_
  refine v_iconst (v := 0) dX1_init_26 (by decide) ?_
  refine v_puti2 cb_2 hk_p0 6 206 rfl (by decide) rfl (lk_n kw_1190 rfl) (Or.inl rfl) rfl rfl hf dX1_init_27 (fun s5 hts5 hf => ?_)
  have hk_p0 := tk_ hts5 hk_p0
  refine v_aload_n (x := (some p0)) dX1_init_30 rfl 0 rfl ?_
  refine v_iconst (v := 0) dX1_init_31 (by decide) ?_
  refine v_puti2 cb_2 hk_p0 7 207 rfl (by decide) rfl (lk_n kw_1192 rfl) (Or.inl rfl) rfl rfl hf dX1_init_32 (fun s6 hts6 hf => ?_)
  have hk_p0 := tk_ hts6 hk_p0
  refine v_aload_n (x := (some p0)) dX1_init_35 rfl 0 rfl ?_
  refine v_bipush (v := 10) dX1_init_36 (by decide) ?_
  refine v_newaI2 kw_135 hf dX1_init_38 (fun a7 s8 hts8 hk_a7 hf => ?_)
  have hk_p0 := tk_ hts8 hk_p0
  refine v_putr2 cb_2 hk_p0 8 208 rfl (by decide) rfl (lk_n kw_1194 rfl) (Or.inr ⟨rfl, rfl, rfl, rfl, kw_1194⟩) (nr_ _ (Or.inr ⟨_, rfl⟩)) (fr9_ _ (Or.inr ⟨_, rfl⟩)) hf dX1_init_40 (fun s9 hts9 hf => ?_)
  have hk_p0 := tk_ hts9 hk_p0
  refine v_aload_n (x := (some p0)) dX1_init_43 rfl 0 rfl ?_
  refine v_bipush (v := 10) dX1_init_44 (by decide) ?_
  refine v_newaI2 kw_135 hf dX1_init_46 (fun a10 s11 hts11 hk_a10 hf => ?_)
  have hk_p0 := tk_ hts11 hk_p0
  refine v_putr2 cb_2 hk_p0 9 209 rfl (by decide) rfl (lk_n kw_1196 rfl) (Or.inr ⟨rfl, rfl, rfl, rfl, kw_1196⟩) (nr_ _ (Or.inr ⟨_, rfl⟩)) (fr9_ _ (Or.inr ⟨_, rfl⟩)) hf dX1_init_48 (fun s12 hts12 hf => ?_)
  have hk_p0 := tk_ hts12 hk_p0
  refine v_aload_n (x := (some p0)) dX1_init_51 rfl 0 rfl ?_
  refine v_iload_n (x := p1) dX1_init_52 rfl 1 rfl ?_
  refine v_puti2 cb_2 hk_p0 0 200 rfl (by decide) rfl (lk_n kw_1178 rfl) (Or.inr ⟨rfl, rfl, rfl, rfl, kw_1178⟩) rfl rfl hf dX1_init_53 (fun s13 hts13 hf => ?_)
  have hk_p0 := tk_ hts13 hk_p0
  refine v_aload_n (x := (some p0)) dX1_init_56 rfl 0 rfl ?_
  refine v_iload_n (x := p2) dX1_init_57 rfl 2 rfl ?_
  refine v_puti2 cb_2 hk_p0 1 201 rfl (by decide) rfl (lk_n kw_1180 rfl) (Or.inr ⟨rfl, rfl, rfl, rfl, kw_1180⟩) rfl rfl hf dX1_init_58 (fun s14 hts14 hf => ?_)
  have hk_p0 := tk_ hts14 hk_p0
  exact v_vret hf dX1_init_61
theorem dX11_isValue_0 : decode cX11_isValue 0 = .ok (.iload_n 0, 1) := by decide +kernel
theorem dX11_isValue_1 : decode cX11_isValue 1 = .ok (.sipush (-9999), 3) := by decide +kernel
theorem dX11_isValue_4 : decode cX11_isValue 4 = .ok (.sipush 9999, 3) := by decide +kernel
theorem dX11_isValue_7 : decode cX11_isValue 7 = .ok (.invokestatic 93, 3) := by decide +kernel
theorem dX11_isValue_10 : decode cX11_isValue 10 = .ok (.ireturn, 1) := by decide +kernel
/-- LivesAhead.isValue(I)Z -/
def f_X11_isValue (σ : TH) (p0 : Int32) : Option (Int32 × TH) :=
  bd_ (f_X11_within σ p0 (-9999 : Int32) (9999 : Int32)) fun x1 s2 => gt_ (x1 = 0 ∨ x1 = 1) <| some (x1, s2)
set_option maxHeartbeats 4000000 in
set_option maxRecDepth 100000 in
theorem c_X11_isValue {l : Launch} {D : va_G} {cy : Nat → ClassId} {ka : Nat → Nat} {σ z : TH} {p0 : Int32} {r : Int32} (hf : f_X11_isValue σ p0 = some (r, z)) : ct_ l D cy ka yX11_isValue 1 22 [.int p0] σ (some (.int r)) z := by
  unfold f_X11_isValue at hf
  refine v_start (cc := cX11_isValue) (own := RX11) (maxL := 1) (ret := (some FieldType.boolean)) (nm := "isValue") (by decide +kernel) kw_577 rfl rfl (by simp [lg_sl, va_rf_cat, cat_i, cat_l]) ?_
  refine v_eqL (L2 := [(0, .int p0)]) (by simp [lv_args, va_rf_cat, cat_i, cat_l]) ?_
  refine v_iload_n (x := p0) dX11_isValue_0 rfl 0 rfl ?_
  refine v_sipush (v := (-9999)) dX11_isValue_1 (by decide) ?_
  refine v_sipush (v := 9999) dX11_isValue_4 (by decide) ?_
  obtain ⟨x1, s2, hcs2, hf⟩ := bd_of hf
  have hts2 := c_X11_within (l := l) (D := D) (cy := cy) (ka := ka) hcs2
  refine v_callS (As := [.int p0, .int (-9999 : Int32), .int (9999 : Int32)]) (rest := []) hts2 yb_X11_within kw_304 kw_305 rfl ⟨Nat.le_of_ble_eq_true rfl, Nat.le_of_ble_eq_true rfl⟩ rfl (cat_len (Nat.le_of_ble_eq_true rfl)) dX11_isValue_7 ?_
  show v_ l D cy ka cX11_isValue RX11 1 (some FieldType.boolean) "isValue" 1 22 (qf_ D cy σ z (some (.int r))) σ z _ 10 [(0, .int p0)] [.int x1]
  obtain ⟨hb9, hf⟩ := gt_of hf
  exact v_zret hf (nz_ hb9) dX11_isValue_10
theorem dX8_init_0 : decode cX8_init 0 = .ok (.aload_n 0, 1) := by decide +kernel
theorem dX8_init_1 : decode cX8_init 1 = .ok (.invokespecial 1, 3) := by decide +kernel
theorem dX8_init_4 : decode cX8_init 4 = .ok (.aload_n 0, 1) := by decide +kernel
theorem dX8_init_5 : decode cX8_init 5 = .ok (.iload_n 1, 1) := by decide +kernel
theorem dX8_init_6 : decode cX8_init 6 = .ok (.putfield 7, 3) := by decide +kernel
theorem dX8_init_9 : decode cX8_init 9 = .ok (.aload_n 0, 1) := by decide +kernel
theorem dX8_init_10 : decode cX8_init 10 = .ok (.iload_n 2, 1) := by decide +kernel
theorem dX8_init_11 : decode cX8_init 11 = .ok (.putfield 13, 3) := by decide +kernel
theorem dX8_init_14 : decode cX8_init 14 = .ok (.aload_n 0, 1) := by decide +kernel
theorem dX8_init_15 : decode cX8_init 15 = .ok (.iload_n 3, 1) := by decide +kernel
theorem dX8_init_16 : decode cX8_init 16 = .ok (.putfield 17, 3) := by decide +kernel
theorem dX8_init_19 : decode cX8_init 19 = .ok (.aload_n 0, 1) := by decide +kernel
theorem dX8_init_20 : decode cX8_init 20 = .ok (.iload_n 3, 1) := by decide +kernel
theorem dX8_init_21 : decode cX8_init 21 = .ok (.putfield 20, 3) := by decide +kernel
theorem dX8_init_24 : decode cX8_init 24 = .ok (.aload_n 0, 1) := by decide +kernel
theorem dX8_init_25 : decode cX8_init 25 = .ok (.aload 4, 2) := by decide +kernel
theorem dX8_init_27 : decode cX8_init 27 = .ok (.putfield 23, 3) := by decide +kernel
theorem dX8_init_30 : decode cX8_init 30 = .ok (.aload_n 0, 1) := by decide +kernel
theorem dX8_init_31 : decode cX8_init 31 = .ok (.aload 4, 2) := by decide +kernel
theorem dX8_init_33 : decode cX8_init 33 = .ok (.ifnonnull 7, 3) := by decide +kernel
theorem dX8_init_36 : decode cX8_init 36 = .ok (.iconst 1, 1) := by decide +kernel
theorem dX8_init_37 : decode cX8_init 37 = .ok (.goto 10, 3) := by decide +kernel
theorem dX8_init_40 : decode cX8_init 40 = .ok (.aload 4, 2) := by decide +kernel
theorem dX8_init_42 : decode cX8_init 42 = .ok (.getfield 27, 3) := by decide +kernel
theorem dX8_init_45 : decode cX8_init 45 = .ok (.iconst 1, 1) := by decide +kernel
theorem dX8_init_46 : decode cX8_init 46 = .ok (.iadd, 1) := by decide +kernel
theorem dX8_init_47 : decode cX8_init 47 = .ok (.putfield 27, 3) := by decide +kernel
theorem dX8_init_50 : decode cX8_init 50 = .ok (.return_, 1) := by decide +kernel
def f_X8_init_b47 (σ : TH) (t0 : Int32) (t1 : Option Nat) : Option (Unit × TH) :=
  nn_ t1 fun a7 => gt_ (kd_ σ a7 = 10) <| lt_ (si_ σ 903 a7 t0) fun s8 => some ((), s8)
set_option maxHeartbeats 4000000 in
set_option maxRecDepth 100000 in
theorem t_X8_init_b47 {l : Launch} {D : va_G} {cy : Nat → ClassId} {ka : Nat → Nat} {σ0 z : TH} {r : Unit}  {σ : TH} {t0 : Int32} {t1 : Option Nat} (hf : f_X8_init_b47 σ t0 t1 = some (r, z)) : v_ l D cy ka cX8_init RX8 5 none "<init>" 1 20 (qf_ D cy σ0 z none) σ0 z σ 47 [] [.int t0, va_rf t1] := by
  unfold f_X8_init_b47 at hf
  obtain ⟨a7, rfl, hf⟩ := nn_of hf
  obtain ⟨hk_a7, hf⟩ := gt_of hf
  refine v_puti2 cb_9 hk_a7 3 903 rfl (by decide) rfl (lk_n kw_591 rfl) (Or.inr ⟨rfl, rfl, rfl, rfl, kw_591⟩) rfl rfl hf dX8_init_47 (fun s8 hts8 hf => ?_)
  exact v_vret hf dX8_init_50
/-- LivesAhead$Telling.<init>(IZILLivesAhead$Telling;)V -/
def f_X8_init (σ : TH) (p0 : Nat) (p1 : Int32) (p2 : Int32) (p3 : Int32) (p4 : Option Nat) : Option (Unit × TH) :=
  gt_ (kd_ σ p0 = 10) <| lt_ (si_ σ 900 p0 p1) fun s1 => gt_ (p2 = 0 ∨ p2 = 1) <| lt_ (si_ s1 901 p0 p2) fun s2 => lt_ (si_ s2 902 p0 p3) fun s3 => lt_ (si_ s3 905 p0 p3) fun s4 => lt_ (sr_ s4 904 p0 p4) fun s5 => oc_ p4 (f_X8_init_b47 s5 (1 : Int32) (some p0)) (fun a6 => gt_ (kd_ s5 a6 = 10) <| lt_ (fi_ s5 903 a6) fun x9 => f_X8_init_b47 s5 (x9 + (1 : Int32)) (some p0))
set_option maxHeartbeats 4000000 in
set_option maxRecDepth 100000 in
theorem c_X8_init {l : Launch} {D : va_G} {cy : Nat → ClassId} {ka : Nat → Nat} {σ z : TH} {p0 : Nat} {p1 : Int32} {p2 : Int32} {p3 : Int32} {p4 : Option Nat} {r : Unit} (hf : f_X8_init σ p0 p1 p2 p3 p4 = some (r, z)) : ct_ l D cy ka yX8_init 1 20 [va_rf (some p0), .int p1, .int p2, .int p3, va_rf p4] σ none z := by
  unfold f_X8_init at hf
  refine v_start (cc := cX8_init) (own := RX8) (maxL := 5) (ret := none) (nm := "<init>") (by decide +kernel) kw_582 rfl rfl (by simp [lg_sl, va_rf_cat, cat_i, cat_l]) ?_
  refine v_eqL (L2 := [(0, va_rf (some p0)), (1, .int p1), (2, .int p2), (3, .int p3), (4, va_rf p4)]) (by simp [lv_args, va_rf_cat, cat_i, cat_l]) ?_
  refine v_aload_n (x := (some p0)) dX8_init_0 rfl 0 rfl ?_
  refine v_objInit kw_583 kw_40 kw_41 (by decide) (by decide) (cat_len (Nat.le_of_ble_eq_true rfl)) dX8_init_1 ?_
  refine v_aload_n (x := (some p0)) dX8_init_4 rfl 0 rfl ?_
  refine v_iload_n (x := p1) dX8_init_5 rfl 1 rfl ?_
  obtain ⟨hk_p0, hf⟩ := gt_of hf
  refine v_puti2 cb_9 hk_p0 0 900 rfl (by decide) rfl (lk_n kw_584 rfl) (Or.inr ⟨rfl, rfl, rfl, rfl, kw_584⟩) rfl rfl hf dX8_init_6 (fun s1 hts1 hf => ?_)
  have hk_p0 := tk_ hts1 hk_p0
  refine v_aload_n (x := (some p0)) dX8_init_9 rfl 0 rfl ?_
  refine v_iload_n (x := p2) dX8_init_10 rfl 2 rfl ?_
  obtain ⟨hbs2, hf⟩ := gt_of hf
  refine v_puti2 cb_9 hk_p0 1 901 rfl (by decide) rfl (lk_n kw_587 rfl) (Or.inr ⟨rfl, rfl, rfl, rfl, kw_587⟩) (nz_ hbs2) (fz_ hbs2) hf dX8_init_11 (fun s2 hts2 hf => ?_)
  have hk_p0 := tk_ hts2 hk_p0
  refine v_aload_n (x := (some p0)) dX8_init_14 rfl 0 rfl ?_
  refine v_iload_n (x := p3) dX8_init_15 rfl 3 rfl ?_
  refine v_puti2 cb_9 hk_p0 2 902 rfl (by decide) rfl (lk_n kw_589 rfl) (Or.inr ⟨rfl, rfl, rfl, rfl, kw_589⟩) rfl rfl hf dX8_init_16 (fun s3 hts3 hf => ?_)
  have hk_p0 := tk_ hts3 hk_p0
  refine v_aload_n (x := (some p0)) dX8_init_19 rfl 0 rfl ?_
  refine v_iload_n (x := p3) dX8_init_20 rfl 3 rfl ?_
  refine v_puti2 cb_9 hk_p0 5 905 rfl (by decide) rfl (lk_n kw_595 rfl) (Or.inl rfl) rfl rfl hf dX8_init_21 (fun s4 hts4 hf => ?_)
  have hk_p0 := tk_ hts4 hk_p0
  refine v_aload_n (x := (some p0)) dX8_init_24 rfl 0 rfl ?_
  refine v_aload (x := p4) dX8_init_25 4 rfl ?_
  refine v_putr2 cb_9 hk_p0 4 904 rfl (by decide) rfl (lk_n kw_593 rfl) (Or.inr ⟨rfl, rfl, rfl, rfl, kw_593⟩) (nr_ _ (Or.inl ⟨_, rfl⟩)) (fr9_ _ (Or.inl ⟨_, rfl⟩)) hf dX8_init_27 (fun s5 hts5 hf => ?_)
  have hk_p0 := tk_ hts5 hk_p0
  refine v_aload_n (x := (some p0)) dX8_init_30 rfl 0 rfl ?_
  refine v_aload (x := p4) dX8_init_31 4 rfl ?_
  refine v_ifnonnull2 (tgt := 40) hf dX8_init_33 (by decide) (fun e9 hf => ?_) (fun a6 e9 hf => ?_)
  · subst e9
    refine v_iconst (v := 1) dX8_init_36 (by decide) ?_
    refine v_goto (tgt := 47) dX8_init_37 (by decide) ?_
    refine v_sub [] (L2 := []) rfl ?_
    exact t_X8_init_b47  hf
  · subst e9
    refine v_aload (x := (some a6)) dX8_init_40 4 rfl ?_
    obtain ⟨hk_a6, hf⟩ := gt_of hf
    refine v_geti cb_9 hk_a6 3 903 rfl (by decide) rfl (lk_n kw_591 rfl) hf dX8_init_42 (fun x9 hf => ?_)
    refine v_iconst (v := 1) dX8_init_45 (by decide) ?_
    refine v_iadd dX8_init_46 ?_
    refine v_sub [] (L2 := []) rfl ?_
    exact t_X8_init_b47  hf
theorem dX11_fault_0 : decode cX11_fault 0 = .ok (.aload_n 0, 1) := by decide +kernel
theorem dX11_fault_1 : decode cX11_fault 1 = .ok (.getfield 41, 3) := by decide +kernel
theorem dX11_fault_4 : decode cX11_fault 4 = .ok (.getfield 272, 3) := by decide +kernel
theorem dX11_fault_7 : decode cX11_fault 7 = .ok (.ireturn, 1) := by decide +kernel
/-- LivesAhead.fault()I -/
def f_X11_fault (σ : TH) (p0 : Nat) : Option (Int32 × TH) :=
  gt_ (kd_ σ p0 = 13) <| lt_ (fr_ σ 1208 p0) fun r1 => nn_ r1 fun a2 => gt_ (kd_ σ a2 = 8) <| lt_ (fi_ σ 702 a2) fun x3 => some (x3, σ)
set_option maxHeartbeats 4000000 in
set_option maxRecDepth 100000 in
theorem c_X11_fault {l : Launch} {D : va_G} {cy : Nat → ClassId} {ka : Nat → Nat} {σ z : TH} {p0 : Nat} {r : Int32} (hf : f_X11_fault σ p0 = some (r, z)) : ct_ l D cy ka yX11_fault 0 0 [va_rf (some p0)] σ (some (.int r)) z := by
  unfold f_X11_fault at hf
  refine v_start (cc := cX11_fault) (own := RX11) (maxL := 1) (ret := (some FieldType.int)) (nm := "fault") (by decide +kernel) kw_890 rfl rfl (by simp [lg_sl, va_rf_cat, cat_i, cat_l]) ?_
  refine v_eqL (L2 := [(0, va_rf (some p0))]) (by simp [lv_args, va_rf_cat, cat_i, cat_l]) ?_
  refine v_aload_n (x := (some p0)) dX11_fault_0 rfl 0 rfl ?_
  obtain ⟨hk_p0, hf⟩ := gt_of hf
  refine v_getr cb_12 hk_p0 8 1208 rfl (by decide) rfl (lk_n kw_247 rfl) hf dX11_fault_1 (fun r1 hf => ?_)
  obtain ⟨a2, rfl, hf⟩ := nn_of hf
  obtain ⟨hk_a2, hf⟩ := gt_of hf
  refine v_geti cb_7 hk_a2 2 702 rfl (by decide) rfl (lk_n kw_78 rfl) hf dX11_fault_4 (fun x3 hf => ?_)
  exact v_iret hf dX11_fault_7
