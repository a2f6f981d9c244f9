/-! Functions over the typed heap and contracts, by wip/gen/gen.py: J6_bitCount_0f7a4 J7_fill_53178 Jx4a65c_elementData_915e3 Jx4a65c_isEmpty_aae02 Jx4a65c_size_8abf5 X11_today X2_isDead X11_ageOf X11_asNumber X11_within X11_isStale X11_staleKinds X2_kindsTold X11_granted X11_refused X5_init -/
theorem dJ6_bitCount_0f7a4_0 : decode cJ6_bitCount_0f7a4 0 = .ok (.iload_n 0, 1) := by decide +kernel
theorem dJ6_bitCount_0f7a4_1 : decode cJ6_bitCount_0f7a4 1 = .ok (.iload_n 0, 1) := by decide +kernel
theorem dJ6_bitCount_0f7a4_2 : decode cJ6_bitCount_0f7a4 2 = .ok (.iconst 1, 1) := by decide +kernel
theorem dJ6_bitCount_0f7a4_3 : decode cJ6_bitCount_0f7a4 3 = .ok (.iushr, 1) := by decide +kernel
theorem dJ6_bitCount_0f7a4_4 : decode cJ6_bitCount_0f7a4 4 = .ok (.ldc_w 265, 3) := by decide +kernel
theorem dJ6_bitCount_0f7a4_7 : decode cJ6_bitCount_0f7a4 7 = .ok (.iand, 1) := by decide +kernel
theorem dJ6_bitCount_0f7a4_8 : decode cJ6_bitCount_0f7a4 8 = .ok (.isub, 1) := by decide +kernel
theorem dJ6_bitCount_0f7a4_9 : decode cJ6_bitCount_0f7a4 9 = .ok (.istore_n 0, 1) := by decide +kernel
theorem dJ6_bitCount_0f7a4_10 : decode cJ6_bitCount_0f7a4 10 = .ok (.iload_n 0, 1) := by decide +kernel
theorem dJ6_bitCount_0f7a4_11 : decode cJ6_bitCount_0f7a4 11 = .ok (.ldc_w 266, 3) := by decide +kernel
theorem dJ6_bitCount_0f7a4_14 : decode cJ6_bitCount_0f7a4 14 = .ok (.iand, 1) := by decide +kernel
theorem dJ6_bitCount_0f7a4_15 : decode cJ6_bitCount_0f7a4 15 = .ok (.iload_n 0, 1) := by decide +kernel
theorem dJ6_bitCount_0f7a4_16 : decode cJ6_bitCount_0f7a4 16 = .ok (.iconst 2, 1) := by decide +kernel
theorem dJ6_bitCount_0f7a4_17 : decode cJ6_bitCount_0f7a4 17 = .ok (.iushr, 1) := by decide +kernel
theorem dJ6_bitCount_0f7a4_18 : decode cJ6_bitCount_0f7a4 18 = .ok (.ldc_w 266, 3) := by decide +kernel
theorem dJ6_bitCount_0f7a4_21 : decode cJ6_bitCount_0f7a4 21 = .ok (.iand, 1) := by decide +kernel
theorem dJ6_bitCount_0f7a4_22 : decode cJ6_bitCount_0f7a4 22 = .ok (.iadd, 1) := by decide +kernel
theorem dJ6_bitCount_0f7a4_23 : decode cJ6_bitCount_0f7a4 23 = .ok (.istore_n 0, 1) := by decide +kernel
theorem dJ6_bitCount_0f7a4_24 : decode cJ6_bitCount_0f7a4 24 = .ok (.iload_n 0, 1) := by decide +kernel
theorem dJ6_bitCount_0f7a4_25 : decode cJ6_bitCount_0f7a4 25 = .ok (.iload_n 0, 1) := by decide +kernel
theorem dJ6_bitCount_0f7a4_26 : decode cJ6_bitCount_0f7a4 26 = .ok (.iconst 4, 1) := by decide +kernel
theorem dJ6_bitCount_0f7a4_27 : decode cJ6_bitCount_0f7a4 27 = .ok (.iushr, 1) := by decide +kernel
theorem dJ6_bitCount_0f7a4_28 : decode cJ6_bitCount_0f7a4 28 = .ok (.iadd, 1) := by decide +kernel
theorem dJ6_bitCount_0f7a4_29 : decode cJ6_bitCount_0f7a4 29 = .ok (.ldc_w 267, 3) := by decide +kernel
theorem dJ6_bitCount_0f7a4_32 : decode cJ6_bitCount_0f7a4 32 = .ok (.iand, 1) := by decide +kernel
theorem dJ6_bitCount_0f7a4_33 : decode cJ6_bitCount_0f7a4 33 = .ok (.istore_n 0, 1) := by decide +kernel
theorem dJ6_bitCount_0f7a4_34 : decode cJ6_bitCount_0f7a4 34 = .ok (.iload_n 0, 1) := by decide +kernel
theorem dJ6_bitCount_0f7a4_35 : decode cJ6_bitCount_0f7a4 35 = .ok (.iload_n 0, 1) := by decide +kernel
theorem dJ6_bitCount_0f7a4_36 : decode cJ6_bitCount_0f7a4 36 = .ok (.bipush 8, 2) := by decide +kernel
theorem dJ6_bitCount_0f7a4_38 : decode cJ6_bitCount_0f7a4 38 = .ok (.iushr, 1) := by decide +kernel
theorem dJ6_bitCount_0f7a4_39 : decode cJ6_bitCount_0f7a4 39 = .ok (.iadd, 1) := by decide +kernel
theorem dJ6_bitCount_0f7a4_40 : decode cJ6_bitCount_0f7a4 40 = .ok (.istore_n 0, 1) := by decide +kernel
theorem dJ6_bitCount_0f7a4_41 : decode cJ6_bitCount_0f7a4 41 = .ok (.iload_n 0, 1) := by decide +kernel
theorem dJ6_bitCount_0f7a4_42 : decode cJ6_bitCount_0f7a4 42 = .ok (.iload_n 0, 1) := by decide +kernel
theorem dJ6_bitCount_0f7a4_43 : decode cJ6_bitCount_0f7a4 43 = .ok (.bipush 16, 2) := by decide +kernel
theorem dJ6_bitCount_0f7a4_45 : decode cJ6_bitCount_0f7a4 45 = .ok (.iushr, 1) := by decide +kernel
theorem dJ6_bitCount_0f7a4_46 : decode cJ6_bitCount_0f7a4 46 = .ok (.iadd, 1) := by decide +kernel
theorem dJ6_bitCount_0f7a4_47 : decode cJ6_bitCount_0f7a4 47 = .ok (.istore_n 0, 1) := by decide +kernel
theorem dJ6_bitCount_0f7a4_48 : decode cJ6_bitCount_0f7a4 48 = .ok (.iload_n 0, 1) := by decide +kernel
theorem dJ6_bitCount_0f7a4_49 : decode cJ6_bitCount_0f7a4 49 = .ok (.bipush 63, 2) := by decide +kernel
theorem dJ6_bitCount_0f7a4_51 : decode cJ6_bitCount_0f7a4 51 = .ok (.iand, 1) := by decide +kernel
theorem dJ6_bitCount_0f7a4_52 : decode cJ6_bitCount_0f7a4 52 = .ok (.ireturn, 1) := by decide +kernel
/-- java/lang/Integer.bitCount(I)I -/
def f_J6_bitCount_0f7a4 (σ : TH) (p0 : Int32) : Option (Int32 × TH) :=
  lt_ (p0 - (((Int32.toUInt32 p0 >>> (Int32.toUInt32 (1 : Int32) &&& Int32.toUInt32 31)).toInt32) &&& (1431655765 : Int32))) fun x1 => lt_ ((x1 &&& (858993459 : Int32)) + (((Int32.toUInt32 x1 >>> (Int32.toUInt32 (2 : Int32) &&& Int32.toUInt32 31)).toInt32) &&& (858993459 : Int32))) fun x2 => lt_ ((x2 + ((Int32.toUInt32 x2 >>> (Int32.toUInt32 (4 : Int32) &&& Int32.toUInt32 31)).toInt32)) &&& (252645135 : Int32)) fun x3 => lt_ (x3 + ((Int32.toUInt32 x3 >>> (Int32.toUInt32 (8 : Int32) &&& Int32.toUInt32 31)).toInt32)) fun x4 => lt_ (x4 + ((Int32.toUInt32 x4 >>> (Int32.toUInt32 (16 : Int32) &&& Int32.toUInt32 31)).toInt32)) fun x5 => some (x5 &&& (63 : Int32), σ)
set_option maxHeartbeats 4000000 in
set_option maxRecDepth 100000 in
theorem c_J6_bitCount_0f7a4 {l : Launch} {D : va_G} {cy : Nat → ClassId} {ka : Nat → Nat} {σ z : TH} {p0 : Int32} {r : Int32} (hf : f_J6_bitCount_0f7a4 σ p0 = some (r, z)) : ct_ l D cy ka yJ6_bitCount_0f7a4 0 0 [.int p0] σ (some (.int r)) z := by
  unfold f_J6_bitCount_0f7a4 at hf
  refine v_start (cc := cJ6_bitCount_0f7a4) (own := RJ6) (maxL := 1) (ret := (some FieldType.int)) (nm := "bitCount") (by decide +kernel) kw_548 rfl rfl (by simp [lg_sl, va_rf_cat, cat_i, cat_l]) ?_
  refine v_eqL (L2 := [(0, .int p0)]) (by simp [lv_args, va_rf_cat, cat_i, cat_l]) ?_
  refine v_iload_n (x := p0) dJ6_bitCount_0f7a4_0 rfl 0 rfl ?_
  refine v_iload_n (x := p0) dJ6_bitCount_0f7a4_1 rfl 0 rfl ?_
  refine v_iconst (v := 1) dJ6_bitCount_0f7a4_2 (by decide) ?_
  refine v_iushr dJ6_bitCount_0f7a4_3 ?_
  refine v_ldcw (v := 1431655765) kw_549 dJ6_bitCount_0f7a4_4 ?_
  refine v_iand dJ6_bitCount_0f7a4_7 ?_
  refine v_isub dJ6_bitCount_0f7a4_8 ?_
  obtain ⟨x1, ex1⟩ : ∃ y : Int32, y = p0 - (((Int32.toUInt32 p0 >>> (Int32.toUInt32 (1 : Int32) &&& Int32.toUInt32 31)).toInt32) &&& (1431655765 : Int32)) := ⟨_, rfl⟩
  rw [lt_e, ← ex1] at hf
  rw [← ex1]
  refine v_istore_n [(0, .int x1)] dJ6_bitCount_0f7a4_9 rfl (by decide) rfl ?_
  refine v_iload_n (x := x1) dJ6_bitCount_0f7a4_10 rfl 0 rfl ?_
  refine v_ldcw (v := 858993459) kw_550 dJ6_bitCount_0f7a4_11 ?_
  refine v_iand dJ6_bitCount_0f7a4_14 ?_
  refine v_iload_n (x := x1) dJ6_bitCount_0f7a4_15 rfl 0 rfl ?_
  refine v_iconst (v := 2) dJ6_bitCount_0f7a4_16 (by decide) ?_
  refine v_iushr dJ6_bitCount_0f7a4_17 ?_
  refine v_ldcw (v := 858993459) kw_550 dJ6_bitCount_0f7a4_18 ?_
  refine v_iand dJ6_bitCount_0f7a4_21 ?_
  refine v_iadd dJ6_bitCount_0f7a4_22 ?_
  obtain ⟨x2, ex2⟩ : ∃ y : Int32, y = (x1 &&& (858993459 : Int32)) + (((Int32.toUInt32 x1 >>> (Int32.toUInt32 (2 : Int32) &&& Int32.toUInt32 31)).toInt32) &&& (858993459 : Int32)) := ⟨_, rfl⟩
  rw [lt_e, ← ex2] at hf
  rw [← ex2]
  refine v_istore_n [(0, .int x2)] dJ6_bitCount_0f7a4_23 rfl (by decide) rfl ?_
  refine v_iload_n (x := x2) dJ6_bitCount_0f7a4_24 rfl 0 rfl ?_
  refine v_iload_n (x := x2) dJ6_bitCount_0f7a4_25 rfl 0 rfl ?_
  refine v_iconst (v := 4) dJ6_bitCount_0f7a4_26 (by decide) ?_
  refine v_iushr dJ6_bitCount_0f7a4_27 ?_
  refine v_iadd dJ6_bitCount_0f7a4_28 ?_
  refine v_ldcw (v := 252645135) kw_551 dJ6_bitCount_0f7a4_29 ?_
  refine v_iand dJ6_bitCount_0f7a4_32 ?_
  obtain ⟨x3, ex3⟩ : ∃ y : Int32, y = (x2 + ((Int32.toUInt32 x2 >>> (Int32.toUInt32 (4 : Int32) &&& Int32.toUInt32 31)).toInt32)) &&& (252645135 : Int32) := ⟨_, rfl⟩
  rw [lt_e, ← ex3] at hf
  rw [← ex3]
  refine v_istore_n [(0, .int x3)] dJ6_bitCount_0f7a4_33 rfl (by decide) rfl ?_
  refine v_iload_n (x := x3) dJ6_bitCount_0f7a4_34 rfl 0 rfl ?_
  refine v_iload_n (x := x3) dJ6_bitCount_0f7a4_35 rfl 0 rfl ?_
  refine v_bipush (v := 8) dJ6_bitCount_0f7a4_36 (by decide) ?_
  refine v_iushr dJ6_bitCount_0f7a4_38 ?_
  refine v_iadd dJ6_bitCount_0f7a4_39 ?_
  obtain ⟨x4, ex4⟩ : ∃ y : Int32, y = x3 + ((Int32.toUInt32 x3 >>> (Int32.toUInt32 (8 : Int32) &&& Int32.toUInt32 31)).toInt32) := ⟨_, rfl⟩
  rw [lt_e, ← ex4] at hf
  rw [← ex4]
  refine v_istore_n [(0, .int x4)] dJ6_bitCount_0f7a4_40 rfl (by decide) rfl ?_
  refine v_iload_n (x := x4) dJ6_bitCount_0f7a4_41 rfl 0 rfl ?_
  refine v_iload_n (x := x4) dJ6_bitCount_0f7a4_42 rfl 0 rfl ?_
  refine v_bipush (v := 16) dJ6_bitCount_0f7a4_43 (by decide) ?_
  refine v_iushr dJ6_bitCount_0f7a4_45 ?_
  refine v_iadd dJ6_bitCount_0f7a4_46 ?_
  obtain ⟨x5, ex5⟩ : ∃ y : Int32, y = x4 + ((Int32.toUInt32 x4 >>> (Int32.toUInt32 (16 : Int32) &&& Int32.toUInt32 31)).toInt32) := ⟨_, rfl⟩
  rw [lt_e, ← ex5] at hf
  rw [← ex5]
  refine v_istore_n [(0, .int x5)] dJ6_bitCount_0f7a4_47 rfl (by decide) rfl ?_
  refine v_iload_n (x := x5) dJ6_bitCount_0f7a4_48 rfl 0 rfl ?_
  refine v_bipush (v := 63) dJ6_bitCount_0f7a4_49 (by decide) ?_
  refine v_iand dJ6_bitCount_0f7a4_51 ?_
  exact v_iret hf dJ6_bitCount_0f7a4_52
theorem dJ7_fill_53178_0 : decode cJ7_fill_53178 0 = .ok (.iconst 0, 1) := by decide +kernel
theorem dJ7_fill_53178_1 : decode cJ7_fill_53178 1 = .ok (.istore_n 2, 1) := by decide +kernel
theorem dJ7_fill_53178_2 : decode cJ7_fill_53178 2 = .ok (.aload_n 0, 1) := by decide +kernel
theorem dJ7_fill_53178_3 : decode cJ7_fill_53178 3 = .ok (.arraylength, 1) := by decide +kernel
theorem dJ7_fill_53178_4 : decode cJ7_fill_53178 4 = .ok (.istore_n 3, 1) := by decide +kernel
theorem dJ7_fill_53178_5 : decode cJ7_fill_53178 5 = .ok (.iload_n 2, 1) := by decide +kernel
theorem dJ7_fill_53178_6 : decode cJ7_fill_53178 6 = .ok (.iload_n 3, 1) := by decide +kernel
theorem dJ7_fill_53178_7 : decode cJ7_fill_53178 7 = .ok (.if_icmp .ge 13, 3) := by decide +kernel
theorem dJ7_fill_53178_10 : decode cJ7_fill_53178 10 = .ok (.aload_n 0, 1) := by decide +kernel
theorem dJ7_fill_53178_11 : decode cJ7_fill_53178 11 = .ok (.iload_n 2, 1) := by decide +kernel
theorem dJ7_fill_53178_12 : decode cJ7_fill_53178 12 = .ok (.iload_n 1, 1) := by decide +kernel
theorem dJ7_fill_53178_13 : decode cJ7_fill_53178 13 = .ok (.iastore, 1) := by decide +kernel
theorem dJ7_fill_53178_14 : decode cJ7_fill_53178 14 = .ok (.iinc 2 1, 3) := by decide +kernel
theorem dJ7_fill_53178_17 : decode cJ7_fill_53178 17 = .ok (.goto (-12), 3) := by decide +kernel
theorem dJ7_fill_53178_20 : decode cJ7_fill_53178 20 = .ok (.return_, 1) := by decide +kernel
def f_J7_fill_53178_b5 : Nat → TH → Option Nat → Int32 → Int32 → Int32 → Option (Unit × TH)
  | 0, _, _, _, _, _ => none
  | n + 1, σ, l0, l1, l2, l3 => if l3 ≤ l2 then (some ((), σ)) else (nn_ l0 fun a3 => gt_ (kd_ σ a3 = 20) <| gt_ (¬ (l2 < 0 ∨ ln_ σ a3 ≤ l2.toNatClampNeg)) <| lt_ (sa_ σ a3 l2.toNatClampNeg l1) fun s4 => lt_ (l2 + 1) fun x5 => (f_J7_fill_53178_b5 n) s4 (some a3) l1 x5 l3)
set_option maxHeartbeats 4000000 in
set_option maxRecDepth 100000 in
theorem t_J7_fill_53178_b5 {l : Launch} {D : va_G} {cy : Nat → ClassId} {ka : Nat → Nat} {σ0 z : TH} {r : Unit}  : ∀ (n : Nat) (σ : TH) (l0 : Option Nat) (l1 : Int32) (l2 : Int32) (l3 : Int32), f_J7_fill_53178_b5 n σ l0 l1 l2 l3 = some (r, z) → v_ l D cy ka cJ7_fill_53178 RJ7 4 none "fill" 0 0 (qf_ D cy σ0 z none) σ0 z σ 5 [(0, va_rf l0), (1, .int l1), (2, .int l2), (3, .int l3)] [] := by
  intro n
  induction n with
  | zero => intro σ l0 l1 l2 l3 hf; unfold f_J7_fill_53178_b5 at hf; cases hf
  | succ n ih =>
    intro σ l0 l1 l2 l3 hf
    unfold f_J7_fill_53178_b5 at hf
    have hrec_5 := ih
    refine v_iload_n (x := l2) dJ7_fill_53178_5 rfl 2 rfl ?_
    refine v_iload_n (x := l3) dJ7_fill_53178_6 rfl 3 rfl ?_
    refine v_icmp_ge (tgt := 20) hf dJ7_fill_53178_7 (by decide) (fun hq hf => ?_) (fun hq hf => ?_)
    · exact v_vret hf dJ7_fill_53178_20
    · refine v_aload_n (x := l0) dJ7_fill_53178_10 rfl 0 rfl ?_
      refine v_iload_n (x := l2) dJ7_fill_53178_11 rfl 2 rfl ?_
      refine v_iload_n (x := l1) dJ7_fill_53178_12 rfl 1 rfl ?_
      obtain ⟨a3, rfl, hf⟩ := nn_of hf
      obtain ⟨hk_a3, hf⟩ := gt_of hf
      refine v_iast2 hk_a3 hf dJ7_fill_53178_13 (fun s4 hts4 hf => ?_)
      have hk_a3 := tk_ hts4 hk_a3
      obtain ⟨x5, ex5⟩ : ∃ y : Int32, y = l2 + 1 := ⟨_, rfl⟩
      rw [lt_e, ← ex5] at hf
      refine v_iinc (v := x5) [(2, .int x5), (0, va_rf (some a3)), (1, .int l1), (3, .int l3)] dJ7_fill_53178_14 2 rfl (by rw [ex5]; rfl) (by decide) rfl ?_
      refine v_goto (tgt := 5) dJ7_fill_53178_17 (by decide) ?_
      refine v_sub [1, 2, 0, 3] (L2 := [(0, va_rf (some a3)), (1, .int l1), (2, .int x5), (3, .int l3)]) rfl ?_
      exact hrec_5 _ _ _ _ _ hf
/-- java/util/Arrays.fill([II)V -/
def f_J7_fill_53178 (σ : TH) (p0 : Option Nat) (p1 : Int32) : Option (Unit × TH) :=
  nn_ p0 fun a1 => gt_ (kd_ σ a1 = 20) <| lt_ (Int32.ofNat (ln_ σ a1)) fun x2 => f_J7_fill_53178_b5 fu_ σ (some a1) p1 (0 : Int32) x2
set_option maxHeartbeats 4000000 in
set_option maxRecDepth 100000 in
theorem c_J7_fill_53178 {l : Launch} {D : va_G} {cy : Nat → ClassId} {ka : Nat → Nat} {σ z : TH} {p0 : Option Nat} {p1 : Int32} {r : Unit} (hf : f_J7_fill_53178 σ p0 p1 = some (r, z)) : ct_ l D cy ka yJ7_fill_53178 0 0 [va_rf p0, .int p1] σ none z := by
  unfold f_J7_fill_53178 at hf
  refine v_start (cc := cJ7_fill_53178) (own := RJ7) (maxL := 4) (ret := none) (nm := "fill") (by decide +kernel) kw_238 rfl rfl (by simp [lg_sl, va_rf_cat, cat_i, cat_l]) ?_
  refine v_eqL (L2 := [(0, va_rf p0), (1, .int p1)]) (by simp [lv_args, va_rf_cat, cat_i, cat_l]) ?_
  refine v_iconst (v := 0) dJ7_fill_53178_0 (by decide) ?_
  refine v_istore_n [(2, .int (0 : Int32)), (0, va_rf p0), (1, .int p1)] dJ7_fill_53178_1 rfl (by decide) rfl ?_
  refine v_aload_n (x := p0) dJ7_fill_53178_2 rfl 1 rfl ?_
  obtain ⟨a1, rfl, hf⟩ := nn_of hf
  obtain ⟨hk_a1, hf⟩ := gt_of hf
  refine v_alen 19 0 .int hk_a1 (by decide) rfl hf dJ7_fill_53178_3 (fun x2 hf => ?_)
  refine v_istore_n [(3, .int x2), (2, .int (0 : Int32)), (0, va_rf (some a1)), (1, .int p1)] dJ7_fill_53178_4 rfl (by decide) rfl ?_
  refine v_sub [2, 3, 1, 0] (L2 := [(0, va_rf (some a1)), (1, .int p1), (2, .int (0 : Int32)), (3, .int x2)]) rfl ?_
  exact t_J7_fill_53178_b5  _ _ _ _ _ _ hf
theorem dJx4a65c_elementData_915e3_0 : decode cJx4a65c_elementData_915e3 0 = .ok (.aload_n 0, 1) := by decide +kernel
theorem dJx4a65c_elementData_915e3_1 : decode cJx4a65c_elementData_915e3 1 = .ok (.getfield 9, 3) := by decide +kernel
theorem dJx4a65c_elementData_915e3_4 : decode cJx4a65c_elementData_915e3 4 = .ok (.iload_n 1, 1) := by decide +kernel
theorem dJx4a65c_elementData_915e3_5 : decode cJx4a65c_elementData_915e3 5 = .ok (.aaload, 1) := by decide +kernel
theorem dJx4a65c_elementData_915e3_6 : decode cJx4a65c_elementData_915e3 6 = .ok (.areturn, 1) := by decide +kernel
/-- java/util/ArrayList.elementData(I)Ljava/lang/Object; -/
def f_Jx4a65c_elementData_915e3 (σ : TH) (p0 : Nat) (p1 : Int32) : Option (Option Nat × TH) :=
  gt_ (kd_ σ p0 = 1) <| lt_ (fr_ σ 1 p0) fun r1 => nn_ r1 fun a2 => gt_ (kd_ σ a2 = 24) <| gt_ (¬ (p1 < 0 ∨ ln_ σ a2 ≤ p1.toNatClampNeg)) <| lt_ (ar_ σ a2 p1.toNatClampNeg) fun r3 => some (r3, σ)
set_option maxHeartbeats 4000000 in
set_option maxRecDepth 100000 in
theorem c_Jx4a65c_elementData_915e3 {l : Launch} {D : va_G} {cy : Nat → ClassId} {ka : Nat → Nat} {σ z : TH} {p0 : Nat} {p1 : Int32} {r : Option Nat} (hf : f_Jx4a65c_elementData_915e3 σ p0 p1 = some (r, z)) : ct_ l D cy ka yJx4a65c_elementData_915e3 0 0 [va_rf (some p0), .int p1] σ (some (va_rf r)) z := by
  unfold f_Jx4a65c_elementData_915e3 at hf
  refine v_start (cc := cJx4a65c_elementData_915e3) (own := RJx4a65c) (maxL := 2) (ret := (some (FieldType.object "java/lang/Object"))) (nm := "elementData") (by decide +kernel) kw_420 rfl rfl (by simp [lg_sl, va_rf_cat, cat_i, cat_l]) ?_
  refine v_eqL (L2 := [(0, va_rf (some p0)), (1, .int p1)]) (by simp [lv_args, va_rf_cat, cat_i, cat_l]) ?_
  refine v_aload_n (x := (some p0)) dJx4a65c_elementData_915e3_0 rfl 0 rfl ?_
  obtain ⟨hk_p0, hf⟩ := gt_of hf
  refine v_getr cb_0 hk_p0 1 1 rfl (by decide) rfl (lk_n kw_56 rfl) hf dJx4a65c_elementData_915e3_1 (fun r1 hf => ?_)
  refine v_iload_n (x := p1) dJx4a65c_elementData_915e3_4 rfl 1 rfl ?_
  obtain ⟨a2, rfl, hf⟩ := nn_of hf
  obtain ⟨hk_a2, hf⟩ := gt_of hf
  refine v_aald 23 4 "java/lang/Object" hk_a2 (by decide) rfl hf dJx4a65c_elementData_915e3_5 (fun r3 hf => ?_)
  exact v_aret (x := r3) hf (Or.inl ⟨_, rfl⟩) dJx4a65c_elementData_915e3_6
theorem dJx4a65c_isEmpty_aae02_0 : decode cJx4a65c_isEmpty_aae02 0 = .ok (.aload_n 0, 1) := by decide +kernel
theorem dJx4a65c_isEmpty_aae02_1 : decode cJx4a65c_isEmpty_aae02 1 = .ok (.getfield 48, 3) := by decide +kernel
theorem dJx4a65c_isEmpty_aae02_4 : decode cJx4a65c_isEmpty_aae02 4 = .ok (.ifCond .ne 7, 3) := by decide +kernel
theorem dJx4a65c_isEmpty_aae02_7 : decode cJx4a65c_isEmpty_aae02 7 = .ok (.iconst 1, 1) := by decide +kernel
theorem dJx4a65c_isEmpty_aae02_8 : decode cJx4a65c_isEmpty_aae02 8 = .ok (.goto 4, 3) := by decide +kernel
theorem dJx4a65c_isEmpty_aae02_11 : decode cJx4a65c_isEmpty_aae02 11 = .ok (.iconst 0, 1) := by decide +kernel
theorem dJx4a65c_isEmpty_aae02_12 : decode cJx4a65c_isEmpty_aae02 12 = .ok (.ireturn, 1) := by decide +kernel
def f_Jx4a65c_isEmpty_aae02_b12 (σ : TH) (t0 : Int32) : Option (Int32 × TH) :=
  gt_ (t0 = 0 ∨ t0 = 1) <| some (t0, σ)
set_option maxHeartbeats 4000000 in
set_option maxRecDepth 100000 in
theorem t_Jx4a65c_isEmpty_aae02_b12 {l : Launch} {D : va_G} {cy : Nat → ClassId} {ka : Nat → Nat} {σ0 z : TH} {r : Int32}  {σ : TH} {t0 : Int32} (hf : f_Jx4a65c_isEmpty_aae02_b12 σ t0 = some (r, z)) : v_ l D cy ka cJx4a65c_isEmpty_aae02 RJx4a65c 1 (some FieldType.boolean) "isEmpty" 0 0 (qf_ D cy σ0 z (some (.int r))) σ0 z σ 12 [] [.int t0] := by
  unfold f_Jx4a65c_isEmpty_aae02_b12 at hf
  obtain ⟨hb9, hf⟩ := gt_of hf
  exact v_zret hf (nz_ hb9) dJx4a65c_isEmpty_aae02_12
/-- java/util/ArrayList.isEmpty()Z -/
def f_Jx4a65c_isEmpty_aae02 (σ : TH) (p0 : Nat) : Option (Int32 × TH) :=
  gt_ (kd_ σ p0 = 1) <| lt_ (fi_ σ 2 p0) fun x1 => if x1 = 0 then (f_Jx4a65c_isEmpty_aae02_b12 σ (1 : Int32)) else (f_Jx4a65c_isEmpty_aae02_b12 σ (0 : Int32))
set_option maxHeartbeats 4000000 in
set_option maxRecDepth 100000 in
theorem c_Jx4a65c_isEmpty_aae02 {l : Launch} {D : va_G} {cy : Nat → ClassId} {ka : Nat → Nat} {σ z : TH} {p0 : Nat} {r : Int32} (hf : f_Jx4a65c_isEmpty_aae02 σ p0 = some (r, z)) : ct_ l D cy ka yJx4a65c_isEmpty_aae02 0 0 [va_rf (some p0)] σ (some (.int r)) z := by
  unfold f_Jx4a65c_isEmpty_aae02 at hf
  refine v_start (cc := cJx4a65c_isEmpty_aae02) (own := RJx4a65c) (maxL := 1) (ret := (some FieldType.boolean)) (nm := "isEmpty") (by decide +kernel) kw_1083 rfl rfl (by simp [lg_sl, va_rf_cat, cat_i, cat_l]) ?_
  refine v_eqL (L2 := [(0, va_rf (some p0))]) (by simp [lv_args, va_rf_cat, cat_i, cat_l]) ?_
  refine v_aload_n (x := (some p0)) dJx4a65c_isEmpty_aae02_0 rfl 0 rfl ?_
  obtain ⟨hk_p0, hf⟩ := gt_of hf
  refine v_geti cb_0 hk_p0 2 2 rfl (by decide) rfl (lk_n kw_57 rfl) hf dJx4a65c_isEmpty_aae02_1 (fun x1 hf => ?_)
  refine v_if_ne (tgt := 11) hf dJx4a65c_isEmpty_aae02_4 (by decide) (fun hq hf => ?_) (fun hq hf => ?_)
  · refine v_iconst (v := 1) dJx4a65c_isEmpty_aae02_7 (by decide) ?_
    refine v_goto (tgt := 12) dJx4a65c_isEmpty_aae02_8 (by decide) ?_
    refine v_sub [] (L2 := []) rfl ?_
    exact t_Jx4a65c_isEmpty_aae02_b12  hf
  · refine v_iconst (v := 0) dJx4a65c_isEmpty_aae02_11 (by decide) ?_
    refine v_sub [] (L2 := []) rfl ?_
    exact t_Jx4a65c_isEmpty_aae02_b12  hf
theorem dJx4a65c_size_8abf5_0 : decode cJx4a65c_size_8abf5 0 = .ok (.aload_n 0, 1) := by decide +kernel
theorem dJx4a65c_size_8abf5_1 : decode cJx4a65c_size_8abf5 1 = .ok (.getfield 48, 3) := by decide +kernel
theorem dJx4a65c_size_8abf5_4 : decode cJx4a65c_size_8abf5 4 = .ok (.ireturn, 1) := by decide +kernel
/-- java/util/ArrayList.size()I -/
def f_Jx4a65c_size_8abf5 (σ : TH) (p0 : Nat) : Option (Int32 × TH) :=
  gt_ (kd_ σ p0 = 1) <| lt_ (fi_ σ 2 p0) fun x1 => some (x1, σ)
set_option maxHeartbeats 4000000 in
set_option maxRecDepth 100000 in
theorem c_Jx4a65c_size_8abf5 {l : Launch} {D : va_G} {cy : Nat → ClassId} {ka : Nat → Nat} {σ z : TH} {p0 : Nat} {r : Int32} (hf : f_Jx4a65c_size_8abf5 σ p0 = some (r, z)) : ct_ l D cy ka yJx4a65c_size_8abf5 0 0 [va_rf (some p0)] σ (some (.int r)) z := by
  unfold f_Jx4a65c_size_8abf5 at hf
  refine v_start (cc := cJx4a65c_size_8abf5) (own := RJx4a65c) (maxL := 1) (ret := (some FieldType.int)) (nm := "size") (by decide +kernel) kw_314 rfl rfl (by simp [lg_sl, va_rf_cat, cat_i, cat_l]) ?_
  refine v_eqL (L2 := [(0, va_rf (some p0))]) (by simp [lv_args, va_rf_cat, cat_i, cat_l]) ?_
  refine v_aload_n (x := (some p0)) dJx4a65c_size_8abf5_0 rfl 0 rfl ?_
  obtain ⟨hk_p0, hf⟩ := gt_of hf
  refine v_geti cb_0 hk_p0 2 2 rfl (by decide) rfl (lk_n kw_57 rfl) hf dJx4a65c_size_8abf5_1 (fun x1 hf => ?_)
  exact v_iret hf dJx4a65c_size_8abf5_4
theorem dX11_today_0 : decode cX11_today 0 = .ok (.aload_n 0, 1) := by decide +kernel
theorem dX11_today_1 : decode cX11_today 1 = .ok (.getfield 66, 3) := by decide +kernel
theorem dX11_today_4 : decode cX11_today 4 = .ok (.sipush 1440, 3) := by decide +kernel
theorem dX11_today_7 : decode cX11_today 7 = .ok (.idiv, 1) := by decide +kernel
theorem dX11_today_8 : decode cX11_today 8 = .ok (.ireturn, 1) := by decide +kernel
/-- LivesAhead.today()I -/
def f_X11_today (σ : TH) (p0 : Nat) : Option (Int32 × TH) :=
  gt_ (kd_ σ p0 = 13) <| lt_ (fi_ σ 1213 p0) fun x1 => gt_ (¬ (1440 : Int32) = 0) <| some (x1 / (1440 : Int32), σ)
set_option maxHeartbeats 4000000 in
set_option maxRecDepth 100000 in
theorem c_X11_today {l : Launch} {D : va_G} {cy : Nat → ClassId} {ka : Nat → Nat} {σ z : TH} {p0 : Nat} {r : Int32} (hf : f_X11_today σ p0 = some (r, z)) : ct_ l D cy ka yX11_today 0 0 [va_rf (some p0)] σ (some (.int r)) z := by
  unfold f_X11_today at hf
  refine v_start (cc := cX11_today) (own := RX11) (maxL := 1) (ret := (some FieldType.int)) (nm := "today") (by decide +kernel) kw_541 rfl rfl (by simp [lg_sl, va_rf_cat, cat_i, cat_l]) ?_
  refine v_eqL (L2 := [(0, va_rf (some p0))]) (by simp [lv_args, va_rf_cat, cat_i, cat_l]) ?_
  refine v_aload_n (x := (some p0)) dX11_today_0 rfl 0 rfl ?_
  obtain ⟨hk_p0, hf⟩ := gt_of hf
  refine v_geti cb_12 hk_p0 13 1213 rfl (by decide) rfl (lk_n kw_252 rfl) hf dX11_today_1 (fun x1 hf => ?_)
  refine v_sipush (v := 1440) dX11_today_4 (by decide) ?_
  refine v_idiv hf dX11_today_7 (fun hf => ?_)
  exact v_iret hf dX11_today_8
theorem dX2_isDead_0 : decode cX2_isDead 0 = .ok (.aload_n 0, 1) := by decide +kernel
theorem dX2_isDead_1 : decode cX2_isDead 1 = .ok (.getfield 9, 3) := by decide +kernel
theorem dX2_isDead_4 : decode cX2_isDead 4 = .ok (.ifCond .lt 7, 3) := by decide +kernel
theorem dX2_isDead_7 : decode cX2_isDead 7 = .ok (.iconst 1, 1) := by decide +kernel
theorem dX2_isDead_8 : decode cX2_isDead 8 = .ok (.goto 4, 3) := by decide +kernel
theorem dX2_isDead_11 : decode cX2_isDead 11 = .ok (.iconst 0, 1) := by decide +kernel
theorem dX2_isDead_12 : decode cX2_isDead 12 = .ok (.ireturn, 1) := by decide +kernel
def f_X2_isDead_b12 (σ : TH) (t0 : Int32) : Option (Int32 × TH) :=
  gt_ (t0 = 0 ∨ t0 = 1) <| some (t0, σ)
set_option maxHeartbeats 4000000 in
set_option maxRecDepth 100000 in
theorem t_X2_isDead_b12 {l : Launch} {D : va_G} {cy : Nat → ClassId} {ka : Nat → Nat} {σ0 z : TH} {r : Int32}  {σ : TH} {t0 : Int32} (hf : f_X2_isDead_b12 σ t0 = some (r, z)) : v_ l D cy ka cX2_isDead RX2 1 (some FieldType.boolean) "isDead" 0 0 (qf_ D cy σ0 z (some (.int r))) σ0 z σ 12 [] [.int t0] := by
  unfold f_X2_isDead_b12 at hf
  obtain ⟨hb9, hf⟩ := gt_of hf
  exact v_zret hf (nz_ hb9) dX2_isDead_12
/-- LivesAhead$Person.isDead()Z -/
def f_X2_isDead (σ : TH) (p0 : Nat) : Option (Int32 × TH) :=
  gt_ (kd_ σ p0 = 4) <| lt_ (fi_ σ 305 p0) fun x1 => if x1 < 0 then (f_X2_isDead_b12 σ (0 : Int32)) else (f_X2_isDead_b12 σ (1 : Int32))
set_option maxHeartbeats 4000000 in
set_option maxRecDepth 100000 in
theorem c_X2_isDead {l : Launch} {D : va_G} {cy : Nat → ClassId} {ka : Nat → Nat} {σ z : TH} {p0 : Nat} {r : Int32} (hf : f_X2_isDead σ p0 = some (r, z)) : ct_ l D cy ka yX2_isDead 0 0 [va_rf (some p0)] σ (some (.int r)) z := by
  unfold f_X2_isDead at hf
  refine v_start (cc := cX2_isDead) (own := RX2) (maxL := 1) (ret := (some FieldType.boolean)) (nm := "isDead") (by decide +kernel) kw_537 rfl rfl (by simp [lg_sl, va_rf_cat, cat_i, cat_l]) ?_
  refine v_eqL (L2 := [(0, va_rf (some p0))]) (by simp [lv_args, va_rf_cat, cat_i, cat_l]) ?_
  refine v_aload_n (x := (some p0)) dX2_isDead_0 rfl 0 rfl ?_
  obtain ⟨hk_p0, hf⟩ := gt_of hf
  refine v_geti cb_3 hk_p0 5 305 rfl (by decide) rfl (lk_n kw_474 rfl) hf dX2_isDead_1 (fun x1 hf => ?_)
  refine v_if_lt (tgt := 11) hf dX2_isDead_4 (by decide) (fun hq hf => ?_) (fun hq hf => ?_)
  · refine v_iconst (v := 0) dX2_isDead_11 (by decide) ?_
    refine v_sub [] (L2 := []) rfl ?_
    exact t_X2_isDead_b12  hf
  · refine v_iconst (v := 1) dX2_isDead_7 (by decide) ?_
    refine v_goto (tgt := 12) dX2_isDead_8 (by decide) ?_
    refine v_sub [] (L2 := []) rfl ?_
    exact t_X2_isDead_b12  hf
theorem dX11_ageOf_0 : decode cX11_ageOf 0 = .ok (.aload_n 1, 1) := by decide +kernel
theorem dX11_ageOf_1 : decode cX11_ageOf 1 = .ok (.invokevirtual 166, 3) := by decide +kernel
theorem dX11_ageOf_4 : decode cX11_ageOf 4 = .ok (.ifCond .eq 10, 3) := by decide +kernel
theorem dX11_ageOf_7 : decode cX11_ageOf 7 = .ok (.aload_n 1, 1) := by decide +kernel
theorem dX11_ageOf_8 : decode cX11_ageOf 8 = .ok (.getfield 173, 3) := by decide +kernel
theorem dX11_ageOf_11 : decode cX11_ageOf 11 = .ok (.goto 7, 3) := by decide +kernel
theorem dX11_ageOf_14 : decode cX11_ageOf 14 = .ok (.aload_n 0, 1) := by decide +kernel
theorem dX11_ageOf_15 : decode cX11_ageOf 15 = .ok (.invokevirtual 188, 3) := by decide +kernel
theorem dX11_ageOf_18 : decode cX11_ageOf 18 = .ok (.istore_n 2, 1) := by decide +kernel
theorem dX11_ageOf_19 : decode cX11_ageOf 19 = .ok (.aload_n 1, 1) := by decide +kernel
theorem dX11_ageOf_20 : decode cX11_ageOf 20 = .ok (.getfield 470, 3) := by decide +kernel
theorem dX11_ageOf_23 : decode cX11_ageOf 23 = .ok (.iload_n 2, 1) := by decide +kernel
theorem dX11_ageOf_24 : decode cX11_ageOf 24 = .ok (.iadd, 1) := by decide +kernel
theorem dX11_ageOf_25 : decode cX11_ageOf 25 = .ok (.sipush 365, 3) := by decide +kernel
theorem dX11_ageOf_28 : decode cX11_ageOf 28 = .ok (.idiv, 1) := by decide +kernel
theorem dX11_ageOf_29 : decode cX11_ageOf 29 = .ok (.ireturn, 1) := by decide +kernel
def f_X11_ageOf_b18 (σ : TH) (l1 : Option Nat) (t0 : Int32) : Option (Int32 × TH) :=
  nn_ l1 fun a6 => gt_ (kd_ σ a6 = 4) <| lt_ (fi_ σ 302 a6) fun x7 => gt_ (¬ (365 : Int32) = 0) <| some ((x7 + t0) / (365 : Int32), σ)
set_option maxHeartbeats 4000000 in
set_option maxRecDepth 100000 in
theorem t_X11_ageOf_b18 {l : Launch} {D : va_G} {cy : Nat → ClassId} {ka : Nat → Nat} {σ0 z : TH} {r : Int32}  {σ : TH} {l1 : Option Nat} {t0 : Int32} (hf : f_X11_ageOf_b18 σ l1 t0 = some (r, z)) : v_ l D cy ka cX11_ageOf RX11 3 (some FieldType.int) "ageOf" 1 20 (qf_ D cy σ0 z (some (.int r))) σ0 z σ 18 [(1, va_rf l1)] [.int t0] := by
  unfold f_X11_ageOf_b18 at hf
  refine v_istore_n [(2, .int t0), (1, va_rf l1)] dX11_ageOf_18 rfl (by decide) (by simp [va_rf_cat, cat_i, cat_l]) ?_
  refine v_aload_n (x := l1) dX11_ageOf_19 rfl 1 rfl ?_
  obtain ⟨a6, rfl, hf⟩ := nn_of hf
  obtain ⟨hk_a6, hf⟩ := gt_of hf
  refine v_geti cb_3 hk_a6 2 302 rfl (by decide) rfl (lk_n kw_469 rfl) hf dX11_ageOf_20 (fun x7 hf => ?_)
  refine v_iload_n (x := t0) dX11_ageOf_23 rfl 0 rfl ?_
  refine v_iadd dX11_ageOf_24 ?_
  refine v_sipush (v := 365) dX11_ageOf_25 (by decide) ?_
  refine v_idiv hf dX11_ageOf_28 (fun hf => ?_)
  exact v_iret hf dX11_ageOf_29
/-- LivesAhead.ageOf(LLivesAhead$Person;)I -/
def f_X11_ageOf (σ : TH) (p0 : Nat) (p1 : Option Nat) : Option (Int32 × TH) :=
  nn_ p1 fun a1 => gt_ (kd_ σ a1 = 4) <| bd_ (f_X2_isDead σ a1) fun x2 s3 => if x2 = 0 then (gt_ (kd_ s3 p0 = 13) <| bd_ (f_X11_today s3 p0) fun x4 s5 => f_X11_ageOf_b18 s5 (some a1) x4) else (lt_ (fi_ s3 305 a1) fun x8 => f_X11_ageOf_b18 s3 (some a1) x8)
set_option maxHeartbeats 4000000 in
set_option maxRecDepth 100000 in
theorem c_X11_ageOf {l : Launch} {D : va_G} {cy : Nat → ClassId} {ka : Nat → Nat} {σ z : TH} {p0 : Nat} {p1 : Option Nat} {r : Int32} (hf : f_X11_ageOf σ p0 p1 = some (r, z)) : ct_ l D cy ka yX11_ageOf 1 20 [va_rf (some p0), va_rf p1] σ (some (.int r)) z := by
  unfold f_X11_ageOf at hf
  refine v_start (cc := cX11_ageOf) (own := RX11) (maxL := 3) (ret := (some FieldType.int)) (nm := "ageOf") (by decide +kernel) kw_533 rfl rfl (by simp [lg_sl, va_rf_cat, cat_i, cat_l]) ?_
  refine v_eqL (L2 := [(0, va_rf (some p0)), (1, va_rf p1)]) (by simp [lv_args, va_rf_cat, cat_i, cat_l]) ?_
  refine v_aload_n (x := p1) dX11_ageOf_0 rfl 1 rfl ?_
  obtain ⟨a1, rfl, hf⟩ := nn_of hf
  obtain ⟨hk_a1, hf⟩ := gt_of hf
  obtain ⟨x2, s3, hcs3, hf⟩ := bd_of hf
  have hts3 := c_X2_isDead (l := l) (D := D) (cy := cy) (ka := ka) hcs3
  refine v_callV cb_3 hk_a1 (As := []) (rest := []) hts3 yb_X2_isDead kw_534 kw_535 kw_536 rfl ⟨Nat.le_of_ble_eq_true rfl, Nat.le_of_ble_eq_true rfl⟩ rfl (cat_len (Nat.le_of_ble_eq_true rfl)) dX11_ageOf_1 ?_
  have hk_a1 := tk_ hts3.1 hk_a1
  show v_ l D cy ka cX11_ageOf RX11 3 (some FieldType.int) "ageOf" 1 20 (qf_ D cy σ z (some (.int r))) σ z _ 4 [(0, va_rf (some p0)), (1, va_rf (some a1))] [.int x2]
  refine v_if_eq (tgt := 14) hf dX11_ageOf_4 (by decide) (fun hq hf => ?_) (fun hq hf => ?_)
  · refine v_aload_n (x := (some p0)) dX11_ageOf_14 rfl 0 rfl ?_
    obtain ⟨hk_p0, hf⟩ := gt_of hf
    obtain ⟨x4, s5, hcs5, hf⟩ := bd_of hf
    have hts5 := c_X11_today (l := l) (D := D) (cy := cy) (ka := ka) hcs5
    refine v_callV cb_12 hk_p0 (As := []) (rest := []) hts5 yb_X11_today kw_538 kw_540 kp_13 rfl ⟨Nat.le_of_ble_eq_true rfl, Nat.le_of_ble_eq_true rfl⟩ rfl (cat_len (Nat.le_of_ble_eq_true rfl)) dX11_ageOf_15 ?_
    have hk_a1 := tk_ hts5.1 hk_a1
    have hk_p0 := tk_ hts5.1 hk_p0
    show v_ l D cy ka cX11_ageOf RX11 3 (some FieldType.int) "ageOf" 1 20 (qf_ D cy σ z (some (.int r))) σ z _ 18 [(0, va_rf (some p0)), (1, va_rf (some a1))] [.int x4]
    refine v_sub [1] (L2 := [(1, va_rf (some a1))]) rfl ?_
    exact t_X11_ageOf_b18  hf
  · refine v_aload_n (x := (some a1)) dX11_ageOf_7 rfl 1 rfl ?_
    refine v_geti cb_3 hk_a1 5 305 rfl (by decide) rfl (lk_n kw_475 rfl) hf dX11_ageOf_8 (fun x8 hf => ?_)
    refine v_goto (tgt := 18) dX11_ageOf_11 (by decide) ?_
    refine v_sub [1] (L2 := [(1, va_rf (some a1))]) rfl ?_
    exact t_X11_ageOf_b18  hf
theorem dX11_asNumber_0 : decode cX11_asNumber 0 = .ok (.iload_n 0, 1) := by decide +kernel
theorem dX11_asNumber_1 : decode cX11_asNumber 1 = .ok (.ifCond .eq 7, 3) := by decide +kernel
theorem dX11_asNumber_4 : decode cX11_asNumber 4 = .ok (.iconst 1, 1) := by decide +kernel
theorem dX11_asNumber_5 : decode cX11_asNumber 5 = .ok (.goto 4, 3) := by decide +kernel
theorem dX11_asNumber_8 : decode cX11_asNumber 8 = .ok (.iconst 0, 1) := by decide +kernel
theorem dX11_asNumber_9 : decode cX11_asNumber 9 = .ok (.ireturn, 1) := by decide +kernel
def f_X11_asNumber_b9 (σ : TH) (t0 : Int32) : Option (Int32 × TH) :=
  some (t0, σ)
set_option maxHeartbeats 4000000 in
set_option maxRecDepth 100000 in
theorem t_X11_asNumber_b9 {l : Launch} {D : va_G} {cy : Nat → ClassId} {ka : Nat → Nat} {σ0 z : TH} {r : Int32}  {σ : TH} {t0 : Int32} (hf : f_X11_asNumber_b9 σ t0 = some (r, z)) : v_ l D cy ka cX11_asNumber RX11 1 (some FieldType.int) "asNumber" 0 0 (qf_ D cy σ0 z (some (.int r))) σ0 z σ 9 [] [.int t0] := by
  unfold f_X11_asNumber_b9 at hf
  exact v_iret hf dX11_asNumber_9
/-- LivesAhead.asNumber(Z)I -/
def f_X11_asNumber (σ : TH) (p0 : Int32) : Option (Int32 × TH) :=
  if p0 = 0 then (f_X11_asNumber_b9 σ (0 : Int32)) else (f_X11_asNumber_b9 σ (1 : Int32))
set_option maxHeartbeats 4000000 in
set_option maxRecDepth 100000 in
theorem c_X11_asNumber {l : Launch} {D : va_G} {cy : Nat → ClassId} {ka : Nat → Nat} {σ z : TH} {p0 : Int32} {r : Int32} (hf : f_X11_asNumber σ p0 = some (r, z)) : ct_ l D cy ka yX11_asNumber 0 0 [.int p0] σ (some (.int r)) z := by
  unfold f_X11_asNumber at hf
  refine v_start (cc := cX11_asNumber) (own := RX11) (maxL := 1) (ret := (some FieldType.int)) (nm := "asNumber") (by decide +kernel) kw_444 rfl rfl (by simp [lg_sl, va_rf_cat, cat_i, cat_l]) ?_
  refine v_eqL (L2 := [(0, .int p0)]) (by simp [lv_args, va_rf_cat, cat_i, cat_l]) ?_
  refine v_iload_n (x := p0) dX11_asNumber_0 rfl 0 rfl ?_
  refine v_if_eq (tgt := 8) hf dX11_asNumber_1 (by decide) (fun hq hf => ?_) (fun hq hf => ?_)
  · refine v_iconst (v := 0) dX11_asNumber_8 (by decide) ?_
    refine v_sub [] (L2 := []) rfl ?_
    exact t_X11_asNumber_b9  hf
  · refine v_iconst (v := 1) dX11_asNumber_4 (by decide) ?_
    refine v_goto (tgt := 9) dX11_asNumber_5 (by decide) ?_
    refine v_sub [] (L2 := []) rfl ?_
    exact t_X11_asNumber_b9  hf
theorem dX11_within_0 : decode cX11_within 0 = .ok (.iload_n 0, 1) := by decide +kernel
theorem dX11_within_1 : decode cX11_within 1 = .ok (.iload_n 1, 1) := by decide +kernel
theorem dX11_within_2 : decode cX11_within 2 = .ok (.if_icmp .lt 12, 3) := by decide +kernel
theorem dX11_within_5 : decode cX11_within 5 = .ok (.iload_n 0, 1) := by decide +kernel
theorem dX11_within_6 : decode cX11_within 6 = .ok (.iload_n 2, 1) := by decide +kernel
theorem dX11_within_7 : decode cX11_within 7 = .ok (.if_icmp .gt 7, 3) := by decide +kernel
theorem dX11_within_10 : decode cX11_within 10 = .ok (.iconst 1, 1) := by decide +kernel
theorem dX11_within_11 : decode cX11_within 11 = .ok (.goto 4, 3) := by decide +kernel
theorem dX11_within_14 : decode cX11_within 14 = .ok (.iconst 0, 1) := by decide +kernel
theorem dX11_within_15 : decode cX11_within 15 = .ok (.ireturn, 1) := by decide +kernel
def f_X11_within_b15 (σ : TH) (t0 : Int32) : Option (Int32 × TH) :=
  gt_ (t0 = 0 ∨ t0 = 1) <| some (t0, σ)
set_option maxHeartbeats 4000000 in
set_option maxRecDepth 100000 in
theorem t_X11_within_b15 {l : Launch} {D : va_G} {cy : Nat → ClassId} {ka : Nat → Nat} {σ0 z : TH} {r : Int32}  {σ : TH} {t0 : Int32} (hf : f_X11_within_b15 σ t0 = some (r, z)) : v_ l D cy ka cX11_within RX11 3 (some FieldType.boolean) "within" 0 0 (qf_ D cy σ0 z (some (.int r))) σ0 z σ 15 [] [.int t0] := by
  unfold f_X11_within_b15 at hf
  obtain ⟨hb9, hf⟩ := gt_of hf
  exact v_zret hf (nz_ hb9) dX11_within_15
def f_X11_within_b14 (σ : TH) : Option (Int32 × TH) :=
  f_X11_within_b15 σ (0 : Int32)
set_option maxHeartbeats 4000000 in
set_option maxRecDepth 100000 in
theorem t_X11_within_b14 {l : Launch} {D : va_G} {cy : Nat → ClassId} {ka : Nat → Nat} {σ0 z : TH} {r : Int32}  {σ : TH}  (hf : f_X11_within_b14 σ  = some (r, z)) : v_ l D cy ka cX11_within RX11 3 (some FieldType.boolean) "within" 0 0 (qf_ D cy σ0 z (some (.int r))) σ0 z σ 14 [] [] := by
  unfold f_X11_within_b14 at hf
  refine v_iconst (v := 0) dX11_within_14 (by decide) ?_
  refine v_sub [] (L2 := []) rfl ?_
  exact t_X11_within_b15  hf
/-- LivesAhead.within(III)Z -/
def f_X11_within (σ : TH) (p0 : Int32) (p1 : Int32) (p2 : Int32) : Option (Int32 × TH) :=
  if p0 < p1 then (f_X11_within_b14 σ ) else (if p2 < p0 then (f_X11_within_b14 σ ) else (f_X11_within_b15 σ (1 : Int32)))
set_option maxHeartbeats 4000000 in
set_option maxRecDepth 100000 in
theorem c_X11_within {l : Launch} {D : va_G} {cy : Nat → ClassId} {ka : Nat → Nat} {σ z : TH} {p0 : Int32} {p1 : Int32} {p2 : Int32} {r : Int32} (hf : f_X11_within σ p0 p1 p2 = some (r, z)) : ct_ l D cy ka yX11_within 0 0 [.int p0, .int p1, .int p2] σ (some (.int r)) z := by
  unfold f_X11_within at hf
  refine v_start (cc := cX11_within) (own := RX11) (maxL := 3) (ret := (some FieldType.boolean)) (nm := "within") (by decide +kernel) kw_306 rfl rfl (by simp [lg_sl, va_rf_cat, cat_i, cat_l]) ?_
  refine v_eqL (L2 := [(0, .int p0), (1, .int p1), (2, .int p2)]) (by simp [lv_args, va_rf_cat, cat_i, cat_l]) ?_
  refine v_iload_n (x := p0) dX11_within_0 rfl 0 rfl ?_
  refine v_iload_n (x := p1) dX11_within_1 rfl 1 rfl ?_
  refine v_icmp_lt (tgt := 14) hf dX11_within_2 (by decide) (fun hq hf => ?_) (fun hq hf => ?_)
  · refine v_sub [] (L2 := []) rfl ?_
    exact t_X11_within_b14  hf
  · refine v_iload_n (x := p0) dX11_within_5 rfl 0 rfl ?_
    refine v_iload_n (x := p2) dX11_within_6 rfl 2 rfl ?_
    refine v_icmp_gt (tgt := 14) hf dX11_within_7 (by decide) (fun hq hf => ?_) (fun hq hf => ?_)
    · refine v_sub [] (L2 := []) rfl ?_
      exact t_X11_within_b14  hf
    · refine v_iconst (v := 1) dX11_within_10 (by decide) ?_
      refine v_goto (tgt := 15) dX11_within_11 (by decide) ?_
      refine v_sub [] (L2 := []) rfl ?_
      exact t_X11_within_b15  hf
theorem dX11_isStale_0 : decode cX11_isStale 0 = .ok (.iload_n 3, 1) := by decide +kernel
theorem dX11_isStale_1 : decode cX11_isStale 1 = .ok (.aload_n 1, 1) := by decide +kernel
theorem dX11_isStale_2 : decode cX11_isStale 2 = .ok (.getfield 213, 3) := by decide +kernel
theorem dX11_isStale_5 : decode cX11_isStale 5 = .ok (.isub, 1) := by decide +kernel
theorem dX11_isStale_6 : decode cX11_isStale 6 = .ok (.aload_n 0, 1) := by decide +kernel
theorem dX11_isStale_7 : decode cX11_isStale 7 = .ok (.getfield 34, 3) := by decide +kernel
theorem dX11_isStale_10 : decode cX11_isStale 10 = .ok (.iload_n 2, 1) := by decide +kernel
theorem dX11_isStale_11 : decode cX11_isStale 11 = .ok (.iaload, 1) := by decide +kernel
theorem dX11_isStale_12 : decode cX11_isStale 12 = .ok (.if_icmp .le 7, 3) := by decide +kernel
theorem dX11_isStale_15 : decode cX11_isStale 15 = .ok (.iconst 1, 1) := by decide +kernel
theorem dX11_isStale_16 : decode cX11_isStale 16 = .ok (.goto 4, 3) := by decide +kernel
theorem dX11_isStale_19 : decode cX11_isStale 19 = .ok (.iconst 0, 1) := by decide +kernel
theorem dX11_isStale_20 : decode cX11_isStale 20 = .ok (.ireturn, 1) := by decide +kernel
def f_X11_isStale_b20 (σ : TH) (t0 : Int32) : Option (Int32 × TH) :=
  gt_ (t0 = 0 ∨ t0 = 1) <| some (t0, σ)
set_option maxHeartbeats 4000000 in
set_option maxRecDepth 100000 in
theorem t_X11_isStale_b20 {l : Launch} {D : va_G} {cy : Nat → ClassId} {ka : Nat → Nat} {σ0 z : TH} {r : Int32}  {σ : TH} {t0 : Int32} (hf : f_X11_isStale_b20 σ t0 = some (r, z)) : v_ l D cy ka cX11_isStale RX11 4 (some FieldType.boolean) "isStale" 0 0 (qf_ D cy σ0 z (some (.int r))) σ0 z σ 20 [] [.int t0] := by
  unfold f_X11_isStale_b20 at hf
  obtain ⟨hb9, hf⟩ := gt_of hf
  exact v_zret hf (nz_ hb9) dX11_isStale_20
/-- LivesAhead.isStale(LLivesAhead$Telling;II)Z -/
def f_X11_isStale (σ : TH) (p0 : Nat) (p1 : Option Nat) (p2 : Int32) (p3 : Int32) : Option (Int32 × TH) :=
  nn_ p1 fun a1 => gt_ (kd_ σ a1 = 10) <| lt_ (fi_ σ 905 a1) fun x2 => gt_ (kd_ σ p0 = 13) <| lt_ (fr_ σ 1207 p0) fun r3 => nn_ r3 fun a4 => gt_ (kd_ σ a4 = 20) <| gt_ (¬ (p2 < 0 ∨ ln_ σ a4 ≤ p2.toNatClampNeg)) <| lt_ (ai_ σ a4 p2.toNatClampNeg) fun x5 => if (p3 - x2) ≤ x5 then (f_X11_isStale_b20 σ (0 : Int32)) else (f_X11_isStale_b20 σ (1 : Int32))
set_option maxHeartbeats 4000000 in
set_option maxRecDepth 100000 in
theorem c_X11_isStale {l : Launch} {D : va_G} {cy : Nat → ClassId} {ka : Nat → Nat} {σ z : TH} {p0 : Nat} {p1 : Option Nat} {p2 : Int32} {p3 : Int32} {r : Int32} (hf : f_X11_isStale σ p0 p1 p2 p3 = some (r, z)) : ct_ l D cy ka yX11_isStale 0 0 [va_rf (some p0), va_rf p1, .int p2, .int p3] σ (some (.int r)) z := by
  unfold f_X11_isStale at hf
  refine v_start (cc := cX11_isStale) (own := RX11) (maxL := 4) (ret := (some FieldType.boolean)) (nm := "isStale") (by decide +kernel) kw_559 rfl rfl (by simp [lg_sl, va_rf_cat, cat_i, cat_l]) ?_
  refine v_eqL (L2 := [(0, va_rf (some p0)), (1, va_rf p1), (2, .int p2), (3, .int p3)]) (by simp [lv_args, va_rf_cat, cat_i, cat_l]) ?_
  refine v_iload_n (x := p3) dX11_isStale_0 rfl 3 rfl ?_
  refine v_aload_n (x := p1) dX11_isStale_1 rfl 1 rfl ?_
  obtain ⟨a1, rfl, hf⟩ := nn_of hf
  obtain ⟨hk_a1, hf⟩ := gt_of hf
  refine v_geti cb_9 hk_a1 5 905 rfl (by decide) rfl (lk_n kw_596 rfl) hf dX11_isStale_2 (fun x2 hf => ?_)
  refine v_isub dX11_isStale_5 ?_
  refine v_aload_n (x := (some p0)) dX11_isStale_6 rfl 0 rfl ?_
  obtain ⟨hk_p0, hf⟩ := gt_of hf
  refine v_getr cb_12 hk_p0 7 1207 rfl (by decide) rfl (lk_n kw_246 rfl) hf dX11_isStale_7 (fun r3 hf => ?_)
  refine v_iload_n (x := p2) dX11_isStale_10 rfl 2 rfl ?_
  obtain ⟨a4, rfl, hf⟩ := nn_of hf
  obtain ⟨hk_a4, hf⟩ := gt_of hf
  refine v_iald hk_a4 hf dX11_isStale_11 (fun x5 hf => ?_)
  refine v_icmp_le (tgt := 19) hf dX11_isStale_12 (by decide) (fun hq hf => ?_) (fun hq hf => ?_)
  · refine v_iconst (v := 0) dX11_isStale_19 (by decide) ?_
    refine v_sub [] (L2 := []) rfl ?_
    exact t_X11_isStale_b20  hf
  · refine v_iconst (v := 1) dX11_isStale_15 (by decide) ?_
    refine v_goto (tgt := 20) dX11_isStale_16 (by decide) ?_
    refine v_sub [] (L2 := []) rfl ?_
    exact t_X11_isStale_b20  hf
theorem dX11_staleKinds_0 : decode cX11_staleKinds 0 = .ok (.iconst 0, 1) := by decide +kernel
theorem dX11_staleKinds_1 : decode cX11_staleKinds 1 = .ok (.istore_n 3, 1) := by decide +kernel
theorem dX11_staleKinds_2 : decode cX11_staleKinds 2 = .ok (.iconst 0, 1) := by decide +kernel
theorem dX11_staleKinds_3 : decode cX11_staleKinds 3 = .ok (.istore 4, 2) := by decide +kernel
theorem dX11_staleKinds_5 : decode cX11_staleKinds 5 = .ok (.iload 4, 2) := by decide +kernel
theorem dX11_staleKinds_7 : decode cX11_staleKinds 7 = .ok (.bipush 10, 2) := by decide +kernel
theorem dX11_staleKinds_9 : decode cX11_staleKinds 9 = .ok (.if_icmp .ge 42, 3) := by decide +kernel
theorem dX11_staleKinds_12 : decode cX11_staleKinds 12 = .ok (.aload_n 1, 1) := by decide +kernel
theorem dX11_staleKinds_13 : decode cX11_staleKinds 13 = .ok (.getfield 203, 3) := by decide +kernel
theorem dX11_staleKinds_16 : decode cX11_staleKinds 16 = .ok (.iload 4, 2) := by decide +kernel
theorem dX11_staleKinds_18 : decode cX11_staleKinds 18 = .ok (.aaload, 1) := by decide +kernel
theorem dX11_staleKinds_19 : decode cX11_staleKinds 19 = .ok (.astore 5, 2) := by decide +kernel
theorem dX11_staleKinds_21 : decode cX11_staleKinds 21 = .ok (.aload 5, 2) := by decide +kernel
theorem dX11_staleKinds_23 : decode cX11_staleKinds 23 = .ok (.ifnull 22, 3) := by decide +kernel
theorem dX11_staleKinds_26 : decode cX11_staleKinds 26 = .ok (.aload_n 0, 1) := by decide +kernel
theorem dX11_staleKinds_27 : decode cX11_staleKinds 27 = .ok (.aload 5, 2) := by decide +kernel
theorem dX11_staleKinds_29 : decode cX11_staleKinds 29 = .ok (.iload 4, 2) := by decide +kernel
theorem dX11_staleKinds_31 : decode cX11_staleKinds 31 = .ok (.iload_n 2, 1) := by decide +kernel
theorem dX11_staleKinds_32 : decode cX11_staleKinds 32 = .ok (.invokevirtual 230, 3) := by decide +kernel
theorem dX11_staleKinds_35 : decode cX11_staleKinds 35 = .ok (.ifCond .eq 10, 3) := by decide +kernel
theorem dX11_staleKinds_38 : decode cX11_staleKinds 38 = .ok (.iload_n 3, 1) := by decide +kernel
theorem dX11_staleKinds_39 : decode cX11_staleKinds 39 = .ok (.iconst 1, 1) := by decide +kernel
theorem dX11_staleKinds_40 : decode cX11_staleKinds 40 = .ok (.iload 4, 2) := by decide +kernel
theorem dX11_staleKinds_42 : decode cX11_staleKinds 42 = .ok (.ishl, 1) := by decide +kernel
theorem dX11_staleKinds_43 : decode cX11_staleKinds 43 = .ok (.ior, 1) := by decide +kernel
theorem dX11_staleKinds_44 : decode cX11_staleKinds 44 = .ok (.istore_n 3, 1) := by decide +kernel
theorem dX11_staleKinds_45 : decode cX11_staleKinds 45 = .ok (.iinc 4 1, 3) := by decide +kernel
theorem dX11_staleKinds_48 : decode cX11_staleKinds 48 = .ok (.goto (-43), 3) := by decide +kernel
theorem dX11_staleKinds_51 : decode cX11_staleKinds 51 = .ok (.iload_n 3, 1) := by decide +kernel
theorem dX11_staleKinds_52 : decode cX11_staleKinds 52 = .ok (.ireturn, 1) := by decide +kernel
def f_X11_staleKinds_b45 (rec_5 : TH → Nat → Option Nat → Int32 → Int32 → Int32 → Option (Int32 × TH)) (σ : TH) (l0 : Nat) (l1 : Option Nat) (l2 : Int32) (l3 : Int32) (l4 : Int32) : Option (Int32 × TH) :=
  lt_ (l4 + 1) fun x6 => rec_5 σ l0 l1 l2 l3 x6
set_option maxHeartbeats 4000000 in
set_option maxRecDepth 100000 in
theorem t_X11_staleKinds_b45 {l : Launch} {D : va_G} {cy : Nat → ClassId} {ka : Nat → Nat} {σ0 z : TH} {r : Int32} {rec_5 : TH → Nat → Option Nat → Int32 → Int32 → Int32 → Option (Int32 × TH)} (hrec_5 : ∀ (σ : TH) (l0 : Nat) (l1 : Option Nat) (l2 : Int32) (l3 : Int32) (l4 : Int32), rec_5 σ l0 l1 l2 l3 l4 = some (r, z) → v_ l D cy ka cX11_staleKinds RX11 6 (some FieldType.int) "staleKinds" 1 23 (qf_ D cy σ0 z (some (.int r))) σ0 z σ 5 [(0, va_rf (some l0)), (1, va_rf l1), (2, .int l2), (3, .int l3), (4, .int l4)] []) {σ : TH} {l0 : Nat} {l1 : Option Nat} {l2 : Int32} {l3 : Int32} {l4 : Int32} (hf : f_X11_staleKinds_b45 rec_5 σ l0 l1 l2 l3 l4 = some (r, z)) : v_ l D cy ka cX11_staleKinds RX11 6 (some FieldType.int) "staleKinds" 1 23 (qf_ D cy σ0 z (some (.int r))) σ0 z σ 45 [(0, va_rf (some l0)), (1, va_rf l1), (2, .int l2), (3, .int l3), (4, .int l4)] [] := by
  unfold f_X11_staleKinds_b45 at hf
  obtain ⟨x6, ex6⟩ : ∃ y : Int32, y = l4 + 1 := ⟨_, rfl⟩
  rw [lt_e, ← ex6] at hf
  refine v_iinc (v := x6) [(4, .int x6), (0, va_rf (some l0)), (1, va_rf l1), (2, .int l2), (3, .int l3)] dX11_staleKinds_45 4 rfl (by rw [ex6]; rfl) (by decide) rfl ?_
  refine v_goto (tgt := 5) dX11_staleKinds_48 (by decide) ?_
  refine v_sub [1, 2, 3, 4, 0] (L2 := [(0, va_rf (some l0)), (1, va_rf l1), (2, .int l2), (3, .int l3), (4, .int x6)]) rfl ?_
  exact hrec_5 _ _ _ _ _ _ hf
def f_X11_staleKinds_b5 : Nat → TH → Nat → Option Nat → Int32 → Int32 → Int32 → Option (Int32 × TH)
  | 0, _, _, _, _, _, _ => none
  | n + 1, σ, l0, l1, l2, l3, l4 => if (10 : Int32) ≤ l4 then (some (l3, σ)) else (nn_ l1 fun a1 => gt_ (kd_ σ a1 = 4) <| lt_ (fr_ σ 309 a1) fun r2 => nn_ r2 fun a3 => gt_ (kd_ σ a3 = 25) <| gt_ (¬ (l4 < 0 ∨ ln_ σ a3 ≤ l4.toNatClampNeg)) <| lt_ (ar_ σ a3 l4.toNatClampNeg) fun r4 => oc_ r4 (f_X11_staleKinds_b45 (f_X11_staleKinds_b5 n) σ l0 (some a1) l2 l3 l4) (fun a5 => gt_ (kd_ σ l0 = 13) <| bd_ (f_X11_isStale σ l0 (some a5) l4 l2) fun x7 s8 => if x7 = 0 then (f_X11_staleKinds_b45 (f_X11_staleKinds_b5 n) s8 l0 (some a1) l2 l3 l4) else (lt_ (l3 ||| ((1 : Int32) <<< (l4 &&& 31))) fun x9 => f_X11_staleKinds_b45 (f_X11_staleKinds_b5 n) s8 l0 (some a1) l2 x9 l4)))
set_option maxHeartbeats 4000000 in
set_option maxRecDepth 100000 in
theorem t_X11_staleKinds_b5 {l : Launch} {D : va_G} {cy : Nat → ClassId} {ka : Nat → Nat} {σ0 z : TH} {r : Int32}  : ∀ (n : Nat) (σ : TH) (l0 : Nat) (l1 : Option Nat) (l2 : Int32) (l3 : Int32) (l4 : Int32), f_X11_staleKinds_b5 n σ l0 l1 l2 l3 l4 = some (r, z) → v_ l D cy ka cX11_staleKinds RX11 6 (some FieldType.int) "staleKinds" 1 23 (qf_ D cy σ0 z (some (.int r))) σ0 z σ 5 [(0, va_rf (some l0)), (1, va_rf l1), (2, .int l2), (3, .int l3), (4, .int l4)] [] := by
  intro n
  induction n with
  | zero => intro σ l0 l1 l2 l3 l4 hf; unfold f_X11_staleKinds_b5 at hf; cases hf
  | succ n ih =>
    intro σ l0 l1 l2 l3 l4 hf
    unfold f_X11_staleKinds_b5 at hf
    have hrec_5 := ih
    refine v_iload (x := l4) dX11_staleKinds_5 4 rfl ?_
    refine v_bipush (v := 10) dX11_staleKinds_7 (by decide) ?_
    refine v_icmp_ge (tgt := 51) hf dX11_staleKinds_9 (by decide) (fun hq hf => ?_) (fun hq hf => ?_)
    · refine v_iload_n (x := l3) dX11_staleKinds_51 rfl 3 rfl ?_
      exact v_iret hf dX11_staleKinds_52
    · refine v_aload_n (x := l1) dX11_staleKinds_12 rfl 1 rfl ?_
      obtain ⟨a1, rfl, hf⟩ := nn_of hf
      obtain ⟨hk_a1, hf⟩ := gt_of hf
      refine v_getr cb_3 hk_a1 9 309 rfl (by decide) rfl (lk_n kw_484 rfl) hf dX11_staleKinds_13 (fun r2 hf => ?_)
      refine v_iload (x := l4) dX11_staleKinds_16 4 rfl ?_
      obtain ⟨a3, rfl, hf⟩ := nn_of hf
      obtain ⟨hk_a3, hf⟩ := gt_of hf
      refine v_aald 24 5 RX8 hk_a3 (by decide) rfl hf dX11_staleKinds_18 (fun r4 hf => ?_)
      refine v_astore [(5, va_rf r4), (0, va_rf (some l0)), (1, va_rf (some a1)), (2, .int l2), (3, .int l3), (4, .int l4)] dX11_staleKinds_19 (by decide) rfl ?_
      refine v_aload (x := r4) dX11_staleKinds_21 0 rfl ?_
      refine v_ifnull2 (tgt := 45) hf dX11_staleKinds_23 (by decide) (fun e9 hf => ?_) (fun a5 e9 hf => ?_)
      · subst e9
        refine v_sub [1, 2, 3, 4, 5] (L2 := [(0, va_rf (some l0)), (1, va_rf (some a1)), (2, .int l2), (3, .int l3), (4, .int l4)]) rfl ?_
        exact t_X11_staleKinds_b45 hrec_5 hf
      · subst e9
        refine v_aload_n (x := (some l0)) dX11_staleKinds_26 rfl 1 rfl ?_
        refine v_aload (x := (some a5)) dX11_staleKinds_27 0 rfl ?_
        refine v_iload (x := l4) dX11_staleKinds_29 5 rfl ?_
        refine v_iload_n (x := l2) dX11_staleKinds_31 rfl 3 rfl ?_
        obtain ⟨hk_l0, hf⟩ := gt_of hf
        obtain ⟨x7, s8, hcs8, hf⟩ := bd_of hf
        have hts8 := c_X11_isStale (l := l) (D := D) (cy := cy) (ka := ka) hcs8
        refine v_callV cb_12 hk_l0 (As := [va_rf (some a5), .int l4, .int l2]) (rest := []) hts8 yb_X11_isStale kw_556 kw_558 kp_15 rfl ⟨Nat.le_of_ble_eq_true rfl, Nat.le_of_ble_eq_true rfl⟩ rfl (cat_len (Nat.le_of_ble_eq_true rfl)) dX11_staleKinds_32 ?_
        have hk_a1 := tk_ hts8.1 hk_a1
        have hk_l0 := tk_ hts8.1 hk_l0
        show v_ l D cy ka cX11_staleKinds RX11 6 (some FieldType.int) "staleKinds" 1 23 (qf_ D cy σ0 z (some (.int r))) σ0 z _ 35 [(5, va_rf (some a5)), (0, va_rf (some l0)), (1, va_rf (some a1)), (2, .int l2), (3, .int l3), (4, .int l4)] [.int x7]
        refine v_if_eq (tgt := 45) hf dX11_staleKinds_35 (by decide) (fun hq hf => ?_) (fun hq hf => ?_)
        · refine v_sub [1, 2, 3, 4, 5] (L2 := [(0, va_rf (some l0)), (1, va_rf (some a1)), (2, .int l2), (3, .int l3), (4, .int l4)]) rfl ?_
          exact t_X11_staleKinds_b45 hrec_5 hf
        · refine v_iload_n (x := l3) dX11_staleKinds_38 rfl 4 rfl ?_
          refine v_iconst (v := 1) dX11_staleKinds_39 (by decide) ?_
          refine v_iload (x := l4) dX11_staleKinds_40 5 rfl ?_
          refine v_ishl dX11_staleKinds_42 ?_
          refine v_ior dX11_staleKinds_43 ?_
          obtain ⟨x9, ex9⟩ : ∃ y : Int32, y = l3 ||| ((1 : Int32) <<< (l4 &&& 31)) := ⟨_, rfl⟩
          rw [lt_e, ← ex9] at hf
          rw [← ex9]
          refine v_istore_n [(3, .int x9), (5, va_rf (some a5)), (0, va_rf (some l0)), (1, va_rf (some a1)), (2, .int l2), (4, .int l4)] dX11_staleKinds_44 rfl (by decide) rfl ?_
          refine v_sub [2, 3, 4, 0, 5] (L2 := [(0, va_rf (some l0)), (1, va_rf (some a1)), (2, .int l2), (3, .int x9), (4, .int l4)]) rfl ?_
          exact t_X11_staleKinds_b45 hrec_5 hf
/-- LivesAhead.staleKinds(LLivesAhead$Person;I)I -/
def f_X11_staleKinds (σ : TH) (p0 : Nat) (p1 : Option Nat) (p2 : Int32) : Option (Int32 × TH) :=
  f_X11_staleKinds_b5 fu_ σ p0 p1 p2 (0 : Int32) (0 : Int32)
set_option maxHeartbeats 4000000 in
set_option maxRecDepth 100000 in
theorem c_X11_staleKinds {l : Launch} {D : va_G} {cy : Nat → ClassId} {ka : Nat → Nat} {σ z : TH} {p0 : Nat} {p1 : Option Nat} {p2 : Int32} {r : Int32} (hf : f_X11_staleKinds σ p0 p1 p2 = some (r, z)) : ct_ l D cy ka yX11_staleKinds 1 23 [va_rf (some p0), va_rf p1, .int p2] σ (some (.int r)) z := by
  unfold f_X11_staleKinds at hf
  refine v_start (cc := cX11_staleKinds) (own := RX11) (maxL := 6) (ret := (some FieldType.int)) (nm := "staleKinds") (by decide +kernel) kw_555 rfl rfl (by simp [lg_sl, va_rf_cat, cat_i, cat_l]) ?_
  refine v_eqL (L2 := [(0, va_rf (some p0)), (1, va_rf p1), (2, .int p2)]) (by simp [lv_args, va_rf_cat, cat_i, cat_l]) ?_
  refine v_iconst (v := 0) dX11_staleKinds_0 (by decide) ?_
  refine v_istore_n [(3, .int (0 : Int32)), (0, va_rf (some p0)), (1, va_rf p1), (2, .int p2)] dX11_staleKinds_1 rfl (by decide) rfl ?_
  refine v_iconst (v := 0) dX11_staleKinds_2 (by decide) ?_
  refine v_istore [(4, .int (0 : Int32)), (3, .int (0 : Int32)), (0, va_rf (some p0)), (1, va_rf p1), (2, .int p2)] dX11_staleKinds_3 (by decide) rfl ?_
  refine v_sub [2, 3, 4, 1, 0] (L2 := [(0, va_rf (some p0)), (1, va_rf p1), (2, .int p2), (3, .int (0 : Int32)), (4, .int (0 : Int32))]) rfl ?_
  exact t_X11_staleKinds_b5  _ _ _ _ _ _ _ hf
theorem dX2_kindsTold_0 : decode cX2_kindsTold 0 = .ok (.iconst 0, 1) := by decide +kernel
theorem dX2_kindsTold_1 : decode cX2_kindsTold 1 = .ok (.istore_n 1, 1) := by decide +kernel
theorem dX2_kindsTold_2 : decode cX2_kindsTold 2 = .ok (.iconst 0, 1) := by decide +kernel
theorem dX2_kindsTold_3 : decode cX2_kindsTold 3 = .ok (.istore_n 2, 1) := by decide +kernel
theorem dX2_kindsTold_4 : decode cX2_kindsTold 4 = .ok (.iload_n 2, 1) := by decide +kernel
theorem dX2_kindsTold_5 : decode cX2_kindsTold 5 = .ok (.bipush 10, 2) := by decide +kernel
theorem dX2_kindsTold_7 : decode cX2_kindsTold 7 = .ok (.if_icmp .ge 28, 3) := by decide +kernel
theorem dX2_kindsTold_10 : decode cX2_kindsTold 10 = .ok (.iload_n 1, 1) := by decide +kernel
theorem dX2_kindsTold_11 : decode cX2_kindsTold 11 = .ok (.aload_n 0, 1) := by decide +kernel
theorem dX2_kindsTold_12 : decode cX2_kindsTold 12 = .ok (.getfield 27, 3) := by decide +kernel
theorem dX2_kindsTold_15 : decode cX2_kindsTold 15 = .ok (.iload_n 2, 1) := by decide +kernel
theorem dX2_kindsTold_16 : decode cX2_kindsTold 16 = .ok (.aaload, 1) := by decide +kernel
theorem dX2_kindsTold_17 : decode cX2_kindsTold 17 = .ok (.ifnonnull 7, 3) := by decide +kernel
theorem dX2_kindsTold_20 : decode cX2_kindsTold 20 = .ok (.iconst 0, 1) := by decide +kernel
theorem dX2_kindsTold_21 : decode cX2_kindsTold 21 = .ok (.goto 6, 3) := by decide +kernel
theorem dX2_kindsTold_24 : decode cX2_kindsTold 24 = .ok (.iconst 1, 1) := by decide +kernel
theorem dX2_kindsTold_25 : decode cX2_kindsTold 25 = .ok (.iload_n 2, 1) := by decide +kernel
theorem dX2_kindsTold_26 : decode cX2_kindsTold 26 = .ok (.ishl, 1) := by decide +kernel
theorem dX2_kindsTold_27 : decode cX2_kindsTold 27 = .ok (.ior, 1) := by decide +kernel
theorem dX2_kindsTold_28 : decode cX2_kindsTold 28 = .ok (.istore_n 1, 1) := by decide +kernel
theorem dX2_kindsTold_29 : decode cX2_kindsTold 29 = .ok (.iinc 2 1, 3) := by decide +kernel
theorem dX2_kindsTold_32 : decode cX2_kindsTold 32 = .ok (.goto (-28), 3) := by decide +kernel
theorem dX2_kindsTold_35 : decode cX2_kindsTold 35 = .ok (.iload_n 1, 1) := by decide +kernel
theorem dX2_kindsTold_36 : decode cX2_kindsTold 36 = .ok (.ireturn, 1) := by decide +kernel
def f_X2_kindsTold_b27 (rec_4 : TH → Nat → Int32 → Int32 → Option (Int32 × TH)) (σ : TH) (l0 : Nat) (l2 : Int32) (t0 : Int32) (t1 : Int32) : Option (Int32 × TH) :=
  lt_ (t1 ||| t0) fun x5 => lt_ (l2 + 1) fun x6 => rec_4 σ l0 x5 x6
set_option maxHeartbeats 4000000 in
set_option maxRecDepth 100000 in
theorem t_X2_kindsTold_b27 {l : Launch} {D : va_G} {cy : Nat → ClassId} {ka : Nat → Nat} {σ0 z : TH} {r : Int32} {rec_4 : TH → Nat → Int32 → Int32 → Option (Int32 × TH)} (hrec_4 : ∀ (σ : TH) (l0 : Nat) (l1 : Int32) (l2 : Int32), rec_4 σ l0 l1 l2 = some (r, z) → v_ l D cy ka cX2_kindsTold RX2 3 (some FieldType.int) "kindsTold" 0 0 (qf_ D cy σ0 z (some (.int r))) σ0 z σ 4 [(0, va_rf (some l0)), (1, .int l1), (2, .int l2)] []) {σ : TH} {l0 : Nat} {l2 : Int32} {t0 : Int32} {t1 : Int32} (hf : f_X2_kindsTold_b27 rec_4 σ l0 l2 t0 t1 = some (r, z)) : v_ l D cy ka cX2_kindsTold RX2 3 (some FieldType.int) "kindsTold" 0 0 (qf_ D cy σ0 z (some (.int r))) σ0 z σ 27 [(0, va_rf (some l0)), (2, .int l2)] [.int t0, .int t1] := by
  unfold f_X2_kindsTold_b27 at hf
  refine v_ior dX2_kindsTold_27 ?_
  obtain ⟨x5, ex5⟩ : ∃ y : Int32, y = t1 ||| t0 := ⟨_, rfl⟩
  rw [lt_e, ← ex5] at hf
  rw [← ex5]
  refine v_istore_n [(1, .int x5), (0, va_rf (some l0)), (2, .int l2)] dX2_kindsTold_28 rfl (by decide) rfl ?_
  obtain ⟨x6, ex6⟩ : ∃ y : Int32, y = l2 + 1 := ⟨_, rfl⟩
  rw [lt_e, ← ex6] at hf
  refine v_iinc (v := x6) [(2, .int x6), (1, .int x5), (0, va_rf (some l0))] dX2_kindsTold_29 2 rfl (by rw [ex6]; rfl) (by decide) rfl ?_
  refine v_goto (tgt := 4) dX2_kindsTold_32 (by decide) ?_
  refine v_sub [2, 1, 0] (L2 := [(0, va_rf (some l0)), (1, .int x5), (2, .int x6)]) rfl ?_
  exact hrec_4 _ _ _ _ hf
def f_X2_kindsTold_b4 : Nat → TH → Nat → Int32 → Int32 → Option (Int32 × TH)
  | 0, _, _, _, _ => none
  | n + 1, σ, l0, l1, l2 => if (10 : Int32) ≤ l2 then (some (l1, σ)) else (gt_ (kd_ σ l0 = 4) <| lt_ (fr_ σ 309 l0) fun r1 => nn_ r1 fun a2 => gt_ (kd_ σ a2 = 25) <| gt_ (¬ (l2 < 0 ∨ ln_ σ a2 ≤ l2.toNatClampNeg)) <| lt_ (ar_ σ a2 l2.toNatClampNeg) fun r3 => oc_ r3 (f_X2_kindsTold_b27 (f_X2_kindsTold_b4 n) σ l0 l2 (0 : Int32) l1) (fun a4 => f_X2_kindsTold_b27 (f_X2_kindsTold_b4 n) σ l0 l2 ((1 : Int32) <<< (l2 &&& 31)) l1))
set_option maxHeartbeats 4000000 in
set_option maxRecDepth 100000 in
theorem t_X2_kindsTold_b4 {l : Launch} {D : va_G} {cy : Nat → ClassId} {ka : Nat → Nat} {σ0 z : TH} {r : Int32}  : ∀ (n : Nat) (σ : TH) (l0 : Nat) (l1 : Int32) (l2 : Int32), f_X2_kindsTold_b4 n σ l0 l1 l2 = some (r, z) → v_ l D cy ka cX2_kindsTold RX2 3 (some FieldType.int) "kindsTold" 0 0 (qf_ D cy σ0 z (some (.int r))) σ0 z σ 4 [(0, va_rf (some l0)), (1, .int l1), (2, .int l2)] [] := by
  intro n
  induction n with
  | zero => intro σ l0 l1 l2 hf; unfold f_X2_kindsTold_b4 at hf; cases hf
  | succ n ih =>
    intro σ l0 l1 l2 hf
    unfold f_X2_kindsTold_b4 at hf
    have hrec_4 := ih
    refine v_iload_n (x := l2) dX2_kindsTold_4 rfl 2 rfl ?_
    refine v_bipush (v := 10) dX2_kindsTold_5 (by decide) ?_
    refine v_icmp_ge (tgt := 35) hf dX2_kindsTold_7 (by decide) (fun hq hf => ?_) (fun hq hf => ?_)
    · refine v_iload_n (x := l1) dX2_kindsTold_35 rfl 1 rfl ?_
      exact v_iret hf dX2_kindsTold_36
    · refine v_iload_n (x := l1) dX2_kindsTold_10 rfl 1 rfl ?_
      refine v_aload_n (x := (some l0)) dX2_kindsTold_11 rfl 0 rfl ?_
      obtain ⟨hk_l0, hf⟩ := gt_of hf
      refine v_getr cb_3 hk_l0 9 309 rfl (by decide) rfl (lk_n kw_482 rfl) hf dX2_kindsTold_12 (fun r1 hf => ?_)
      refine v_iload_n (x := l2) dX2_kindsTold_15 rfl 2 rfl ?_
      obtain ⟨a2, rfl, hf⟩ := nn_of hf
      obtain ⟨hk_a2, hf⟩ := gt_of hf
      refine v_aald 24 5 RX8 hk_a2 (by decide) rfl hf dX2_kindsTold_16 (fun r3 hf => ?_)
      refine v_ifnonnull2 (tgt := 24) hf dX2_kindsTold_17 (by decide) (fun e9 hf => ?_) (fun a4 e9 hf => ?_)
      · subst e9
        refine v_iconst (v := 0) dX2_kindsTold_20 (by decide) ?_
        refine v_goto (tgt := 27) dX2_kindsTold_21 (by decide) ?_
        refine v_sub [0, 2] (L2 := [(0, va_rf (some l0)), (2, .int l2)]) rfl ?_
        exact t_X2_kindsTold_b27 hrec_4 hf
      · subst e9
        refine v_iconst (v := 1) dX2_kindsTold_24 (by decide) ?_
        refine v_iload_n (x := l2) dX2_kindsTold_25 rfl 2 rfl ?_
        refine v_ishl dX2_kindsTold_26 ?_
        refine v_sub [0, 2] (L2 := [(0, va_rf (some l0)), (2, .int l2)]) rfl ?_
        exact t_X2_kindsTold_b27 hrec_4 hf
/-- LivesAhead$Person.kindsTold()I -/
def f_X2_kindsTold (σ : TH) (p0 : Nat) : Option (Int32 × TH) :=
  f_X2_kindsTold_b4 fu_ σ p0 (0 : Int32) (0 : Int32)
set_option maxHeartbeats 4000000 in
set_option maxRecDepth 100000 in
theorem c_X2_kindsTold {l : Launch} {D : va_G} {cy : Nat → ClassId} {ka : Nat → Nat} {σ z : TH} {p0 : Nat} {r : Int32} (hf : f_X2_kindsTold σ p0 = some (r, z)) : ct_ l D cy ka yX2_kindsTold 0 0 [va_rf (some p0)] σ (some (.int r)) z := by
  unfold f_X2_kindsTold at hf
  refine v_start (cc := cX2_kindsTold) (own := RX2) (maxL := 3) (ret := (some FieldType.int)) (nm := "kindsTold") (by decide +kernel) kw_545 rfl rfl (by simp [lg_sl, va_rf_cat, cat_i, cat_l]) ?_
  refine v_eqL (L2 := [(0, va_rf (some p0))]) (by simp [lv_args, va_rf_cat, cat_i, cat_l]) ?_
  refine v_iconst (v := 0) dX2_kindsTold_0 (by decide) ?_
  refine v_istore_n [(1, .int (0 : Int32)), (0, va_rf (some p0))] dX2_kindsTold_1 rfl (by decide) rfl ?_
  refine v_iconst (v := 0) dX2_kindsTold_2 (by decide) ?_
  refine v_istore_n [(2, .int (0 : Int32)), (1, .int (0 : Int32)), (0, va_rf (some p0))] dX2_kindsTold_3 rfl (by decide) rfl ?_
  refine v_sub [2, 1, 0] (L2 := [(0, va_rf (some p0)), (1, .int (0 : Int32)), (2, .int (0 : Int32))]) rfl ?_
  exact t_X2_kindsTold_b4  _ _ _ _ _ hf
theorem dX11_granted_0 : decode cX11_granted 0 = .ok (.aload_n 0, 1) := by decide +kernel
theorem dX11_granted_1 : decode cX11_granted 1 = .ok (.iconst 0, 1) := by decide +kernel
theorem dX11_granted_2 : decode cX11_granted 2 = .ok (.putfield 69, 3) := by decide +kernel
theorem dX11_granted_5 : decode cX11_granted 5 = .ok (.iload_n 1, 1) := by decide +kernel
theorem dX11_granted_6 : decode cX11_granted 6 = .ok (.ireturn, 1) := by decide +kernel
/-- LivesAhead.granted(I)I -/
def f_X11_granted (σ : TH) (p0 : Nat) (p1 : Int32) : Option (Int32 × TH) :=
  gt_ (kd_ σ p0 = 13) <| lt_ (si_ σ 1214 p0 (0 : Int32)) fun s1 => some (p1, s1)
set_option maxHeartbeats 4000000 in
set_option maxRecDepth 100000 in
theorem c_X11_granted {l : Launch} {D : va_G} {cy : Nat → ClassId} {ka : Nat → Nat} {σ z : TH} {p0 : Nat} {p1 : Int32} {r : Int32} (hf : f_X11_granted σ p0 p1 = some (r, z)) : ct_ l D cy ka yX11_granted 0 0 [va_rf (some p0), .int p1] σ (some (.int r)) z := by
  unfold f_X11_granted at hf
  refine v_start (cc := cX11_granted) (own := RX11) (maxL := 2) (ret := (some FieldType.int)) (nm := "granted") (by decide +kernel) kw_398 rfl rfl (by simp [lg_sl, va_rf_cat, cat_i, cat_l]) ?_
  refine v_eqL (L2 := [(0, va_rf (some p0)), (1, .int p1)]) (by simp [lv_args, va_rf_cat, cat_i, cat_l]) ?_
  refine v_aload_n (x := (some p0)) dX11_granted_0 rfl 0 rfl ?_
  refine v_iconst (v := 0) dX11_granted_1 (by decide) ?_
  obtain ⟨hk_p0, hf⟩ := gt_of hf
  refine v_puti2 cb_12 hk_p0 14 1214 rfl (by decide) rfl (lk_n kw_253 rfl) (Or.inl rfl) rfl rfl hf dX11_granted_2 (fun s1 hts1 hf => ?_)
  have hk_p0 := tk_ hts1 hk_p0
  refine v_iload_n (x := p1) dX11_granted_5 rfl 1 rfl ?_
  exact v_iret hf dX11_granted_6
theorem dX11_refused_0 : decode cX11_refused 0 = .ok (.aload_n 0, 1) := by decide +kernel
theorem dX11_refused_1 : decode cX11_refused 1 = .ok (.iload_n 1, 1) := by decide +kernel
theorem dX11_refused_2 : decode cX11_refused 2 = .ok (.putfield 69, 3) := by decide +kernel
theorem dX11_refused_5 : decode cX11_refused 5 = .ok (.iconst (-1), 1) := by decide +kernel
theorem dX11_refused_6 : decode cX11_refused 6 = .ok (.ireturn, 1) := by decide +kernel
/-- LivesAhead.refused(I)I -/
def f_X11_refused (σ : TH) (p0 : Nat) (p1 : Int32) : Option (Int32 × TH) :=
  gt_ (kd_ σ p0 = 13) <| lt_ (si_ σ 1214 p0 p1) fun s1 => some ((-1 : Int32), s1)
set_option maxHeartbeats 4000000 in
set_option maxRecDepth 100000 in
theorem c_X11_refused {l : Launch} {D : va_G} {cy : Nat → ClassId} {ka : Nat → Nat} {σ z : TH} {p0 : Nat} {p1 : Int32} {r : Int32} (hf : f_X11_refused σ p0 p1 = some (r, z)) : ct_ l D cy ka yX11_refused 0 0 [va_rf (some p0), .int p1] σ (some (.int r)) z := by
  unfold f_X11_refused at hf
  refine v_start (cc := cX11_refused) (own := RX11) (maxL := 2) (ret := (some FieldType.int)) (nm := "refused") (by decide +kernel) kw_310 rfl rfl (by simp [lg_sl, va_rf_cat, cat_i, cat_l]) ?_
  refine v_eqL (L2 := [(0, va_rf (some p0)), (1, .int p1)]) (by simp [lv_args, va_rf_cat, cat_i, cat_l]) ?_
  refine v_aload_n (x := (some p0)) dX11_refused_0 rfl 0 rfl ?_
  refine v_iload_n (x := p1) dX11_refused_1 rfl 1 rfl ?_
  obtain ⟨hk_p0, hf⟩ := gt_of hf
  refine v_puti2 cb_12 hk_p0 14 1214 rfl (by decide) rfl (lk_n kw_253 rfl) (Or.inl rfl) rfl rfl hf dX11_refused_2 (fun s1 hts1 hf => ?_)
  have hk_p0 := tk_ hts1 hk_p0
  refine v_iconst (v := (-1)) dX11_refused_5 (by decide) ?_
  exact v_iret hf dX11_refused_6
theorem dX5_init_0 : decode cX5_init 0 = .ok (.aload_n 0, 1) := by decide +kernel
theorem dX5_init_1 : decode cX5_init 1 = .ok (.invokespecial 1, 3) := by decide +kernel
theorem dX5_init_4 : decode cX5_init 4 = .ok (.aload_n 0, 1) := by decide +kernel
theorem dX5_init_5 : decode cX5_init 5 = .ok (.iconst 0, 1) := by decide +kernel
theorem dX5_init_6 : decode cX5_init 6 = .ok (.putfield 7, 3) := by decide +kernel
theorem dX5_init_9 : decode cX5_init 9 = .ok (.aload_n 0, 1) := by decide +kernel
theorem dX5_init_10 : decode cX5_init 10 = .ok (.iconst 0, 1) := by decide +kernel
theorem dX5_init_11 : decode cX5_init 11 = .ok (.putfield 13, 3) := by decide +kernel
theorem dX5_init_14 : decode cX5_init 14 = .ok (.aload_n 0, 1) := by decide +kernel
theorem dX5_init_15 : decode cX5_init 15 = .ok (.iload_n 1, 1) := by decide +kernel
theorem dX5_init_16 : decode cX5_init 16 = .ok (.putfield 17, 3) := by decide +kernel
theorem dX5_init_19 : decode cX5_init 19 = .ok (.aload_n 0, 1) := by decide +kernel
theorem dX5_init_20 : decode cX5_init 20 = .ok (.iload_n 2, 1) := by decide +kernel
theorem dX5_init_21 : decode cX5_init 21 = .ok (.putfield 20, 3) := by decide +kernel
theorem dX5_init_24 : decode cX5_init 24 = .ok (.return_, 1) := by decide +kernel
/-- LivesAhead$Quote.<init>(II)V -/
def f_X5_init (σ : TH) (p0 : Nat) (p1 : Int32) (p2 : Int32) : Option (Unit × TH) :=
  gt_ (kd_ σ p0 = 7) <| lt_ (si_ σ 602 p0 (0 : Int32)) fun s1 => lt_ (si_ s1 603 p0 (0 : Int32)) fun s2 => lt_ (si_ s2 600 p0 p1) fun s3 => lt_ (si_ s3 601 p0 p2) fun s4 => some ((), s4)
set_option maxHeartbeats 4000000 in
set_option maxRecDepth 100000 in
theorem c_X5_init {l : Launch} {D : va_G} {cy : Nat → ClassId} {ka : Nat → Nat} {σ z : TH} {p0 : Nat} {p1 : Int32} {p2 : Int32} {r : Unit} (hf : f_X5_init σ p0 p1 p2 = some (r, z)) : ct_ l D cy ka yX5_init 1 20 [va_rf (some p0), .int p1, .int p2] σ none z := by
  unfold f_X5_init at hf
  refine v_start (cc := cX5_init) (own := RX5) (maxL := 3) (ret := none) (nm := "<init>") (by decide +kernel) kw_1141 rfl rfl (by simp [lg_sl, va_rf_cat, cat_i, cat_l]) ?_
  refine v_eqL (L2 := [(0, va_rf (some p0)), (1, .int p1), (2, .int p2)]) (by simp [lv_args, va_rf_cat, cat_i, cat_l]) ?_
  refine v_aload_n (x := (some p0)) dX5_init_0 rfl 0 rfl ?_
  refine v_objInit kw_1142 kw_40 kw_41 (by decide) (by decide) (cat_len (Nat.le_of_ble_eq_true rfl)) dX5_init_1 ?_
  refine v_aload_n (x := (some p0)) dX5_init_4 rfl 0 rfl ?_
  refine v_iconst (v := 0) dX5_init_5 (by decide) ?_
  obtain ⟨hk_p0, hf⟩ := gt_of hf
  refine v_puti2 cb_6 hk_p0 2 602 rfl (by decide) rfl (lk_n kw_1147 rfl) (Or.inl rfl) rfl rfl hf dX5_init_6 (fun s1 hts1 hf => ?_)
  have hk_p0 := tk_ hts1 hk_p0
  refine v_aload_n (x := (some p0)) dX5_init_9 rfl 0 rfl ?_
  refine v_iconst (v := 0) dX5_init_10 (by decide) ?_
  refine v_puti2 cb_6 hk_p0 3 603 rfl (by decide) rfl (lk_n kw_1149 rfl) (Or.inl rfl) rfl rfl hf dX5_init_11 (fun s2 hts2 hf => ?_)
  have hk_p0 := tk_ hts2 hk_p0
  refine v_aload_n (x := (some p0)) dX5_init_14 rfl 0 rfl ?_
  refine v_iload_n (x := p1) dX5_init_15 rfl 1 rfl ?_
  refine v_puti2 cb_6 hk_p0 0 600 rfl (by decide) rfl (lk_n kw_1143 rfl) (Or.inr ⟨rfl, rfl, rfl, rfl, kw_1143⟩) rfl rfl hf dX5_init_16 (fun s3 hts3 hf => ?_)
  have hk_p0 := tk_ hts3 hk_p0
  refine v_aload_n (x := (some p0)) dX5_init_19 rfl 0 rfl ?_
  refine v_iload_n (x := p2) dX5_init_20 rfl 2 rfl ?_
  refine v_puti2 cb_6 hk_p0 1 601 rfl (by decide) rfl (lk_n kw_1145 rfl) (Or.inr ⟨rfl, rfl, rfl, rfl, kw_1145⟩) rfl rfl hf dX5_init_21 (fun s4 hts4 hf => ?_)
  have hk_p0 := tk_ hts4 hk_p0
  exact v_vret hf dX5_init_24
