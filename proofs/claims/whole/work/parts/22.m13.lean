/-! Functions over the typed heap and contracts, by wip/gen/gen.py: X11_init X11_known X11_knownOn X11_fillProofs X11_isProven X11_proofsOf X11_may X6_readSign X6_spells X6_shortWordAt X6_wordAt X6_readWord X6_read -/
theorem dX11_init_0 : decode cX11_init 0 = .ok (.aload_n 0, 1) := by decide +kernel
theorem dX11_init_1 : decode cX11_init 1 = .ok (.invokespecial 1, 3) := by decide +kernel
theorem dX11_init_4 : decode cX11_init 4 = .ok (.aload_n 0, 1) := by decide +kernel
theorem dX11_init_5 : decode cX11_init 5 = .ok (.new 7, 3) := by decide +kernel
theorem dX11_init_8 : decode cX11_init 8 = .ok (.dup, 1) := by decide +kernel
theorem dX11_init_9 : decode cX11_init 9 = .ok (.invokespecial 9, 3) := by decide +kernel
theorem dX11_init_12 : decode cX11_init 12 = .ok (.putfield 10, 3) := by decide +kernel
theorem dX11_init_15 : decode cX11_init 15 = .ok (.aload_n 0, 1) := by decide +kernel
theorem dX11_init_16 : decode cX11_init 16 = .ok (.new 7, 3) := by decide +kernel
theorem dX11_init_19 : decode cX11_init 19 = .ok (.dup, 1) := by decide +kernel
theorem dX11_init_20 : decode cX11_init 20 = .ok (.invokespecial 9, 3) := by decide +kernel
theorem dX11_init_23 : decode cX11_init 23 = .ok (.putfield 16, 3) := by decide +kernel
theorem dX11_init_26 : decode cX11_init 26 = .ok (.aload_n 0, 1) := by decide +kernel
theorem dX11_init_27 : decode cX11_init 27 = .ok (.new 7, 3) := by decide +kernel
theorem dX11_init_30 : decode cX11_init 30 = .ok (.dup, 1) := by decide +kernel
theorem dX11_init_31 : decode cX11_init 31 = .ok (.invokespecial 9, 3) := by decide +kernel
theorem dX11_init_34 : decode cX11_init 34 = .ok (.putfield 19, 3) := by decide +kernel
theorem dX11_init_37 : decode cX11_init 37 = .ok (.aload_n 0, 1) := by decide +kernel
theorem dX11_init_38 : decode cX11_init 38 = .ok (.new 7, 3) := by decide +kernel
theorem dX11_init_41 : decode cX11_init 41 = .ok (.dup, 1) := by decide +kernel
theorem dX11_init_42 : decode cX11_init 42 = .ok (.invokespecial 9, 3) := by decide +kernel
theorem dX11_init_45 : decode cX11_init 45 = .ok (.putfield 22, 3) := by decide +kernel
theorem dX11_init_48 : decode cX11_init 48 = .ok (.aload_n 0, 1) := by decide +kernel
theorem dX11_init_49 : decode cX11_init 49 = .ok (.new 7, 3) := by decide +kernel
theorem dX11_init_52 : decode cX11_init 52 = .ok (.dup, 1) := by decide +kernel
theorem dX11_init_53 : decode cX11_init 53 = .ok (.invokespecial 9, 3) := by decide +kernel
theorem dX11_init_56 : decode cX11_init 56 = .ok (.putfield 25, 3) := by decide +kernel
theorem dX11_init_59 : decode cX11_init 59 = .ok (.aload_n 0, 1) := by decide +kernel
theorem dX11_init_60 : decode cX11_init 60 = .ok (.new 7, 3) := by decide +kernel
theorem dX11_init_63 : decode cX11_init 63 = .ok (.dup, 1) := by decide +kernel
theorem dX11_init_64 : decode cX11_init 64 = .ok (.invokespecial 9, 3) := by decide +kernel
theorem dX11_init_67 : decode cX11_init 67 = .ok (.putfield 28, 3) := by decide +kernel
theorem dX11_init_70 : decode cX11_init 70 = .ok (.aload_n 0, 1) := by decide +kernel
theorem dX11_init_71 : decode cX11_init 71 = .ok (.new 7, 3) := by decide +kernel
theorem dX11_init_74 : decode cX11_init 74 = .ok (.dup, 1) := by decide +kernel
theorem dX11_init_75 : decode cX11_init 75 = .ok (.invokespecial 9, 3) := by decide +kernel
theorem dX11_init_78 : decode cX11_init 78 = .ok (.putfield 31, 3) := by decide +kernel
theorem dX11_init_81 : decode cX11_init 81 = .ok (.aload_n 0, 1) := by decide +kernel
theorem dX11_init_82 : decode cX11_init 82 = .ok (.bipush 10, 2) := by decide +kernel
theorem dX11_init_84 : decode cX11_init 84 = .ok (.newarray .int, 2) := by decide +kernel
theorem dX11_init_86 : decode cX11_init 86 = .ok (.putfield 34, 3) := by decide +kernel
theorem dX11_init_89 : decode cX11_init 89 = .ok (.aload_n 0, 1) := by decide +kernel
theorem dX11_init_90 : decode cX11_init 90 = .ok (.new 38, 3) := by decide +kernel
theorem dX11_init_93 : decode cX11_init 93 = .ok (.dup, 1) := by decide +kernel
theorem dX11_init_94 : decode cX11_init 94 = .ok (.invokespecial 40, 3) := by decide +kernel
theorem dX11_init_97 : decode cX11_init 97 = .ok (.putfield 41, 3) := by decide +kernel
theorem dX11_init_100 : decode cX11_init 100 = .ok (.aload_n 0, 1) := by decide +kernel
theorem dX11_init_101 : decode cX11_init 101 = .ok (.new 45, 3) := by decide +kernel
theorem dX11_init_104 : decode cX11_init 104 = .ok (.dup, 1) := by decide +kernel
theorem dX11_init_105 : decode cX11_init 105 = .ok (.invokespecial 47, 3) := by decide +kernel
theorem dX11_init_108 : decode cX11_init 108 = .ok (.putfield 48, 3) := by decide +kernel
theorem dX11_init_111 : decode cX11_init 111 = .ok (.aload_n 0, 1) := by decide +kernel
theorem dX11_init_112 : decode cX11_init 112 = .ok (.new 52, 3) := by decide +kernel
theorem dX11_init_115 : decode cX11_init 115 = .ok (.dup, 1) := by decide +kernel
theorem dX11_init_116 : decode cX11_init 116 = .ok (.invokespecial 54, 3) := by decide +kernel
theorem dX11_init_119 : decode cX11_init 119 = .ok (.putfield 55, 3) := by decide +kernel
theorem dX11_init_122 : decode cX11_init 122 = .ok (.aload_n 0, 1) := by decide +kernel
theorem dX11_init_123 : decode cX11_init 123 = .ok (.iconst 0, 1) := by decide +kernel
theorem dX11_init_124 : decode cX11_init 124 = .ok (.putfield 59, 3) := by decide +kernel
theorem dX11_init_127 : decode cX11_init 127 = .ok (.aload_n 0, 1) := by decide +kernel
theorem dX11_init_128 : decode cX11_init 128 = .ok (.iconst 0, 1) := by decide +kernel
theorem dX11_init_129 : decode cX11_init 129 = .ok (.putfield 63, 3) := by decide +kernel
theorem dX11_init_132 : decode cX11_init 132 = .ok (.aload_n 0, 1) := by decide +kernel
theorem dX11_init_133 : decode cX11_init 133 = .ok (.iconst 0, 1) := by decide +kernel
theorem dX11_init_134 : decode cX11_init 134 = .ok (.putfield 66, 3) := by decide +kernel
theorem dX11_init_137 : decode cX11_init 137 = .ok (.aload_n 0, 1) := by decide +kernel
theorem dX11_init_138 : decode cX11_init 138 = .ok (.iconst 0, 1) := by decide +kernel
theorem dX11_init_139 : decode cX11_init 139 = .ok (.putfield 69, 3) := by decide +kernel
theorem dX11_init_142 : decode cX11_init 142 = .ok (.aload_n 0, 1) := by decide +kernel
theorem dX11_init_143 : decode cX11_init 143 = .ok (.iconst 0, 1) := by decide +kernel
theorem dX11_init_144 : decode cX11_init 144 = .ok (.putfield 72, 3) := by decide +kernel
theorem dX11_init_147 : decode cX11_init 147 = .ok (.aload_n 0, 1) := by decide +kernel
theorem dX11_init_148 : decode cX11_init 148 = .ok (.iconst (-1), 1) := by decide +kernel
theorem dX11_init_149 : decode cX11_init 149 = .ok (.putfield 75, 3) := by decide +kernel
theorem dX11_init_152 : decode cX11_init 152 = .ok (.aload_n 0, 1) := by decide +kernel
theorem dX11_init_153 : decode cX11_init 153 = .ok (.iconst (-1), 1) := by decide +kernel
theorem dX11_init_154 : decode cX11_init 154 = .ok (.putfield 78, 3) := by decide +kernel
theorem dX11_init_157 : decode cX11_init 157 = .ok (.aload_n 0, 1) := by decide +kernel
theorem dX11_init_158 : decode cX11_init 158 = .ok (.new 7, 3) := by decide +kernel
theorem dX11_init_161 : decode cX11_init 161 = .ok (.dup, 1) := by decide +kernel
theorem dX11_init_162 : decode cX11_init 162 = .ok (.invokespecial 9, 3) := by decide +kernel
theorem dX11_init_165 : decode cX11_init 165 = .ok (.putfield 81, 3) := by decide +kernel
theorem dX11_init_168 : decode cX11_init 168 = .ok (.aload_n 0, 1) := by decide +kernel
theorem dX11_init_169 : decode cX11_init 169 = .ok (.iconst (-1), 1) := by decide +kernel
theorem dX11_init_170 : decode cX11_init 170 = .ok (.putfield 84, 3) := by decide +kernel
theorem dX11_init_173 : decode cX11_init 173 = .ok (.aload_n 0, 1) := by decide +kernel
theorem dX11_init_174 : decode cX11_init 174 = .ok (.getfield 34, 3) := by decide +kernel
theorem dX11_init_177 : decode cX11_init 177 = .ok (.sipush 365, 3) := by decide +kernel
theorem dX11_init_180 : decode cX11_init 180 = .ok (.invokestatic 87, 3) := by decide +kernel
theorem dX11_init_183 : decode cX11_init 183 = .ok (.return_, 1) := by decide +kernel
/-- LivesAhead.<init>()V -/
def f_X11_init (ka : Nat → Nat) (σ : TH) (p0 : Nat) : Option (Unit × TH) :=
  gt_ (kd_ σ (nx_ σ) = 0) <| lt_ (nx_ σ) fun a1 => lt_ (nw_ σ 1 0 3) fun s2 => bd_ (f_Jx4a65c_init_da8c8 ka s2 a1) fun x3 s4 => gt_ (kd_ s4 p0 = 13) <| lt_ (sr_ s4 1200 p0 ((some a1))) fun s5 => gt_ (kd_ s5 (nx_ s5) = 0) <| lt_ (nx_ s5) fun a6 => lt_ (nw_ s5 1 0 3) fun s7 => bd_ (f_Jx4a65c_init_da8c8 ka s7 a6) fun x8 s9 => lt_ (sr_ s9 1201 p0 ((some a6))) fun s10 => gt_ (kd_ s10 (nx_ s10) = 0) <| lt_ (nx_ s10) fun a11 => lt_ (nw_ s10 1 0 3) fun s12 => bd_ (f_Jx4a65c_init_da8c8 ka s12 a11) fun x13 s14 => lt_ (sr_ s14 1202 p0 ((some a11))) fun s15 => gt_ (kd_ s15 (nx_ s15) = 0) <| lt_ (nx_ s15) fun a16 => lt_ (nw_ s15 1 0 3) fun s17 => bd_ (f_Jx4a65c_init_da8c8 ka s17 a16) fun x18 s19 => lt_ (sr_ s19 1203 p0 ((some a16))) fun s20 => gt_ (kd_ s20 (nx_ s20) = 0) <| lt_ (nx_ s20) fun a21 => lt_ (nw_ s20 1 0 3) fun s22 => bd_ (f_Jx4a65c_init_da8c8 ka s22 a21) fun x23 s24 => lt_ (sr_ s24 1204 p0 ((some a21))) fun s25 => gt_ (kd_ s25 (nx_ s25) = 0) <| lt_ (nx_ s25) fun a26 => lt_ (nw_ s25 1 0 3) fun s27 => bd_ (f_Jx4a65c_init_da8c8 ka s27 a26) fun x28 s29 => lt_ (sr_ s29 1205 p0 ((some a26))) fun s30 => gt_ (kd_ s30 (nx_ s30) = 0) <| lt_ (nx_ s30) fun a31 => lt_ (nw_ s30 1 0 3) fun s32 => bd_ (f_Jx4a65c_init_da8c8 ka s32 a31) fun x33 s34 => lt_ (sr_ s34 1206 p0 ((some a31))) fun s35 => gt_ (¬ (10 : Int32) < 0 ∧ (10 : Int32).toNatClampNeg ≤ 100000 ∧ kd_ s35 (nx_ s35) = 0) <| lt_ (nx_ s35) fun a36 => lt_ (nw_ s35 20 ((10 : Int32).toNatClampNeg) ((10 : Int32).toNatClampNeg)) fun s37 => lt_ (sr_ s37 1207 p0 ((some a36))) fun s38 => gt_ (kd_ s38 (nx_ s38) = 0) <| lt_ (nx_ s38) fun a39 => lt_ (nw_ s38 8 0 19) fun s40 => bd_ (f_X6_init s40 a39) fun x41 s42 => lt_ (sr_ s42 1208 p0 ((some a39))) fun s43 => gt_ (kd_ s43 (nx_ s43) = 0) <| lt_ (nx_ s43) fun a44 => lt_ (nw_ s43 6 0 14) fun s45 => bd_ (f_X4_init s45 a44) fun x46 s47 => lt_ (sr_ s47 1209 p0 ((some a44))) fun s48 => gt_ (kd_ s48 (nx_ s48) = 0) <| lt_ (nx_ s48) fun a49 => lt_ (nw_ s48 2 0 11) fun s50 => bd_ (f_X0_init s50 a49) fun x51 s52 => lt_ (sr_ s52 1210 p0 ((some a49))) fun s53 => lt_ (si_ s53 1211 p0 (0 : Int32)) fun s54 => lt_ (si_ s54 1212 p0 (0 : Int32)) fun s55 => lt_ (si_ s55 1213 p0 (0 : Int32)) fun s56 => lt_ (si_ s56 1214 p0 (0 : Int32)) fun s57 => lt_ (si_ s57 1215 p0 (0 : Int32)) fun s58 => lt_ (si_ s58 1216 p0 (-1 : Int32)) fun s59 => lt_ (si_ s59 1217 p0 (-1 : Int32)) fun s60 => gt_ (kd_ s60 (nx_ s60) = 0) <| lt_ (nx_ s60) fun a61 => lt_ (nw_ s60 1 0 3) fun s62 => bd_ (f_Jx4a65c_init_da8c8 ka s62 a61) fun x63 s64 => lt_ (sr_ s64 1218 p0 ((some a61))) fun s65 => lt_ (si_ s65 1219 p0 (-1 : Int32)) fun s66 => lt_ (fr_ s66 1207 p0) fun r67 => bd_ (f_J7_fill_53178 s66 r67 (365 : Int32)) fun x68 s69 => some ((), s69)
set_option maxHeartbeats 4000000 in
set_option maxRecDepth 100000 in
theorem c_X11_init {l : Launch} {D : va_G} {cy : Nat → ClassId} {ka : Nat → Nat} {σ z : TH} {p0 : Nat} {r : Unit} (hf : f_X11_init ka σ p0 = some (r, z)) : ct_ l D cy ka yX11_init 4 80 [va_rf (some p0)] σ none z := by
  unfold f_X11_init at hf
  refine v_start (cc := cX11_init) (own := RX11) (maxL := 1) (ret := none) (nm := "<init>") (by decide +kernel) kw_38 rfl rfl (by simp [lg_sl, va_rf_cat, cat_i, cat_l]) ?_
  refine v_eqL (L2 := [(0, va_rf (some p0))]) (by simp [lv_args, va_rf_cat, cat_i, cat_l]) ?_
  refine v_aload_n (x := (some p0)) dX11_init_0 rfl 0 rfl ?_
  refine v_objInit kw_39 kw_40 kw_41 (by decide) (by decide) (cat_len (Nat.le_of_ble_eq_true rfl)) dX11_init_1 ?_
  refine v_aload_n (x := (some p0)) dX11_init_4 rfl 0 rfl ?_
  refine v_new2 cb_0 df_0 kw_42 kw_43 kw_4 1 rfl hf dX11_init_5 (fun a1 s2 hts2 hk_a1 hf => ?_)
  refine v_dup dX11_init_8 (va_rf_cat _) ?_
  obtain ⟨x3, s4, hcs4, hf⟩ := bd_of hf
  have hts4 := c_Jx4a65c_init_da8c8 (l := l) (D := D) (cy := cy) (ka := ka) hcs4
  refine v_callI (As := []) (rest := [va_rf (some a1), va_rf (some p0)]) hts4 yb_Jx4a65c_init_da8c8 kw_44 kw_45 rfl rfl ⟨Nat.le_of_ble_eq_true rfl, Nat.le_of_ble_eq_true rfl⟩ rfl (cat_len (Nat.le_of_ble_eq_true rfl)) dX11_init_9 ?_
  have hk_a1 := tk_ hts4.1 hk_a1
  show v_ l D cy ka cX11_init RX11 1 none "<init>" 4 80 (qf_ D cy σ z none) σ z _ 12 [(0, va_rf (some p0))] [va_rf (some a1), va_rf (some p0)]
  obtain ⟨hk_p0, hf⟩ := gt_of hf
  refine v_putr2 cb_12 hk_p0 0 1200 rfl (by decide) rfl (lk_n kw_239 rfl) (Or.inr ⟨rfl, rfl, rfl, rfl, kw_239⟩) (nr_ _ (Or.inl ⟨_, rfl⟩)) (fr9_ _ (Or.inl ⟨_, rfl⟩)) hf dX11_init_12 (fun s5 hts5 hf => ?_)
  have hk_p0 := tk_ hts5 hk_p0
  refine v_aload_n (x := (some p0)) dX11_init_15 rfl 0 rfl ?_
  refine v_new2 cb_0 df_0 kw_42 kw_43 kw_4 1 rfl hf dX11_init_16 (fun a6 s7 hts7 hk_a6 hf => ?_)
  have hk_p0 := tk_ hts7 hk_p0
  refine v_dup dX11_init_19 (va_rf_cat _) ?_
  obtain ⟨x8, s9, hcs9, hf⟩ := bd_of hf
  have hts9 := c_Jx4a65c_init_da8c8 (l := l) (D := D) (cy := cy) (ka := ka) hcs9
  refine v_callI (As := []) (rest := [va_rf (some a6), va_rf (some p0)]) hts9 yb_Jx4a65c_init_da8c8 kw_44 kw_45 rfl rfl ⟨Nat.le_of_ble_eq_true rfl, Nat.le_of_ble_eq_true rfl⟩ rfl (cat_len (Nat.le_of_ble_eq_true rfl)) dX11_init_20 ?_
  have hk_p0 := tk_ hts9.1 hk_p0
  have hk_a6 := tk_ hts9.1 hk_a6
  show v_ l D cy ka cX11_init RX11 1 none "<init>" 4 80 (qf_ D cy σ z none) σ z _ 23 [(0, va_rf (some p0))] [va_rf (some a6), va_rf (some p0)]
  refine v_putr2 cb_12 hk_p0 1 1201 rfl (by decide) rfl (lk_n kw_240 rfl) (Or.inr ⟨rfl, rfl, rfl, rfl, kw_240⟩) (nr_ _ (Or.inl ⟨_, rfl⟩)) (fr9_ _ (Or.inl ⟨_, rfl⟩)) hf dX11_init_23 (fun s10 hts10 hf => ?_)
  have hk_p0 := tk_ hts10 hk_p0
  refine v_aload_n (x := (some p0)) dX11_init_26 rfl 0 rfl ?_
  refine v_new2 cb_0 df_0 kw_42 kw_43 kw_4 1 rfl hf dX11_init_27 (fun a11 s12 hts12 hk_a11 hf => ?_)
  have hk_p0 := tk_ hts12 hk_p0
  refine v_dup dX11_init_30 (va_rf_cat _) ?_
  obtain ⟨x13, s14, hcs14, hf⟩ := bd_of hf
  have hts14 := c_Jx4a65c_init_da8c8 (l := l) (D := D) (cy := cy) (ka := ka) hcs14
  refine v_callI (As := []) (rest := [va_rf (some a11), va_rf (some p0)]) hts14 yb_Jx4a65c_init_da8c8 kw_44 kw_45 rfl rfl ⟨Nat.le_of_ble_eq_true rfl, Nat.le_of_ble_eq_true rfl⟩ rfl (cat_len (Nat.le_of_ble_eq_true rfl)) dX11_init_31 ?_
  have hk_p0 := tk_ hts14.1 hk_p0
  have hk_a11 := tk_ hts14.1 hk_a11
  show v_ l D cy ka cX11_init RX11 1 none "<init>" 4 80 (qf_ D cy σ z none) σ z _ 34 [(0, va_rf (some p0))] [va_rf (some a11), va_rf (some p0)]
  refine v_putr2 cb_12 hk_p0 2 1202 rfl (by decide) rfl (lk_n kw_241 rfl) (Or.inr ⟨rfl, rfl, rfl, rfl, kw_241⟩) (nr_ _ (Or.inl ⟨_, rfl⟩)) (fr9_ _ (Or.inl ⟨_, rfl⟩)) hf dX11_init_34 (fun s15 hts15 hf => ?_)
  have hk_p0 := tk_ hts15 hk_p0
  refine v_aload_n (x := (some p0)) dX11_init_37 rfl 0 rfl ?_
  refine v_new2 cb_0 df_0 kw_42 kw_43 kw_4 1 rfl hf dX11_init_38 (fun a16 s17 hts17 hk_a16 hf => ?_)
  have hk_p0 := tk_ hts17 hk_p0
  refine v_dup dX11_init_41 (va_rf_cat _) ?_
  obtain ⟨x18, s19, hcs19, hf⟩ := bd_of hf
  have hts19 := c_Jx4a65c_init_da8c8 (l := l) (D := D) (cy := cy) (ka := ka) hcs19
  refine v_callI (As := []) (rest := [va_rf (some a16), va_rf (some p0)]) hts19 yb_Jx4a65c_init_da8c8 kw_44 kw_45 rfl rfl ⟨Nat.le_of_ble_eq_true rfl, Nat.le_of_ble_eq_true rfl⟩ rfl (cat_len (Nat.le_of_ble_eq_true rfl)) dX11_init_42 ?_
  have hk_p0 := tk_ hts19.1 hk_p0
  have hk_a16 := tk_ hts19.1 hk_a16
  show v_ l D cy ka cX11_init RX11 1 none "<init>" 4 80 (qf_ D cy σ z none) σ z _ 45 [(0, va_rf (some p0))] [va_rf (some a16), va_rf (some p0)]
  refine v_putr2 cb_12 hk_p0 3 1203 rfl (by decide) rfl (lk_n kw_242 rfl) (Or.inr ⟨rfl, rfl, rfl, rfl, kw_242⟩) (nr_ _ (Or.inl ⟨_, rfl⟩)) (fr9_ _ (Or.inl ⟨_, rfl⟩)) hf dX11_init_45 (fun s20 hts20 hf => ?_)
  have hk_p0 := tk_ hts20 hk_p0
  refine v_aload_n (x := (some p0)) dX11_init_48 rfl 0 rfl ?_
  refine v_new2 cb_0 df_0 kw_42 kw_43 kw_4 1 rfl hf dX11_init_49 (fun a21 s22 hts22 hk_a21 hf => ?_)
  have hk_p0 := tk_ hts22 hk_p0
  refine v_dup dX11_init_52 (va_rf_cat _) ?_
  obtain ⟨x23, s24, hcs24, hf⟩ := bd_of hf
  have hts24 := c_Jx4a65c_init_da8c8 (l := l) (D := D) (cy := cy) (ka := ka) hcs24
  refine v_callI (As := []) (rest := [va_rf (some a21), va_rf (some p0)]) hts24 yb_Jx4a65c_init_da8c8 kw_44 kw_45 rfl rfl ⟨Nat.le_of_ble_eq_true rfl, Nat.le_of_ble_eq_true rfl⟩ rfl (cat_len (Nat.le_of_ble_eq_true rfl)) dX11_init_53 ?_
  have hk_p0 := tk_ hts24.1 hk_p0
  have hk_a21 := tk_ hts24.1 hk_a21
  show v_ l D cy ka cX11_init RX11 1 none "<init>" 4 80 (qf_ D cy σ z none) σ z _ 56 [(0, va_rf (some p0))] [va_rf (some a21), va_rf (some p0)]
  refine v_putr2 cb_12 hk_p0 4 1204 rfl (by decide) rfl (lk_n kw_243 rfl) (Or.inr ⟨rfl, rfl, rfl, rfl, kw_243⟩) (nr_ _ (Or.inl ⟨_, rfl⟩)) (fr9_ _ (Or.inl ⟨_, rfl⟩)) hf dX11_init_56 (fun s25 hts25 hf => ?_)
  have hk_p0 := tk_ hts25 hk_p0
  refine v_aload_n (x := (some p0)) dX11_init_59 rfl 0 rfl ?_
  refine v_new2 cb_0 df_0 kw_42 kw_43 kw_4 1 rfl hf dX11_init_60 (fun a26 s27 hts27 hk_a26 hf => ?_)
  have hk_p0 := tk_ hts27 hk_p0
  refine v_dup dX11_init_63 (va_rf_cat _) ?_
  obtain ⟨x28, s29, hcs29, hf⟩ := bd_of hf
  have hts29 := c_Jx4a65c_init_da8c8 (l := l) (D := D) (cy := cy) (ka := ka) hcs29
  refine v_callI (As := []) (rest := [va_rf (some a26), va_rf (some p0)]) hts29 yb_Jx4a65c_init_da8c8 kw_44 kw_45 rfl rfl ⟨Nat.le_of_ble_eq_true rfl, Nat.le_of_ble_eq_true rfl⟩ rfl (cat_len (Nat.le_of_ble_eq_true rfl)) dX11_init_64 ?_
  have hk_p0 := tk_ hts29.1 hk_p0
  have hk_a26 := tk_ hts29.1 hk_a26
  show v_ l D cy ka cX11_init RX11 1 none "<init>" 4 80 (qf_ D cy σ z none) σ z _ 67 [(0, va_rf (some p0))] [va_rf (some a26), va_rf (some p0)]
  refine v_putr2 cb_12 hk_p0 5 1205 rfl (by decide) rfl (lk_n kw_244 rfl) (Or.inr ⟨rfl, rfl, rfl, rfl, kw_244⟩) (nr_ _ (Or.inl ⟨_, rfl⟩)) (fr9_ _ (Or.inl ⟨_, rfl⟩)) hf dX11_init_67 (fun s30 hts30 hf => ?_)
  have hk_p0 := tk_ hts30 hk_p0
  refine v_aload_n (x := (some p0)) dX11_init_70 rfl 0 rfl ?_
  refine v_new2 cb_0 df_0 kw_42 kw_43 kw_4 1 rfl hf dX11_init_71 (fun a31 s32 hts32 hk_a31 hf => ?_)
  have hk_p0 := tk_ hts32 hk_p0
  refine v_dup dX11_init_74 (va_rf_cat _) ?_
  obtain ⟨x33, s34, hcs34, hf⟩ := bd_of hf
  have hts34 := c_Jx4a65c_init_da8c8 (l := l) (D := D) (cy := cy) (ka := ka) hcs34
  refine v_callI (As := []) (rest := [va_rf (some a31), va_rf (some p0)]) hts34 yb_Jx4a65c_init_da8c8 kw_44 kw_45 rfl rfl ⟨Nat.le_of_ble_eq_true rfl, Nat.le_of_ble_eq_true rfl⟩ rfl (cat_len (Nat.le_of_ble_eq_true rfl)) dX11_init_75 ?_
  have hk_p0 := tk_ hts34.1 hk_p0
  have hk_a31 := tk_ hts34.1 hk_a31
  show v_ l D cy ka cX11_init RX11 1 none "<init>" 4 80 (qf_ D cy σ z none) σ z _ 78 [(0, va_rf (some p0))] [va_rf (some a31), va_rf (some p0)]
  refine v_putr2 cb_12 hk_p0 6 1206 rfl (by decide) rfl (lk_n kw_245 rfl) (Or.inr ⟨rfl, rfl, rfl, rfl, kw_245⟩) (nr_ _ (Or.inl ⟨_, rfl⟩)) (fr9_ _ (Or.inl ⟨_, rfl⟩)) hf dX11_init_78 (fun s35 hts35 hf => ?_)
  have hk_p0 := tk_ hts35 hk_p0
  refine v_aload_n (x := (some p0)) dX11_init_81 rfl 0 rfl ?_
  refine v_bipush (v := 10) dX11_init_82 (by decide) ?_
  refine v_newaI2 kw_135 hf dX11_init_84 (fun a36 s37 hts37 hk_a36 hf => ?_)
  have hk_p0 := tk_ hts37 hk_p0
  refine v_putr2 cb_12 hk_p0 7 1207 rfl (by decide) rfl (lk_n kw_246 rfl) (Or.inr ⟨rfl, rfl, rfl, rfl, kw_246⟩) (nr_ _ (Or.inr ⟨_, rfl⟩)) (fr9_ _ (Or.inr ⟨_, rfl⟩)) hf dX11_init_86 (fun s38 hts38 hf => ?_)
  have hk_p0 := tk_ hts38 hk_p0
  refine v_aload_n (x := (some p0)) dX11_init_89 rfl 0 rfl ?_
  refine v_new2 cb_7 df_7 kw_68 kw_69 kw_5 8 rfl hf dX11_init_90 (fun a39 s40 hts40 hk_a39 hf => ?_)
  have hk_p0 := tk_ hts40 hk_p0
  refine v_dup dX11_init_93 (va_rf_cat _) ?_
  obtain ⟨x41, s42, hcs42, hf⟩ := bd_of hf
  have hts42 := c_X6_init (l := l) (D := D) (cy := cy) (ka := ka) hcs42
  refine v_callI (As := []) (rest := [va_rf (some a39), va_rf (some p0)]) hts42 yb_X6_init kw_70 kw_71 rfl rfl ⟨Nat.le_of_ble_eq_true rfl, Nat.le_of_ble_eq_true rfl⟩ rfl (cat_len (Nat.le_of_ble_eq_true rfl)) dX11_init_94 ?_
  have hk_p0 := tk_ hts42.1 hk_p0
  have hk_a39 := tk_ hts42.1 hk_a39
  show v_ l D cy ka cX11_init RX11 1 none "<init>" 4 80 (qf_ D cy σ z none) σ z _ 97 [(0, va_rf (some p0))] [va_rf (some a39), va_rf (some p0)]
  refine v_putr2 cb_12 hk_p0 8 1208 rfl (by decide) rfl (lk_n kw_247 rfl) (Or.inr ⟨rfl, rfl, rfl, rfl, kw_247⟩) (nr_ _ (Or.inl ⟨_, rfl⟩)) (fr9_ _ (Or.inl ⟨_, rfl⟩)) hf dX11_init_97 (fun s43 hts43 hf => ?_)
  have hk_p0 := tk_ hts43 hk_p0
  refine v_aload_n (x := (some p0)) dX11_init_100 rfl 0 rfl ?_
  refine v_new2 cb_5 df_5 kw_137 kw_138 kw_6 6 rfl hf dX11_init_101 (fun a44 s45 hts45 hk_a44 hf => ?_)
  have hk_p0 := tk_ hts45 hk_p0
  refine v_dup dX11_init_104 (va_rf_cat _) ?_
  obtain ⟨x46, s47, hcs47, hf⟩ := bd_of hf
  have hts47 := c_X4_init (l := l) (D := D) (cy := cy) (ka := ka) hcs47
  refine v_callI (As := []) (rest := [va_rf (some a44), va_rf (some p0)]) hts47 yb_X4_init kw_139 kw_140 rfl rfl ⟨Nat.le_of_ble_eq_true rfl, Nat.le_of_ble_eq_true rfl⟩ rfl (cat_len (Nat.le_of_ble_eq_true rfl)) dX11_init_105 ?_
  have hk_p0 := tk_ hts47.1 hk_p0
  have hk_a44 := tk_ hts47.1 hk_a44
  show v_ l D cy ka cX11_init RX11 1 none "<init>" 4 80 (qf_ D cy σ z none) σ z _ 108 [(0, va_rf (some p0))] [va_rf (some a44), va_rf (some p0)]
  refine v_putr2 cb_12 hk_p0 9 1209 rfl (by decide) rfl (lk_n kw_248 rfl) (Or.inr ⟨rfl, rfl, rfl, rfl, kw_248⟩) (nr_ _ (Or.inl ⟨_, rfl⟩)) (fr9_ _ (Or.inl ⟨_, rfl⟩)) hf dX11_init_108 (fun s48 hts48 hf => ?_)
  have hk_p0 := tk_ hts48 hk_p0
  refine v_aload_n (x := (some p0)) dX11_init_111 rfl 0 rfl ?_
  refine v_new2 cb_1 df_1 kw_192 kw_193 kw_7 2 rfl hf dX11_init_112 (fun a49 s50 hts50 hk_a49 hf => ?_)
  have hk_p0 := tk_ hts50 hk_p0
  refine v_dup dX11_init_115 (va_rf_cat _) ?_
  obtain ⟨x51, s52, hcs52, hf⟩ := bd_of hf
  have hts52 := c_X0_init (l := l) (D := D) (cy := cy) (ka := ka) hcs52
  refine v_callI (As := []) (rest := [va_rf (some a49), va_rf (some p0)]) hts52 yb_X0_init kw_194 kw_195 rfl rfl ⟨Nat.le_of_ble_eq_true rfl, Nat.le_of_ble_eq_true rfl⟩ rfl (cat_len (Nat.le_of_ble_eq_true rfl)) dX11_init_116 ?_
  have hk_p0 := tk_ hts52.1 hk_p0
  have hk_a49 := tk_ hts52.1 hk_a49
  show v_ l D cy ka cX11_init RX11 1 none "<init>" 4 80 (qf_ D cy σ z none) σ z _ 119 [(0, va_rf (some p0))] [va_rf (some a49), va_rf (some p0)]
  refine v_putr2 cb_12 hk_p0 10 1210 rfl (by decide) rfl (lk_n kw_249 rfl) (Or.inr ⟨rfl, rfl, rfl, rfl, kw_249⟩) (nr_ _ (Or.inl ⟨_, rfl⟩)) (fr9_ _ (Or.inl ⟨_, rfl⟩)) hf dX11_init_119 (fun s53 hts53 hf => ?_)
  have hk_p0 := tk_ hts53 hk_p0
  refine v_aload_n (x := (some p0)) dX11_init_122 rfl 0 rfl ?_
  refine v_iconst (v := 0) dX11_init_123 (by decide) ?_
  refine v_puti2 cb_12 hk_p0 11 1211 rfl (by decide) rfl (lk_n kw_250 rfl) (Or.inl rfl) rfl rfl hf dX11_init_124 (fun s54 hts54 hf => ?_)
  have hk_p0 := tk_ hts54 hk_p0
  refine v_aload_n (x := (some p0)) dX11_init_127 rfl 0 rfl ?_
  refine v_iconst (v := 0) dX11_init_128 (by decide) ?_
  refine v_puti2 cb_12 hk_p0 12 1212 rfl (by decide) rfl (lk_n kw_251 rfl) (Or.inl rfl) rfl rfl hf dX11_init_129 (fun s55 hts55 hf => ?_)
  have hk_p0 := tk_ hts55 hk_p0
  refine v_aload_n (x := (some p0)) dX11_init_132 rfl 0 rfl ?_
  refine v_iconst (v := 0) dX11_init_133 (by decide) ?_
  refine v_puti2 cb_12 hk_p0 13 1213 rfl (by decide) rfl (lk_n kw_252 rfl) (Or.inl rfl) rfl rfl hf dX11_init_134 (fun s56 hts56 hf => ?_)
  have hk_p0 := tk_ hts56 hk_p0
  refine v_aload_n (x := (some p0)) dX11_init_137 rfl 0 rfl ?_
  refine v_iconst (v := 0) dX11_init_138 (by decide) ?_
  refine v_puti2 cb_12 hk_p0 14 1214 rfl (by decide) rfl (lk_n kw_253 rfl) (Or.inl rfl) rfl rfl hf dX11_init_139 (fun s57 hts57 hf => ?_)
  have hk_p0 := tk_ hts57 hk_p0
  refine v_aload_n (x := (some p0)) dX11_init_142 rfl 0 rfl ?_
  refine v_iconst (v := 0) dX11_init_143 (by decide) ?_
  refine v_puti2 cb_12 hk_p0 15 1215 rfl (by decide) rfl (lk_n kw_254 rfl) (Or.inl rfl) rfl rfl hf dX11_init_144 (fun s58 hts58 hf => ?_)
  have hk_p0 := tk_ hts58 hk_p0
  refine v_aload_n (x := (some p0)) dX11_init_147 rfl 0 rfl ?_
  refine v_iconst (v := (-1)) dX11_init_148 (by decide) ?_
  refine v_puti2 cb_12 hk_p0 16 1216 rfl (by decide) rfl (lk_n kw_255 rfl) (Or.inl rfl) rfl rfl hf dX11_init_149 (fun s59 hts59 hf => ?_)
  have hk_p0 := tk_ hts59 hk_p0
  refine v_aload_n (x := (some p0)) dX11_init_152 rfl 0 rfl ?_
  refine v_iconst (v := (-1)) dX11_init_153 (by decide) ?_
  refine v_puti2 cb_12 hk_p0 17 1217 rfl (by decide) rfl (lk_n kw_256 rfl) (Or.inl rfl) rfl rfl hf dX11_init_154 (fun s60 hts60 hf => ?_)
  have hk_p0 := tk_ hts60 hk_p0
  refine v_aload_n (x := (some p0)) dX11_init_157 rfl 0 rfl ?_
  refine v_new2 cb_0 df_0 kw_42 kw_43 kw_4 1 rfl hf dX11_init_158 (fun a61 s62 hts62 hk_a61 hf => ?_)
  have hk_p0 := tk_ hts62 hk_p0
  refine v_dup dX11_init_161 (va_rf_cat _) ?_
  obtain ⟨x63, s64, hcs64, hf⟩ := bd_of hf
  have hts64 := c_Jx4a65c_init_da8c8 (l := l) (D := D) (cy := cy) (ka := ka) hcs64
  refine v_callI (As := []) (rest := [va_rf (some a61), va_rf (some p0)]) hts64 yb_Jx4a65c_init_da8c8 kw_44 kw_45 rfl rfl ⟨Nat.le_of_ble_eq_true rfl, Nat.le_of_ble_eq_true rfl⟩ rfl (cat_len (Nat.le_of_ble_eq_true rfl)) dX11_init_162 ?_
  have hk_p0 := tk_ hts64.1 hk_p0
  have hk_a61 := tk_ hts64.1 hk_a61
  show v_ l D cy ka cX11_init RX11 1 none "<init>" 4 80 (qf_ D cy σ z none) σ z _ 165 [(0, va_rf (some p0))] [va_rf (some a61), va_rf (some p0)]
  refine v_putr2 cb_12 hk_p0 18 1218 rfl (by decide) rfl (lk_n kw_257 rfl) (Or.inr ⟨rfl, rfl, rfl, rfl, kw_257⟩) (nr_ _ (Or.inl ⟨_, rfl⟩)) (fr9_ _ (Or.inl ⟨_, rfl⟩)) hf dX11_init_165 (fun s65 hts65 hf => ?_)
  have hk_p0 := tk_ hts65 hk_p0
  refine v_aload_n (x := (some p0)) dX11_init_168 rfl 0 rfl ?_
  refine v_iconst (v := (-1)) dX11_init_169 (by decide) ?_
  refine v_puti2 cb_12 hk_p0 19 1219 rfl (by decide) rfl (lk_n kw_258 rfl) (Or.inl rfl) rfl rfl hf dX11_init_170 (fun s66 hts66 hf => ?_)
  have hk_p0 := tk_ hts66 hk_p0
  refine v_aload_n (x := (some p0)) dX11_init_173 rfl 0 rfl ?_
  refine v_getr cb_12 hk_p0 7 1207 rfl (by decide) rfl (lk_n kw_246 rfl) hf dX11_init_174 (fun r67 hf => ?_)
  refine v_sipush (v := 365) dX11_init_177 (by decide) ?_
  obtain ⟨x68, s69, hcs69, hf⟩ := bd_of hf
  have hts69 := c_J7_fill_53178 (l := l) (D := D) (cy := cy) (ka := ka) hcs69
  refine v_callS (As := [va_rf r67, .int (365 : Int32)]) (rest := []) hts69 yb_J7_fill_53178 kw_236 kw_237 rfl ⟨Nat.le_of_ble_eq_true rfl, Nat.le_of_ble_eq_true rfl⟩ rfl (cat_len (Nat.le_of_ble_eq_true rfl)) dX11_init_180 ?_
  have hk_p0 := tk_ hts69.1 hk_p0
  show v_ l D cy ka cX11_init RX11 1 none "<init>" 4 80 (qf_ D cy σ z none) σ z _ 183 [(0, va_rf (some p0))] []
  exact v_vret hf dX11_init_183
theorem dX11_known_0 : decode cX11_known 0 = .ok (.aload_n 0, 1) := by decide +kernel
theorem dX11_known_1 : decode cX11_known 1 = .ok (.iload_n 1, 1) := by decide +kernel
theorem dX11_known_2 : decode cX11_known 2 = .ok (.iload_n 2, 1) := by decide +kernel
theorem dX11_known_3 : decode cX11_known 3 = .ok (.invokevirtual 216, 3) := by decide +kernel
theorem dX11_known_6 : decode cX11_known 6 = .ok (.astore 4, 2) := by decide +kernel
theorem dX11_known_8 : decode cX11_known 8 = .ok (.aload 4, 2) := by decide +kernel
theorem dX11_known_10 : decode cX11_known 10 = .ok (.ifnonnull 6, 3) := by decide +kernel
theorem dX11_known_13 : decode cX11_known 13 = .ok (.ldc 220, 2) := by decide +kernel
theorem dX11_known_15 : decode cX11_known 15 = .ok (.ireturn, 1) := by decide +kernel
theorem dX11_known_16 : decode cX11_known 16 = .ok (.iload_n 3, 1) := by decide +kernel
theorem dX11_known_17 : decode cX11_known 17 = .ok (.tableswitch 87 0 5 #[39, 45, 54, 60, 66, 81], 39) := by decide +kernel
theorem dX11_known_56 : decode cX11_known 56 = .ok (.aload 4, 2) := by decide +kernel
theorem dX11_known_58 : decode cX11_known 58 = .ok (.getfield 221, 3) := by decide +kernel
theorem dX11_known_61 : decode cX11_known 61 = .ok (.ireturn, 1) := by decide +kernel
theorem dX11_known_62 : decode cX11_known 62 = .ok (.aload 4, 2) := by decide +kernel
theorem dX11_known_64 : decode cX11_known 64 = .ok (.getfield 224, 3) := by decide +kernel
theorem dX11_known_67 : decode cX11_known 67 = .ok (.invokestatic 169, 3) := by decide +kernel
theorem dX11_known_70 : decode cX11_known 70 = .ok (.ireturn, 1) := by decide +kernel
theorem dX11_known_71 : decode cX11_known 71 = .ok (.aload 4, 2) := by decide +kernel
theorem dX11_known_73 : decode cX11_known 73 = .ok (.getfield 227, 3) := by decide +kernel
theorem dX11_known_76 : decode cX11_known 76 = .ok (.ireturn, 1) := by decide +kernel
theorem dX11_known_77 : decode cX11_known 77 = .ok (.aload 4, 2) := by decide +kernel
theorem dX11_known_79 : decode cX11_known 79 = .ok (.getfield 213, 3) := by decide +kernel
theorem dX11_known_82 : decode cX11_known 82 = .ok (.ireturn, 1) := by decide +kernel
theorem dX11_known_83 : decode cX11_known 83 = .ok (.aload_n 0, 1) := by decide +kernel
theorem dX11_known_84 : decode cX11_known 84 = .ok (.aload 4, 2) := by decide +kernel
theorem dX11_known_86 : decode cX11_known 86 = .ok (.iload_n 2, 1) := by decide +kernel
theorem dX11_known_87 : decode cX11_known 87 = .ok (.aload_n 0, 1) := by decide +kernel
theorem dX11_known_88 : decode cX11_known 88 = .ok (.invokevirtual 188, 3) := by decide +kernel
theorem dX11_known_91 : decode cX11_known 91 = .ok (.invokevirtual 230, 3) := by decide +kernel
theorem dX11_known_94 : decode cX11_known 94 = .ok (.invokestatic 169, 3) := by decide +kernel
theorem dX11_known_97 : decode cX11_known 97 = .ok (.ireturn, 1) := by decide +kernel
theorem dX11_known_98 : decode cX11_known 98 = .ok (.aload 4, 2) := by decide +kernel
theorem dX11_known_100 : decode cX11_known 100 = .ok (.getfield 210, 3) := by decide +kernel
theorem dX11_known_103 : decode cX11_known 103 = .ok (.ireturn, 1) := by decide +kernel
theorem dX11_known_104 : decode cX11_known 104 = .ok (.iconst (-1), 1) := by decide +kernel
theorem dX11_known_105 : decode cX11_known 105 = .ok (.ireturn, 1) := by decide +kernel
/-- LivesAhead.known(III)I -/
def f_X11_known (σ : TH) (p0 : Nat) (p1 : Int32) (p2 : Int32) (p3 : Int32) : Option (Int32 × TH) :=
  gt_ (kd_ σ p0 = 13) <| bd_ (f_X11_latestTelling σ p0 p1 p2) fun r1 s2 => oc_ r1 (some (((-2147483648) : Int32), s2)) (fun a3 => if p3 = 0 then (gt_ (kd_ s2 a3 = 10) <| lt_ (fi_ s2 900 a3) fun x4 => some (x4, s2)) else if p3 = 1 then (gt_ (kd_ s2 a3 = 10) <| lt_ (fi_ s2 901 a3) fun x5 => bd_ (f_X11_asNumber s2 x5) fun x6 s7 => some (x6, s7)) else if p3 = 2 then (gt_ (kd_ s2 a3 = 10) <| lt_ (fi_ s2 902 a3) fun x8 => some (x8, s2)) else if p3 = 3 then (gt_ (kd_ s2 a3 = 10) <| lt_ (fi_ s2 905 a3) fun x9 => some (x9, s2)) else if p3 = 4 then (bd_ (f_X11_today s2 p0) fun x10 s11 => bd_ (f_X11_isStale s11 p0 (some a3) p2 x10) fun x12 s13 => bd_ (f_X11_asNumber s13 x12) fun x14 s15 => some (x14, s15)) else if p3 = 5 then (gt_ (kd_ s2 a3 = 10) <| lt_ (fi_ s2 903 a3) fun x16 => some (x16, s2)) else (some ((-1 : Int32), s2)))
set_option maxHeartbeats 4000000 in
set_option maxRecDepth 100000 in
theorem c_X11_known {l : Launch} {D : va_G} {cy : Nat → ClassId} {ka : Nat → Nat} {σ z : TH} {p0 : Nat} {p1 : Int32} {p2 : Int32} {p3 : Int32} {r : Int32} (hf : f_X11_known σ p0 p1 p2 p3 = some (r, z)) : ct_ l D cy ka yX11_known 5 108 [va_rf (some p0), .int p1, .int p2, .int p3] σ (some (.int r)) z := by
  unfold f_X11_known at hf
  refine v_start (cc := cX11_known) (own := RX11) (maxL := 5) (ret := (some FieldType.int)) (nm := "known") (by decide +kernel) kw_617 rfl rfl (by simp [lg_sl, va_rf_cat, cat_i, cat_l]) ?_
  refine v_eqL (L2 := [(0, va_rf (some p0)), (1, .int p1), (2, .int p2), (3, .int p3)]) (by simp [lv_args, va_rf_cat, cat_i, cat_l]) ?_
  refine v_aload_n (x := (some p0)) dX11_known_0 rfl 0 rfl ?_
  refine v_iload_n (x := p1) dX11_known_1 rfl 1 rfl ?_
  refine v_iload_n (x := p2) dX11_known_2 rfl 2 rfl ?_
  obtain ⟨hk_p0, hf⟩ := gt_of hf
  obtain ⟨r1, s2, hcs2, hf⟩ := bd_of hf
  have hts2 := c_X11_latestTelling (l := l) (D := D) (cy := cy) (ka := ka) hcs2
  refine v_callV cb_12 hk_p0 (As := [.int p1, .int p2]) (rest := []) hts2 yb_X11_latestTelling kw_618 kw_620 kp_16 rfl ⟨Nat.le_of_ble_eq_true rfl, Nat.le_of_ble_eq_true rfl⟩ rfl (cat_len (Nat.le_of_ble_eq_true rfl)) dX11_known_3 ?_
  have hk_p0 := tk_ hts2.1 hk_p0
  show v_ l D cy ka cX11_known RX11 5 (some FieldType.int) "known" 5 108 (qf_ D cy σ z (some (.int r))) σ z _ 6 [(0, va_rf (some p0)), (1, .int p1), (2, .int p2), (3, .int p3)] [va_rf r1]
  refine v_astore [(4, va_rf r1), (0, va_rf (some p0)), (1, .int p1), (2, .int p2), (3, .int p3)] dX11_known_6 (by decide) rfl ?_
  refine v_aload (x := r1) dX11_known_8 0 rfl ?_
  refine v_ifnonnull2 (tgt := 16) hf dX11_known_10 (by decide) (fun e9 hf9 => ?_) (fun a3 e9 hf9 => ?_)
  · subst e9
    replace hf := hf9
    clear hf9
    refine v_ldc (v := (-2147483648)) kw_622 dX11_known_13 ?_
    exact v_iret hf dX11_known_15
  · subst e9
    replace hf := hf9
    clear hf9
    refine v_iload_n (x := p3) dX11_known_16 rfl 4 rfl ?_
    try dsimp only [oc_] at hf
    by_cases hq0 : p3 = 0
    · rw [if_pos hq0] at hf
      refine v_tswIn (tgt := 56) (c9 := 0) hq0 dX11_known_17 (by decide) (by decide) rfl (by decide) ?_
      refine v_aload (x := (some a3)) dX11_known_56 0 rfl ?_
      obtain ⟨hk_a3, hf⟩ := gt_of hf
      refine v_geti cb_9 hk_a3 0 900 rfl (by decide) rfl (lk_n kw_586 rfl) hf dX11_known_58 (fun x4 hf => ?_)
      exact v_iret hf dX11_known_61
    rw [if_neg hq0] at hf
    by_cases hq1 : p3 = 1
    · rw [if_pos hq1] at hf
      refine v_tswIn (tgt := 62) (c9 := 1) hq1 dX11_known_17 (by decide) (by decide) rfl (by decide) ?_
      refine v_aload (x := (some a3)) dX11_known_62 0 rfl ?_
      obtain ⟨hk_a3, hf⟩ := gt_of hf
      refine v_geti cb_9 hk_a3 1 901 rfl (by decide) rfl (lk_n kw_588 rfl) hf dX11_known_64 (fun x5 hf => ?_)
      obtain ⟨x6, s7, hcs7, hf⟩ := bd_of hf
      have hts7 := c_X11_asNumber (l := l) (D := D) (cy := cy) (ka := ka) hcs7
      refine v_callS (As := [.int x5]) (rest := []) hts7 yb_X11_asNumber kw_442 kw_443 rfl ⟨Nat.le_of_ble_eq_true rfl, Nat.le_of_ble_eq_true rfl⟩ rfl (cat_len (Nat.le_of_ble_eq_true rfl)) dX11_known_67 ?_
      have hk_p0 := tk_ hts7.1 hk_p0
      have hk_a3 := tk_ hts7.1 hk_a3
      show v_ l D cy ka cX11_known RX11 5 (some FieldType.int) "known" 5 108 (qf_ D cy σ z (some (.int r))) σ z _ 70 [(4, va_rf (some a3)), (0, va_rf (some p0)), (1, .int p1), (2, .int p2), (3, .int p3)] [.int x6]
      exact v_iret hf dX11_known_70
    rw [if_neg hq1] at hf
    by_cases hq2 : p3 = 2
    · rw [if_pos hq2] at hf
      refine v_tswIn (tgt := 71) (c9 := 2) hq2 dX11_known_17 (by decide) (by decide) rfl (by decide) ?_
      refine v_aload (x := (some a3)) dX11_known_71 0 rfl ?_
      obtain ⟨hk_a3, hf⟩ := gt_of hf
      refine v_geti cb_9 hk_a3 2 902 rfl (by decide) rfl (lk_n kw_590 rfl) hf dX11_known_73 (fun x8 hf => ?_)
      exact v_iret hf dX11_known_76
    rw [if_neg hq2] at hf
    by_cases hq3 : p3 = 3
    · rw [if_pos hq3] at hf
      refine v_tswIn (tgt := 77) (c9 := 3) hq3 dX11_known_17 (by decide) (by decide) rfl (by decide) ?_
      refine v_aload (x := (some a3)) dX11_known_77 0 rfl ?_
      obtain ⟨hk_a3, hf⟩ := gt_of hf
      refine v_geti cb_9 hk_a3 5 905 rfl (by decide) rfl (lk_n kw_596 rfl) hf dX11_known_79 (fun x9 hf => ?_)
      exact v_iret hf dX11_known_82
    rw [if_neg hq3] at hf
    by_cases hq4 : p3 = 4
    · rw [if_pos hq4] at hf
      refine v_tswIn (tgt := 83) (c9 := 4) hq4 dX11_known_17 (by decide) (by decide) rfl (by decide) ?_
      refine v_aload_n (x := (some p0)) dX11_known_83 rfl 1 rfl ?_
      refine v_aload (x := (some a3)) dX11_known_84 0 rfl ?_
      refine v_iload_n (x := p2) dX11_known_86 rfl 3 rfl ?_
      refine v_aload_n (x := (some p0)) dX11_known_87 rfl 1 rfl ?_
      obtain ⟨x10, s11, hcs11, hf⟩ := bd_of hf
      have hts11 := c_X11_today (l := l) (D := D) (cy := cy) (ka := ka) hcs11
      refine v_callV cb_12 hk_p0 (As := []) (rest := [.int p2, va_rf (some a3), va_rf (some p0)]) hts11 yb_X11_today kw_538 kw_540 kp_13 rfl ⟨Nat.le_of_ble_eq_true rfl, Nat.le_of_ble_eq_true rfl⟩ rfl (cat_len (Nat.le_of_ble_eq_true rfl)) dX11_known_88 ?_
      have hk_p0 := tk_ hts11.1 hk_p0
      show v_ l D cy ka cX11_known RX11 5 (some FieldType.int) "known" 5 108 (qf_ D cy σ z (some (.int r))) σ z _ 91 [(4, va_rf (some a3)), (0, va_rf (some p0)), (1, .int p1), (2, .int p2), (3, .int p3)] [.int x10, .int p2, va_rf (some a3), va_rf (some p0)]
      obtain ⟨x12, s13, hcs13, hf⟩ := bd_of hf
      have hts13 := c_X11_isStale (l := l) (D := D) (cy := cy) (ka := ka) hcs13
      refine v_callV cb_12 hk_p0 (As := [va_rf (some a3), .int p2, .int x10]) (rest := []) hts13 yb_X11_isStale kw_556 kw_558 kp_15 rfl ⟨Nat.le_of_ble_eq_true rfl, Nat.le_of_ble_eq_true rfl⟩ rfl (cat_len (Nat.le_of_ble_eq_true rfl)) dX11_known_91 ?_
      have hk_p0 := tk_ hts13.1 hk_p0
      show v_ l D cy ka cX11_known RX11 5 (some FieldType.int) "known" 5 108 (qf_ D cy σ z (some (.int r))) σ z _ 94 [(4, va_rf (some a3)), (0, va_rf (some p0)), (1, .int p1), (2, .int p2), (3, .int p3)] [.int x12]
      obtain ⟨x14, s15, hcs15, hf⟩ := bd_of hf
      have hts15 := c_X11_asNumber (l := l) (D := D) (cy := cy) (ka := ka) hcs15
      refine v_callS (As := [.int x12]) (rest := []) hts15 yb_X11_asNumber kw_442 kw_443 rfl ⟨Nat.le_of_ble_eq_true rfl, Nat.le_of_ble_eq_true rfl⟩ rfl (cat_len (Nat.le_of_ble_eq_true rfl)) dX11_known_94 ?_
      have hk_p0 := tk_ hts15.1 hk_p0
      show v_ l D cy ka cX11_known RX11 5 (some FieldType.int) "known" 5 108 (qf_ D cy σ z (some (.int r))) σ z _ 97 [(4, va_rf (some a3)), (0, va_rf (some p0)), (1, .int p1), (2, .int p2), (3, .int p3)] [.int x14]
      exact v_iret hf dX11_known_97
    rw [if_neg hq4] at hf
    by_cases hq5 : p3 = 5
    · rw [if_pos hq5] at hf
      refine v_tswIn (tgt := 98) (c9 := 5) hq5 dX11_known_17 (by decide) (by decide) rfl (by decide) ?_
      refine v_aload (x := (some a3)) dX11_known_98 0 rfl ?_
      obtain ⟨hk_a3, hf⟩ := gt_of hf
      refine v_geti cb_9 hk_a3 3 903 rfl (by decide) rfl (lk_n kw_592 rfl) hf dX11_known_100 (fun x16 hf => ?_)
      exact v_iret hf dX11_known_103
    rw [if_neg hq5] at hf
    refine v_tswOut (tgt := 104) 6 0 (by decide) (by decide) (fun j hj => ?_) (by decide) (by decide) dX11_known_17 (by decide) ?_
    · match j, hj with
      | 0, _ => exact hq0
      | 1, _ => exact hq1
      | 2, _ => exact hq2
      | 3, _ => exact hq3
      | 4, _ => exact hq4
      | 5, _ => exact hq5
      | j + 6, hj => exact absurd hj (by omega)
    · refine v_iconst (v := (-1)) dX11_known_104 (by decide) ?_
      exact v_iret hf dX11_known_105
theorem dX11_knownOn_0 : decode cX11_knownOn 0 = .ok (.iload_n 3, 1) := by decide +kernel
theorem dX11_knownOn_1 : decode cX11_knownOn 1 = .ok (.iconst 0, 1) := by decide +kernel
theorem dX11_knownOn_2 : decode cX11_knownOn 2 = .ok (.sipush 3650, 3) := by decide +kernel
theorem dX11_knownOn_5 : decode cX11_knownOn 5 = .ok (.invokestatic 93, 3) := by decide +kernel
theorem dX11_knownOn_8 : decode cX11_knownOn 8 = .ok (.ifCond .ne 6, 3) := by decide +kernel
theorem dX11_knownOn_11 : decode cX11_knownOn 11 = .ok (.ldc 220, 2) := by decide +kernel
theorem dX11_knownOn_13 : decode cX11_knownOn 13 = .ok (.ireturn, 1) := by decide +kernel
theorem dX11_knownOn_14 : decode cX11_knownOn 14 = .ok (.aload_n 0, 1) := by decide +kernel
theorem dX11_knownOn_15 : decode cX11_knownOn 15 = .ok (.iload_n 1, 1) := by decide +kernel
theorem dX11_knownOn_16 : decode cX11_knownOn 16 = .ok (.iload_n 2, 1) := by decide +kernel
theorem dX11_knownOn_17 : decode cX11_knownOn 17 = .ok (.invokevirtual 216, 3) := by decide +kernel
theorem dX11_knownOn_20 : decode cX11_knownOn 20 = .ok (.astore 4, 2) := by decide +kernel
theorem dX11_knownOn_22 : decode cX11_knownOn 22 = .ok (.aload 4, 2) := by decide +kernel
theorem dX11_knownOn_24 : decode cX11_knownOn 24 = .ok (.ifnull 28, 3) := by decide +kernel
theorem dX11_knownOn_27 : decode cX11_knownOn 27 = .ok (.aload 4, 2) := by decide +kernel
theorem dX11_knownOn_29 : decode cX11_knownOn 29 = .ok (.getfield 227, 3) := by decide +kernel
theorem dX11_knownOn_32 : decode cX11_knownOn 32 = .ok (.iload_n 3, 1) := by decide +kernel
theorem dX11_knownOn_33 : decode cX11_knownOn 33 = .ok (.if_icmp .gt 9, 3) := by decide +kernel
theorem dX11_knownOn_36 : decode cX11_knownOn 36 = .ok (.aload 4, 2) := by decide +kernel
theorem dX11_knownOn_38 : decode cX11_knownOn 38 = .ok (.getfield 221, 3) := by decide +kernel
theorem dX11_knownOn_41 : decode cX11_knownOn 41 = .ok (.ireturn, 1) := by decide +kernel
theorem dX11_knownOn_42 : decode cX11_knownOn 42 = .ok (.aload 4, 2) := by decide +kernel
theorem dX11_knownOn_44 : decode cX11_knownOn 44 = .ok (.getfield 234, 3) := by decide +kernel
theorem dX11_knownOn_47 : decode cX11_knownOn 47 = .ok (.astore 4, 2) := by decide +kernel
theorem dX11_knownOn_49 : decode cX11_knownOn 49 = .ok (.goto (-27), 3) := by decide +kernel
theorem dX11_knownOn_52 : decode cX11_knownOn 52 = .ok (.ldc 220, 2) := by decide +kernel
theorem dX11_knownOn_54 : decode cX11_knownOn 54 = .ok (.ireturn, 1) := by decide +kernel
def f_X11_knownOn_b22 : Nat → TH → Int32 → Option Nat → Option (Int32 × TH)
  | 0, _, _, _ => none
  | n + 1, σ, l3, l4 => oc_ l4 (some (((-2147483648) : Int32), σ)) (fun a5 => gt_ (kd_ σ a5 = 10) <| lt_ (fi_ σ 902 a5) fun x6 => if l3 < x6 then (lt_ (fr_ σ 904 a5) fun r7 => (f_X11_knownOn_b22 n) σ l3 r7) else (lt_ (fi_ σ 900 a5) fun x8 => some (x8, σ)))
set_option maxHeartbeats 4000000 in
set_option maxRecDepth 100000 in
theorem t_X11_knownOn_b22 {l : Launch} {D : va_G} {cy : Nat → ClassId} {ka : Nat → Nat} {σ0 z : TH} {r : Int32}  : ∀ (n : Nat) (σ : TH) (l3 : Int32) (l4 : Option Nat), f_X11_knownOn_b22 n σ l3 l4 = some (r, z) → v_ l D cy ka cX11_knownOn RX11 5 (some FieldType.int) "knownOn" 5 108 (qf_ D cy σ0 z (some (.int r))) σ0 z σ 22 [(3, .int l3), (4, va_rf l4)] [] := by
  intro n
  induction n with
  | zero => intro σ l3 l4 hf; unfold f_X11_knownOn_b22 at hf; cases hf
  | succ n ih =>
    intro σ l3 l4 hf
    unfold f_X11_knownOn_b22 at hf
    have hrec_22 := ih
    refine v_aload (x := l4) dX11_knownOn_22 1 rfl ?_
    refine v_ifnull2 (tgt := 52) hf dX11_knownOn_24 (by decide) (fun e9 hf9 => ?_) (fun a5 e9 hf9 => ?_)
    · subst e9
      replace hf := hf9
      clear hf9
      refine v_ldc (v := (-2147483648)) kw_622 dX11_knownOn_52 ?_
      exact v_iret hf dX11_knownOn_54
    · subst e9
      replace hf := hf9
      clear hf9
      refine v_aload (x := (some a5)) dX11_knownOn_27 1 rfl ?_
      obtain ⟨hk_a5, hf⟩ := gt_of hf
      refine v_geti cb_9 hk_a5 2 902 rfl (by decide) rfl (lk_n kw_590 rfl) hf dX11_knownOn_29 (fun x6 hf => ?_)
      refine v_iload_n (x := l3) dX11_knownOn_32 rfl 0 rfl ?_
      refine v_icmp_gt (tgt := 42) hf dX11_knownOn_33 (by decide) (fun hq hf => ?_) (fun hq hf => ?_)
      · refine v_aload (x := (some a5)) dX11_knownOn_42 1 rfl ?_
        refine v_getr cb_9 hk_a5 4 904 rfl (by decide) rfl (lk_n kw_594 rfl) hf dX11_knownOn_44 (fun r7 hf => ?_)
        refine v_astore [(4, va_rf r7), (3, .int l3)] dX11_knownOn_47 (by decide) rfl ?_
        refine v_goto (tgt := 22) dX11_knownOn_49 (by decide) ?_
        refine v_sub [1, 0] (L2 := [(3, .int l3), (4, va_rf r7)]) rfl ?_
        exact hrec_22 _ _ _ hf
      · refine v_aload (x := (some a5)) dX11_knownOn_36 1 rfl ?_
        refine v_geti cb_9 hk_a5 0 900 rfl (by decide) rfl (lk_n kw_586 rfl) hf dX11_knownOn_38 (fun x8 hf => ?_)
        exact v_iret hf dX11_knownOn_41
/-- LivesAhead.knownOn(III)I -/
def f_X11_knownOn (σ : TH) (p0 : Nat) (p1 : Int32) (p2 : Int32) (p3 : Int32) : Option (Int32 × TH) :=
  bd_ (f_X11_within σ p3 (0 : Int32) (3650 : Int32)) fun x1 s2 => if x1 = 0 then (some (((-2147483648) : Int32), s2)) else (gt_ (kd_ s2 p0 = 13) <| bd_ (f_X11_latestTelling s2 p0 p1 p2) fun r3 s4 => f_X11_knownOn_b22 fu_ s4 p3 r3)
set_option maxHeartbeats 4000000 in
set_option maxRecDepth 100000 in
theorem c_X11_knownOn {l : Launch} {D : va_G} {cy : Nat → ClassId} {ka : Nat → Nat} {σ z : TH} {p0 : Nat} {p1 : Int32} {p2 : Int32} {p3 : Int32} {r : Int32} (hf : f_X11_knownOn σ p0 p1 p2 p3 = some (r, z)) : ct_ l D cy ka yX11_knownOn 5 108 [va_rf (some p0), .int p1, .int p2, .int p3] σ (some (.int r)) z := by
  unfold f_X11_knownOn at hf
  refine v_start (cc := cX11_knownOn) (own := RX11) (maxL := 5) (ret := (some FieldType.int)) (nm := "knownOn") (by decide +kernel) kw_626 rfl rfl (by simp [lg_sl, va_rf_cat, cat_i, cat_l]) ?_
  refine v_eqL (L2 := [(0, va_rf (some p0)), (1, .int p1), (2, .int p2), (3, .int p3)]) (by simp [lv_args, va_rf_cat, cat_i, cat_l]) ?_
  refine v_iload_n (x := p3) dX11_knownOn_0 rfl 3 rfl ?_
  refine v_iconst (v := 0) dX11_knownOn_1 (by decide) ?_
  refine v_sipush (v := 3650) dX11_knownOn_2 (by decide) ?_
  obtain ⟨x1, s2, hcs2, hf⟩ := bd_of hf
  have hts2 := c_X11_within (l := l) (D := D) (cy := cy) (ka := ka) hcs2
  refine v_callS (As := [.int p3, .int (0 : Int32), .int (3650 : Int32)]) (rest := []) hts2 yb_X11_within kw_304 kw_305 rfl ⟨Nat.le_of_ble_eq_true rfl, Nat.le_of_ble_eq_true rfl⟩ rfl (cat_len (Nat.le_of_ble_eq_true rfl)) dX11_knownOn_5 ?_
  show v_ l D cy ka cX11_knownOn RX11 5 (some FieldType.int) "knownOn" 5 108 (qf_ D cy σ z (some (.int r))) σ z _ 8 [(0, va_rf (some p0)), (1, .int p1), (2, .int p2), (3, .int p3)] [.int x1]
  refine v_if_ne (tgt := 14) hf dX11_knownOn_8 (by decide) (fun hq hf => ?_) (fun hq hf => ?_)
  · refine v_ldc (v := (-2147483648)) kw_622 dX11_knownOn_11 ?_
    exact v_iret hf dX11_knownOn_13
  · refine v_aload_n (x := (some p0)) dX11_knownOn_14 rfl 0 rfl ?_
    refine v_iload_n (x := p1) dX11_knownOn_15 rfl 1 rfl ?_
    refine v_iload_n (x := p2) dX11_knownOn_16 rfl 2 rfl ?_
    obtain ⟨hk_p0, hf⟩ := gt_of hf
    obtain ⟨r3, s4, hcs4, hf⟩ := bd_of hf
    have hts4 := c_X11_latestTelling (l := l) (D := D) (cy := cy) (ka := ka) hcs4
    refine v_callV cb_12 hk_p0 (As := [.int p1, .int p2]) (rest := []) hts4 yb_X11_latestTelling kw_618 kw_620 kp_16 rfl ⟨Nat.le_of_ble_eq_true rfl, Nat.le_of_ble_eq_true rfl⟩ rfl (cat_len (Nat.le_of_ble_eq_true rfl)) dX11_knownOn_17 ?_
    have hk_p0 := tk_ hts4.1 hk_p0
    show v_ l D cy ka cX11_knownOn RX11 5 (some FieldType.int) "knownOn" 5 108 (qf_ D cy σ z (some (.int r))) σ z _ 20 [(0, va_rf (some p0)), (1, .int p1), (2, .int p2), (3, .int p3)] [va_rf r3]
    refine v_astore [(4, va_rf r3), (0, va_rf (some p0)), (1, .int p1), (2, .int p2), (3, .int p3)] dX11_knownOn_20 (by decide) rfl ?_
    refine v_sub [4, 0] (L2 := [(3, .int p3), (4, va_rf r3)]) rfl ?_
    exact t_X11_knownOn_b22  _ _ _ _ hf
theorem dX11_fillProofs_0 : decode cX11_fillProofs 0 = .ok (.aload_n 0, 1) := by decide +kernel
theorem dX11_fillProofs_1 : decode cX11_fillProofs 1 = .ok (.getfield 48, 3) := by decide +kernel
theorem dX11_fillProofs_4 : decode cX11_fillProofs 4 = .ok (.getfield 482, 3) := by decide +kernel
theorem dX11_fillProofs_7 : decode cX11_fillProofs 7 = .ok (.iconst 0, 1) := by decide +kernel
theorem dX11_fillProofs_8 : decode cX11_fillProofs 8 = .ok (.invokestatic 87, 3) := by decide +kernel
theorem dX11_fillProofs_11 : decode cX11_fillProofs 11 = .ok (.aload_n 0, 1) := by decide +kernel
theorem dX11_fillProofs_12 : decode cX11_fillProofs 12 = .ok (.getfield 48, 3) := by decide +kernel
theorem dX11_fillProofs_15 : decode cX11_fillProofs 15 = .ok (.getfield 482, 3) := by decide +kernel
theorem dX11_fillProofs_18 : decode cX11_fillProofs 18 = .ok (.bipush 10, 2) := by decide +kernel
theorem dX11_fillProofs_20 : decode cX11_fillProofs 20 = .ok (.aload_n 0, 1) := by decide +kernel
theorem dX11_fillProofs_21 : decode cX11_fillProofs 21 = .ok (.aload_n 1, 1) := by decide +kernel
theorem dX11_fillProofs_22 : decode cX11_fillProofs 22 = .ok (.invokevirtual 156, 3) := by decide +kernel
theorem dX11_fillProofs_25 : decode cX11_fillProofs 25 = .ok (.iastore, 1) := by decide +kernel
theorem dX11_fillProofs_26 : decode cX11_fillProofs 26 = .ok (.aload_n 0, 1) := by decide +kernel
theorem dX11_fillProofs_27 : decode cX11_fillProofs 27 = .ok (.getfield 48, 3) := by decide +kernel
theorem dX11_fillProofs_30 : decode cX11_fillProofs 30 = .ok (.getfield 482, 3) := by decide +kernel
theorem dX11_fillProofs_33 : decode cX11_fillProofs 33 = .ok (.bipush 13, 2) := by decide +kernel
theorem dX11_fillProofs_35 : decode cX11_fillProofs 35 = .ok (.aload_n 1, 1) := by decide +kernel
theorem dX11_fillProofs_36 : decode cX11_fillProofs 36 = .ok (.getfield 160, 3) := by decide +kernel
theorem dX11_fillProofs_39 : decode cX11_fillProofs 39 = .ok (.iastore, 1) := by decide +kernel
theorem dX11_fillProofs_40 : decode cX11_fillProofs 40 = .ok (.aload_n 0, 1) := by decide +kernel
theorem dX11_fillProofs_41 : decode cX11_fillProofs 41 = .ok (.getfield 66, 3) := by decide +kernel
theorem dX11_fillProofs_44 : decode cX11_fillProofs 44 = .ok (.istore_n 3, 1) := by decide +kernel
theorem dX11_fillProofs_45 : decode cX11_fillProofs 45 = .ok (.iconst 0, 1) := by decide +kernel
theorem dX11_fillProofs_46 : decode cX11_fillProofs 46 = .ok (.istore 4, 2) := by decide +kernel
theorem dX11_fillProofs_48 : decode cX11_fillProofs 48 = .ok (.iload 4, 2) := by decide +kernel
theorem dX11_fillProofs_50 : decode cX11_fillProofs 50 = .ok (.aload_n 2, 1) := by decide +kernel
theorem dX11_fillProofs_51 : decode cX11_fillProofs 51 = .ok (.invokevirtual 101, 3) := by decide +kernel
theorem dX11_fillProofs_54 : decode cX11_fillProofs 54 = .ok (.if_icmp .ge 81, 3) := by decide +kernel
theorem dX11_fillProofs_57 : decode cX11_fillProofs 57 = .ok (.aload_n 2, 1) := by decide +kernel
theorem dX11_fillProofs_58 : decode cX11_fillProofs 58 = .ok (.iload 4, 2) := by decide +kernel
theorem dX11_fillProofs_60 : decode cX11_fillProofs 60 = .ok (.invokevirtual 238, 3) := by decide +kernel
theorem dX11_fillProofs_63 : decode cX11_fillProofs 63 = .ok (.checkcast 331, 3) := by decide +kernel
theorem dX11_fillProofs_66 : decode cX11_fillProofs 66 = .ok (.astore 5, 2) := by decide +kernel
theorem dX11_fillProofs_68 : decode cX11_fillProofs 68 = .ok (.bipush 14, 2) := by decide +kernel
theorem dX11_fillProofs_70 : decode cX11_fillProofs 70 = .ok (.aload 5, 2) := by decide +kernel
theorem dX11_fillProofs_72 : decode cX11_fillProofs 72 = .ok (.getfield 497, 3) := by decide +kernel
theorem dX11_fillProofs_75 : decode cX11_fillProofs 75 = .ok (.iadd, 1) := by decide +kernel
theorem dX11_fillProofs_76 : decode cX11_fillProofs 76 = .ok (.istore 6, 2) := by decide +kernel
theorem dX11_fillProofs_78 : decode cX11_fillProofs 78 = .ok (.aload_n 0, 1) := by decide +kernel
theorem dX11_fillProofs_79 : decode cX11_fillProofs 79 = .ok (.getfield 48, 3) := by decide +kernel
theorem dX11_fillProofs_82 : decode cX11_fillProofs 82 = .ok (.getfield 482, 3) := by decide +kernel
theorem dX11_fillProofs_85 : decode cX11_fillProofs 85 = .ok (.iload 6, 2) := by decide +kernel
theorem dX11_fillProofs_87 : decode cX11_fillProofs 87 = .ok (.iaload, 1) := by decide +kernel
theorem dX11_fillProofs_88 : decode cX11_fillProofs 88 = .ok (.ifCond .ne 17, 3) := by decide +kernel
theorem dX11_fillProofs_91 : decode cX11_fillProofs 91 = .ok (.aload_n 0, 1) := by decide +kernel
theorem dX11_fillProofs_92 : decode cX11_fillProofs 92 = .ok (.getfield 48, 3) := by decide +kernel
theorem dX11_fillProofs_95 : decode cX11_fillProofs 95 = .ok (.getfield 482, 3) := by decide +kernel
theorem dX11_fillProofs_98 : decode cX11_fillProofs 98 = .ok (.bipush 19, 2) := by decide +kernel
theorem dX11_fillProofs_100 : decode cX11_fillProofs 100 = .ok (.dup2, 1) := by decide +kernel
theorem dX11_fillProofs_101 : decode cX11_fillProofs 101 = .ok (.iaload, 1) := by decide +kernel
theorem dX11_fillProofs_102 : decode cX11_fillProofs 102 = .ok (.iconst 1, 1) := by decide +kernel
theorem dX11_fillProofs_103 : decode cX11_fillProofs 103 = .ok (.iadd, 1) := by decide +kernel
theorem dX11_fillProofs_104 : decode cX11_fillProofs 104 = .ok (.iastore, 1) := by decide +kernel
theorem dX11_fillProofs_105 : decode cX11_fillProofs 105 = .ok (.aload_n 0, 1) := by decide +kernel
theorem dX11_fillProofs_106 : decode cX11_fillProofs 106 = .ok (.getfield 48, 3) := by decide +kernel
theorem dX11_fillProofs_109 : decode cX11_fillProofs 109 = .ok (.getfield 482, 3) := by decide +kernel
theorem dX11_fillProofs_112 : decode cX11_fillProofs 112 = .ok (.iload 6, 2) := by decide +kernel
theorem dX11_fillProofs_114 : decode cX11_fillProofs 114 = .ok (.dup2, 1) := by decide +kernel
theorem dX11_fillProofs_115 : decode cX11_fillProofs 115 = .ok (.iaload, 1) := by decide +kernel
theorem dX11_fillProofs_116 : decode cX11_fillProofs 116 = .ok (.iconst 1, 1) := by decide +kernel
theorem dX11_fillProofs_117 : decode cX11_fillProofs 117 = .ok (.iadd, 1) := by decide +kernel
theorem dX11_fillProofs_118 : decode cX11_fillProofs 118 = .ok (.iastore, 1) := by decide +kernel
theorem dX11_fillProofs_119 : decode cX11_fillProofs 119 = .ok (.iload_n 3, 1) := by decide +kernel
theorem dX11_fillProofs_120 : decode cX11_fillProofs 120 = .ok (.aload 5, 2) := by decide +kernel
theorem dX11_fillProofs_122 : decode cX11_fillProofs 122 = .ok (.getfield 500, 3) := by decide +kernel
theorem dX11_fillProofs_125 : decode cX11_fillProofs 125 = .ok (.invokestatic 503, 3) := by decide +kernel
theorem dX11_fillProofs_128 : decode cX11_fillProofs 128 = .ok (.istore_n 3, 1) := by decide +kernel
theorem dX11_fillProofs_129 : decode cX11_fillProofs 129 = .ok (.iinc 4 1, 3) := by decide +kernel
theorem dX11_fillProofs_132 : decode cX11_fillProofs 132 = .ok (.goto (-84), 3) := by decide +kernel
theorem dX11_fillProofs_135 : decode cX11_fillProofs 135 = .ok (.aload_n 0, 1) := by decide +kernel
theorem dX11_fillProofs_136 : decode cX11_fillProofs 136 = .ok (.getfield 48, 3) := by decide +kernel
theorem dX11_fillProofs_139 : decode cX11_fillProofs 139 = .ok (.getfield 482, 3) := by decide +kernel
theorem dX11_fillProofs_142 : decode cX11_fillProofs 142 = .ok (.bipush 20, 2) := by decide +kernel
theorem dX11_fillProofs_144 : decode cX11_fillProofs 144 = .ok (.aload_n 0, 1) := by decide +kernel
theorem dX11_fillProofs_145 : decode cX11_fillProofs 145 = .ok (.getfield 66, 3) := by decide +kernel
theorem dX11_fillProofs_148 : decode cX11_fillProofs 148 = .ok (.iload_n 3, 1) := by decide +kernel
theorem dX11_fillProofs_149 : decode cX11_fillProofs 149 = .ok (.isub, 1) := by decide +kernel
theorem dX11_fillProofs_150 : decode cX11_fillProofs 150 = .ok (.bipush 60, 2) := by decide +kernel
theorem dX11_fillProofs_152 : decode cX11_fillProofs 152 = .ok (.idiv, 1) := by decide +kernel
theorem dX11_fillProofs_153 : decode cX11_fillProofs 153 = .ok (.iastore, 1) := by decide +kernel
theorem dX11_fillProofs_154 : decode cX11_fillProofs 154 = .ok (.return_, 1) := by decide +kernel
def f_X11_fillProofs_b105 (rec_48 : TH → Nat → Option Nat → Int32 → Int32 → Option (Unit × TH)) (σ : TH) (l0 : Nat) (l2 : Option Nat) (l3 : Int32) (l4 : Int32) (l5 : Option Nat) (l6 : Int32) : Option (Unit × TH) :=
  gt_ (kd_ σ l0 = 13) <| lt_ (fr_ σ 1209 l0) fun r46 => nn_ r46 fun a47 => gt_ (kd_ σ a47 = 6) <| lt_ (fr_ σ 500 a47) fun r48 => nn_ r48 fun a49 => gt_ (kd_ σ a49 = 20) <| gt_ (¬ (l6 < 0 ∨ ln_ σ a49 ≤ l6.toNatClampNeg)) <| lt_ (ai_ σ a49 l6.toNatClampNeg) fun x50 => gt_ (¬ (l6 < 0 ∨ ln_ σ a49 ≤ l6.toNatClampNeg)) <| lt_ (sa_ σ a49 l6.toNatClampNeg (x50 + (1 : Int32))) fun s51 => nn_ l5 fun a52 => gt_ (kd_ s51 a52 = 9) <| lt_ (fi_ s51 804 a52) fun x53 => lt_ (if x53 < l3 then x53 else l3) fun x54 => lt_ (l4 + 1) fun x55 => rec_48 s51 l0 l2 x54 x55
set_option maxHeartbeats 4000000 in
set_option maxRecDepth 100000 in
theorem t_X11_fillProofs_b105 {l : Launch} {D : va_G} {cy : Nat → ClassId} {ka : Nat → Nat} {σ0 z : TH} {r : Unit} {rec_48 : TH → Nat → Option Nat → Int32 → Int32 → Option (Unit × TH)} (hrec_48 : ∀ (σ : TH) (l0 : Nat) (l2 : Option Nat) (l3 : Int32) (l4 : Int32), rec_48 σ l0 l2 l3 l4 = some (r, z) → v_ l D cy ka cX11_fillProofs RX11 7 none "fillProofs" 3 64 (qf_ D cy σ0 z none) σ0 z σ 48 [(0, va_rf (some l0)), (2, va_rf l2), (3, .int l3), (4, .int l4)] []) {σ : TH} {l0 : Nat} {l2 : Option Nat} {l3 : Int32} {l4 : Int32} {l5 : Option Nat} {l6 : Int32} (hf : f_X11_fillProofs_b105 rec_48 σ l0 l2 l3 l4 l5 l6 = some (r, z)) : v_ l D cy ka cX11_fillProofs RX11 7 none "fillProofs" 3 64 (qf_ D cy σ0 z none) σ0 z σ 105 [(0, va_rf (some l0)), (2, va_rf l2), (3, .int l3), (4, .int l4), (5, va_rf l5), (6, .int l6)] [] := by
  unfold f_X11_fillProofs_b105 at hf
  refine v_aload_n (x := (some l0)) dX11_fillProofs_105 rfl 0 rfl ?_
  obtain ⟨hk_l0, hf⟩ := gt_of hf
  refine v_getr cb_12 hk_l0 9 1209 rfl (by decide) rfl (lk_n kw_248 rfl) hf dX11_fillProofs_106 (fun r46 hf => ?_)
  obtain ⟨a47, rfl, hf⟩ := nn_of hf
  obtain ⟨hk_a47, hf⟩ := gt_of hf
  refine v_getr cb_5 hk_a47 0 500 rfl (by decide) rfl (lk_n kw_144 rfl) hf dX11_fillProofs_109 (fun r48 hf => ?_)
  refine v_iload (x := l6) dX11_fillProofs_112 5 rfl ?_
  refine v_dup2 dX11_fillProofs_114 rfl (va_rf_cat _) ?_
  obtain ⟨a49, rfl, hf⟩ := nn_of hf
  obtain ⟨hk_a49, hf⟩ := gt_of hf
  refine v_iald hk_a49 hf dX11_fillProofs_115 (fun x50 hf => ?_)
  refine v_iconst (v := 1) dX11_fillProofs_116 (by decide) ?_
  refine v_iadd dX11_fillProofs_117 ?_
  refine v_iast2 hk_a49 hf dX11_fillProofs_118 (fun s51 hts51 hf => ?_)
  have hk_l0 := tk_ hts51 hk_l0
  refine v_iload_n (x := l3) dX11_fillProofs_119 rfl 2 rfl ?_
  refine v_aload (x := l5) dX11_fillProofs_120 4 rfl ?_
  obtain ⟨a52, rfl, hf⟩ := nn_of hf
  obtain ⟨hk_a52, hf⟩ := gt_of hf
  refine v_geti cb_8 hk_a52 4 804 rfl (by decide) rfl (lk_n kw_1010 rfl) hf dX11_fillProofs_122 (fun x53 hf => ?_)
  refine v_mmin kw_1088 kw_16 (by decide) (by decide) (cat_len (Nat.le_of_ble_eq_true rfl)) dX11_fillProofs_125 ?_
  obtain ⟨x54, ex54⟩ : ∃ y : Int32, y = if x53 < l3 then x53 else l3 := ⟨_, rfl⟩
  rw [lt_e, ← ex54] at hf
  rw [← ex54]
  refine v_istore_n (i := 3) [(3, .int x54), (0, va_rf (some l0)), (2, va_rf l2), (4, .int l4), (5, va_rf (some a52)), (6, .int l6)] dX11_fillProofs_128 rfl (by decide) (by simp [va_rf_cat, cat_i, cat_l]) ?_
  obtain ⟨x55, ex55⟩ : ∃ y : Int32, y = l4 + 1 := ⟨_, rfl⟩
  rw [lt_e, ← ex55] at hf
  refine v_iinc (v := x55) [(4, .int x55), (3, .int x54), (0, va_rf (some l0)), (2, va_rf l2), (5, va_rf (some a52)), (6, .int l6)] dX11_fillProofs_129 3 rfl (by rw [ex55]; rfl) (by decide) rfl ?_
  refine v_goto (tgt := 48) dX11_fillProofs_132 (by decide) ?_
  refine v_sub [2, 3, 1, 0] (L2 := [(0, va_rf (some l0)), (2, va_rf l2), (3, .int x54), (4, .int x55)]) rfl ?_
  exact hrec_48 _ _ _ _ _ hf
def f_X11_fillProofs_b48 : Nat → TH → Nat → Option Nat → Int32 → Int32 → Option (Unit × TH)
  | 0, _, _, _, _, _ => none
  | n + 1, σ, l0, l2, l3, l4 => nn_ l2 fun a21 => gt_ (kd_ σ a21 = 1) <| bd_ (f_Jx4a65c_size_8abf5 σ a21) fun x22 s23 => if x22 ≤ l4 then (gt_ (kd_ s23 l0 = 13) <| lt_ (fr_ s23 1209 l0) fun r24 => nn_ r24 fun a25 => gt_ (kd_ s23 a25 = 6) <| lt_ (fr_ s23 500 a25) fun r26 => lt_ (fi_ s23 1213 l0) fun x27 => gt_ (¬ (60 : Int32) = 0) <| nn_ r26 fun a28 => gt_ (kd_ s23 a28 = 20) <| gt_ (¬ ((20 : Int32) < 0 ∨ ln_ s23 a28 ≤ (20 : Int32).toNatClampNeg)) <| lt_ (sa_ s23 a28 ((20 : Int32).toNatClampNeg) ((x27 - l3) / (60 : Int32))) fun s29 => some ((), s29)) else (bd_ (f_Jx4a65c_get_915e3 s23 a21 l4) fun r30 s31 => gt_ (Option.elim r30 9 (kd_ s31) = 9) <| nn_ r30 fun a32 => gt_ (kd_ s31 a32 = 9) <| lt_ (fi_ s31 803 a32) fun x33 => lt_ ((14 : Int32) + x33) fun x34 => gt_ (kd_ s31 l0 = 13) <| lt_ (fr_ s31 1209 l0) fun r35 => nn_ r35 fun a36 => gt_ (kd_ s31 a36 = 6) <| lt_ (fr_ s31 500 a36) fun r37 => nn_ r37 fun a38 => gt_ (kd_ s31 a38 = 20) <| gt_ (¬ (x34 < 0 ∨ ln_ s31 a38 ≤ x34.toNatClampNeg)) <| lt_ (ai_ s31 a38 x34.toNatClampNeg) fun x39 => if x39 = 0 then (lt_ (fr_ s31 1209 l0) fun r40 => nn_ r40 fun a41 => gt_ (kd_ s31 a41 = 6) <| lt_ (fr_ s31 500 a41) fun r42 => nn_ r42 fun a43 => gt_ (kd_ s31 a43 = 20) <| gt_ (¬ ((19 : Int32) < 0 ∨ ln_ s31 a43 ≤ (19 : Int32).toNatClampNeg)) <| lt_ (ai_ s31 a43 ((19 : Int32).toNatClampNeg)) fun x44 => gt_ (¬ ((19 : Int32) < 0 ∨ ln_ s31 a43 ≤ (19 : Int32).toNatClampNeg)) <| lt_ (sa_ s31 a43 ((19 : Int32).toNatClampNeg) (x44 + (1 : Int32))) fun s45 => f_X11_fillProofs_b105 (f_X11_fillProofs_b48 n) s45 l0 (some a21) l3 l4 (some a32) x34) else (f_X11_fillProofs_b105 (f_X11_fillProofs_b48 n) s31 l0 (some a21) l3 l4 (some a32) x34))
set_option maxHeartbeats 4000000 in
set_option maxRecDepth 100000 in
theorem t_X11_fillProofs_b48 {l : Launch} {D : va_G} {cy : Nat → ClassId} {ka : Nat → Nat} {σ0 z : TH} {r : Unit}  : ∀ (n : Nat) (σ : TH) (l0 : Nat) (l2 : Option Nat) (l3 : Int32) (l4 : Int32), f_X11_fillProofs_b48 n σ l0 l2 l3 l4 = some (r, z) → v_ l D cy ka cX11_fillProofs RX11 7 none "fillProofs" 3 64 (qf_ D cy σ0 z none) σ0 z σ 48 [(0, va_rf (some l0)), (2, va_rf l2), (3, .int l3), (4, .int l4)] [] := by
  intro n
  induction n with
  | zero => intro σ l0 l2 l3 l4 hf; unfold f_X11_fillProofs_b48 at hf; cases hf
  | succ n ih =>
    intro σ l0 l2 l3 l4 hf
    unfold f_X11_fillProofs_b48 at hf
    have hrec_48 := ih
    refine v_iload (x := l4) dX11_fillProofs_48 3 rfl ?_
    refine v_aload_n (x := l2) dX11_fillProofs_50 rfl 1 rfl ?_
    obtain ⟨a21, rfl, hf⟩ := nn_of hf
    obtain ⟨hk_a21, hf⟩ := gt_of hf
    obtain ⟨x22, s23, hcs23, hf⟩ := bd_of hf
    have hts23 := c_Jx4a65c_size_8abf5 (l := l) (D := D) (cy := cy) (ka := ka) hcs23
    refine v_callV cb_0 hk_a21 (As := []) (rest := [.int l4]) hts23 yb_Jx4a65c_size_8abf5 kw_311 kw_312 kw_313 rfl ⟨Nat.le_of_ble_eq_true rfl, Nat.le_of_ble_eq_true rfl⟩ rfl (cat_len (Nat.le_of_ble_eq_true rfl)) dX11_fillProofs_51 ?_
    have hk_a21 := tk_ hts23.1 hk_a21
    show v_ l D cy ka cX11_fillProofs RX11 7 none "fillProofs" 3 64 (qf_ D cy σ0 z none) σ0 z _ 54 [(0, va_rf (some l0)), (2, va_rf (some a21)), (3, .int l3), (4, .int l4)] [.int x22, .int l4]
    refine v_icmp_ge (tgt := 135) hf dX11_fillProofs_54 (by decide) (fun hq hf => ?_) (fun hq hf => ?_)
    · refine v_aload_n (x := (some l0)) dX11_fillProofs_135 rfl 0 rfl ?_
      obtain ⟨hk_l0, hf⟩ := gt_of hf
      refine v_getr cb_12 hk_l0 9 1209 rfl (by decide) rfl (lk_n kw_248 rfl) hf dX11_fillProofs_136 (fun r24 hf => ?_)
      obtain ⟨a25, rfl, hf⟩ := nn_of hf
      obtain ⟨hk_a25, hf⟩ := gt_of hf
      refine v_getr cb_5 hk_a25 0 500 rfl (by decide) rfl (lk_n kw_144 rfl) hf dX11_fillProofs_139 (fun r26 hf => ?_)
      refine v_bipush (v := 20) dX11_fillProofs_142 (by decide) ?_
      refine v_aload_n (x := (some l0)) dX11_fillProofs_144 rfl 0 rfl ?_
      refine v_geti cb_12 hk_l0 13 1213 rfl (by decide) rfl (lk_n kw_252 rfl) hf dX11_fillProofs_145 (fun x27 hf => ?_)
      refine v_iload_n (x := l3) dX11_fillProofs_148 rfl 2 rfl ?_
      refine v_isub dX11_fillProofs_149 ?_
      refine v_bipush (v := 60) dX11_fillProofs_150 (by decide) ?_
      refine v_idiv hf dX11_fillProofs_152 (fun hf => ?_)
      obtain ⟨a28, rfl, hf⟩ := nn_of hf
      obtain ⟨hk_a28, hf⟩ := gt_of hf
      refine v_iast2 hk_a28 hf dX11_fillProofs_153 (fun s29 hts29 hf => ?_)
      have hk_a21 := tk_ hts29 hk_a21
      have hk_l0 := tk_ hts29 hk_l0
      exact v_vret hf dX11_fillProofs_154
    · refine v_aload_n (x := (some a21)) dX11_fillProofs_57 rfl 1 rfl ?_
      refine v_iload (x := l4) dX11_fillProofs_58 3 rfl ?_
      obtain ⟨r30, s31, hcs31, hf⟩ := bd_of hf
      have hts31 := c_Jx4a65c_get_915e3 (l := l) (D := D) (cy := cy) (ka := ka) hcs31
      refine v_callV cb_0 hk_a21 (As := [.int l4]) (rest := []) hts31 yb_Jx4a65c_get_915e3 kw_407 kw_408 kw_409 rfl ⟨Nat.le_of_ble_eq_true rfl, Nat.le_of_ble_eq_true rfl⟩ rfl (cat_len (Nat.le_of_ble_eq_true rfl)) dX11_fillProofs_60 ?_
      have hk_a21 := tk_ hts31.1 hk_a21
      show v_ l D cy ka cX11_fillProofs RX11 7 none "fillProofs" 3 64 (qf_ D cy σ0 z none) σ0 z _ 63 [(0, va_rf (some l0)), (2, va_rf (some a21)), (3, .int l3), (4, .int l4)] [va_rf r30]
      refine v_cast cb_8 9 rfl kw_996 hf dX11_fillProofs_63 (fun hf => ?_)
      refine v_astore [(5, va_rf r30), (0, va_rf (some l0)), (2, va_rf (some a21)), (3, .int l3), (4, .int l4)] dX11_fillProofs_66 (by decide) rfl ?_
      refine v_bipush (v := 14) dX11_fillProofs_68 (by decide) ?_
      refine v_aload (x := r30) dX11_fillProofs_70 0 rfl ?_
      obtain ⟨a32, rfl, hf⟩ := nn_of hf
      obtain ⟨hk_a32, hf⟩ := gt_of hf
      refine v_geti cb_8 hk_a32 3 803 rfl (by decide) rfl (lk_n kw_1008 rfl) hf dX11_fillProofs_72 (fun x33 hf => ?_)
      refine v_iadd dX11_fillProofs_75 ?_
      obtain ⟨x34, ex34⟩ : ∃ y : Int32, y = (14 : Int32) + x33 := ⟨_, rfl⟩
      rw [lt_e, ← ex34] at hf
      rw [← ex34]
      refine v_istore [(6, .int x34), (5, va_rf (some a32)), (0, va_rf (some l0)), (2, va_rf (some a21)), (3, .int l3), (4, .int l4)] dX11_fillProofs_76 (by decide) rfl ?_
      refine v_aload_n (x := (some l0)) dX11_fillProofs_78 rfl 2 rfl ?_
      obtain ⟨hk_l0, hf⟩ := gt_of hf
      refine v_getr cb_12 hk_l0 9 1209 rfl (by decide) rfl (lk_n kw_248 rfl) hf dX11_fillProofs_79 (fun r35 hf => ?_)
      obtain ⟨a36, rfl, hf⟩ := nn_of hf
      obtain ⟨hk_a36, hf⟩ := gt_of hf
      refine v_getr cb_5 hk_a36 0 500 rfl (by decide) rfl (lk_n kw_144 rfl) hf dX11_fillProofs_82 (fun r37 hf => ?_)
      refine v_iload (x := x34) dX11_fillProofs_85 0 rfl ?_
      obtain ⟨a38, rfl, hf⟩ := nn_of hf
      obtain ⟨hk_a38, hf⟩ := gt_of hf
      refine v_iald hk_a38 hf dX11_fillProofs_87 (fun x39 hf => ?_)
      refine v_if_ne (tgt := 105) hf dX11_fillProofs_88 (by decide) (fun hq hf => ?_) (fun hq hf => ?_)
      · refine v_aload_n (x := (some l0)) dX11_fillProofs_91 rfl 2 rfl ?_
        refine v_getr cb_12 hk_l0 9 1209 rfl (by decide) rfl (lk_n kw_248 rfl) hf dX11_fillProofs_92 (fun r40 hf => ?_)
        obtain ⟨a41, rfl, hf⟩ := nn_of hf
        obtain ⟨hk_a41, hf⟩ := gt_of hf
        refine v_getr cb_5 hk_a41 0 500 rfl (by decide) rfl (lk_n kw_144 rfl) hf dX11_fillProofs_95 (fun r42 hf => ?_)
        refine v_bipush (v := 19) dX11_fillProofs_98 (by decide) ?_
        refine v_dup2 dX11_fillProofs_100 rfl (va_rf_cat _) ?_
        obtain ⟨a43, rfl, hf⟩ := nn_of hf
        obtain ⟨hk_a43, hf⟩ := gt_of hf
        refine v_iald hk_a43 hf dX11_fillProofs_101 (fun x44 hf => ?_)
        refine v_iconst (v := 1) dX11_fillProofs_102 (by decide) ?_
        refine v_iadd dX11_fillProofs_103 ?_
        refine v_iast2 hk_a43 hf dX11_fillProofs_104 (fun s45 hts45 hf => ?_)
        have hk_a21 := tk_ hts45 hk_a21
        have hk_a32 := tk_ hts45 hk_a32
        have hk_l0 := tk_ hts45 hk_l0
        refine v_sub [2, 3, 4, 5, 1, 0] (L2 := [(0, va_rf (some l0)), (2, va_rf (some a21)), (3, .int l3), (4, .int l4), (5, va_rf (some a32)), (6, .int x34)]) rfl ?_
        exact t_X11_fillProofs_b105 hrec_48 hf
      · refine v_sub [2, 3, 4, 5, 1, 0] (L2 := [(0, va_rf (some l0)), (2, va_rf (some a21)), (3, .int l3), (4, .int l4), (5, va_rf (some a32)), (6, .int x34)]) rfl ?_
        exact t_X11_fillProofs_b105 hrec_48 hf
/-- LivesAhead.fillProofs(LLivesAhead$Person;Ljava/util/ArrayList;)V -/
def f_X11_fillProofs (σ : TH) (p0 : Nat) (p1 : Option Nat) (p2 : Option Nat) : Option (Unit × TH) :=
  gt_ (kd_ σ p0 = 13) <| lt_ (fr_ σ 1209 p0) fun r1 => nn_ r1 fun a2 => gt_ (kd_ σ a2 = 6) <| lt_ (fr_ σ 500 a2) fun r3 => bd_ (f_J7_fill_53178 σ r3 (0 : Int32)) fun x4 s5 => lt_ (fr_ s5 1209 p0) fun r6 => nn_ r6 fun a7 => gt_ (kd_ s5 a7 = 6) <| lt_ (fr_ s5 500 a7) fun r8 => bd_ (f_X11_ageOf s5 p0 p1) fun x9 s10 => nn_ r8 fun a11 => gt_ (kd_ s10 a11 = 20) <| gt_ (¬ ((10 : Int32) < 0 ∨ ln_ s10 a11 ≤ (10 : Int32).toNatClampNeg)) <| lt_ (sa_ s10 a11 ((10 : Int32).toNatClampNeg) x9) fun s12 => lt_ (fr_ s12 1209 p0) fun r13 => nn_ r13 fun a14 => gt_ (kd_ s12 a14 = 6) <| lt_ (fr_ s12 500 a14) fun r15 => nn_ p1 fun a16 => gt_ (kd_ s12 a16 = 4) <| lt_ (fi_ s12 303 a16) fun x17 => nn_ r15 fun a18 => gt_ (kd_ s12 a18 = 20) <| gt_ (¬ ((13 : Int32) < 0 ∨ ln_ s12 a18 ≤ (13 : Int32).toNatClampNeg)) <| lt_ (sa_ s12 a18 ((13 : Int32).toNatClampNeg) x17) fun s19 => lt_ (fi_ s19 1213 p0) fun x20 => f_X11_fillProofs_b48 fu_ s19 p0 p2 x20 (0 : Int32)
set_option maxHeartbeats 4000000 in
set_option maxRecDepth 100000 in
theorem c_X11_fillProofs {l : Launch} {D : va_G} {cy : Nat → ClassId} {ka : Nat → Nat} {σ z : TH} {p0 : Nat} {p1 : Option Nat} {p2 : Option Nat} {r : Unit} (hf : f_X11_fillProofs σ p0 p1 p2 = some (r, z)) : ct_ l D cy ka yX11_fillProofs 3 64 [va_rf (some p0), va_rf p1, va_rf p2] σ none z := by
  unfold f_X11_fillProofs at hf
  refine v_start (cc := cX11_fillProofs) (own := RX11) (maxL := 7) (ret := none) (nm := "fillProofs") (by decide +kernel) kw_1087 rfl rfl (by simp [lg_sl, va_rf_cat, cat_i, cat_l]) ?_
  refine v_eqL (L2 := [(0, va_rf (some p0)), (1, va_rf p1), (2, va_rf p2)]) (by simp [lv_args, va_rf_cat, cat_i, cat_l]) ?_
  refine v_aload_n (x := (some p0)) dX11_fillProofs_0 rfl 0 rfl ?_
  obtain ⟨hk_p0, hf⟩ := gt_of hf
  refine v_getr cb_12 hk_p0 9 1209 rfl (by decide) rfl (lk_n kw_248 rfl) hf dX11_fillProofs_1 (fun r1 hf => ?_)
  obtain ⟨a2, rfl, hf⟩ := nn_of hf
  obtain ⟨hk_a2, hf⟩ := gt_of hf
  refine v_getr cb_5 hk_a2 0 500 rfl (by decide) rfl (lk_n kw_144 rfl) hf dX11_fillProofs_4 (fun r3 hf => ?_)
  refine v_iconst (v := 0) dX11_fillProofs_7 (by decide) ?_
  obtain ⟨x4, s5, hcs5, hf⟩ := bd_of hf
  have hts5 := c_J7_fill_53178 (l := l) (D := D) (cy := cy) (ka := ka) hcs5
  refine v_callS (As := [va_rf r3, .int (0 : Int32)]) (rest := []) hts5 yb_J7_fill_53178 kw_236 kw_237 rfl ⟨Nat.le_of_ble_eq_true rfl, Nat.le_of_ble_eq_true rfl⟩ rfl (cat_len (Nat.le_of_ble_eq_true rfl)) dX11_fillProofs_8 ?_
  have hk_p0 := tk_ hts5.1 hk_p0
  show v_ l D cy ka cX11_fillProofs RX11 7 none "fillProofs" 3 64 (qf_ D cy σ z none) σ z _ 11 [(0, va_rf (some p0)), (1, va_rf p1), (2, va_rf p2)] []
  refine v_aload_n (x := (some p0)) dX11_fillProofs_11 rfl 0 rfl ?_
  refine v_getr cb_12 hk_p0 9 1209 rfl (by decide) rfl (lk_n kw_248 rfl) hf dX11_fillProofs_12 (fun r6 hf => ?_)
  obtain ⟨a7, rfl, hf⟩ := nn_of hf
  obtain ⟨hk_a7, hf⟩ := gt_of hf
  refine v_getr cb_5 hk_a7 0 500 rfl (by decide) rfl (lk_n kw_144 rfl) hf dX11_fillProofs_15 (fun r8 hf => ?_)
  refine v_bipush (v := 10) dX11_fillProofs_18 (by decide) ?_
  refine v_aload_n (x := (some p0)) dX11_fillProofs_20 rfl 0 rfl ?_
  refine v_aload_n (x := p1) dX11_fillProofs_21 rfl 1 rfl ?_
  obtain ⟨x9, s10, hcs10, hf⟩ := bd_of hf
  have hts10 := c_X11_ageOf (l := l) (D := D) (cy := cy) (ka := ka) hcs10
  refine v_callV cb_12 hk_p0 (As := [va_rf p1]) (rest := [.int (10 : Int32), va_rf r8]) hts10 yb_X11_ageOf kw_530 kw_532 kp_12 rfl ⟨Nat.le_of_ble_eq_true rfl, Nat.le_of_ble_eq_true rfl⟩ rfl (cat_len (Nat.le_of_ble_eq_true rfl)) dX11_fillProofs_22 ?_
  have hk_p0 := tk_ hts10.1 hk_p0
  show v_ l D cy ka cX11_fillProofs RX11 7 none "fillProofs" 3 64 (qf_ D cy σ z none) σ z _ 25 [(0, va_rf (some p0)), (1, va_rf p1), (2, va_rf p2)] [.int x9, .int (10 : Int32), va_rf r8]
  obtain ⟨a11, rfl, hf⟩ := nn_of hf
  obtain ⟨hk_a11, hf⟩ := gt_of hf
  refine v_iast2 hk_a11 hf dX11_fillProofs_25 (fun s12 hts12 hf => ?_)
  have hk_p0 := tk_ hts12 hk_p0
  refine v_aload_n (x := (some p0)) dX11_fillProofs_26 rfl 0 rfl ?_
  refine v_getr cb_12 hk_p0 9 1209 rfl (by decide) rfl (lk_n kw_248 rfl) hf dX11_fillProofs_27 (fun r13 hf => ?_)
  obtain ⟨a14, rfl, hf⟩ := nn_of hf
  obtain ⟨hk_a14, hf⟩ := gt_of hf
  refine v_getr cb_5 hk_a14 0 500 rfl (by decide) rfl (lk_n kw_144 rfl) hf dX11_fillProofs_30 (fun r15 hf => ?_)
  refine v_bipush (v := 13) dX11_fillProofs_33 (by decide) ?_
  refine v_aload_n (x := p1) dX11_fillProofs_35 rfl 1 rfl ?_
  obtain ⟨a16, rfl, hf⟩ := nn_of hf
  obtain ⟨hk_a16, hf⟩ := gt_of hf
  refine v_geti cb_3 hk_a16 3 303 rfl (by decide) rfl (lk_n kw_471 rfl) hf dX11_fillProofs_36 (fun x17 hf => ?_)
  obtain ⟨a18, rfl, hf⟩ := nn_of hf
  obtain ⟨hk_a18, hf⟩ := gt_of hf
  refine v_iast2 hk_a18 hf dX11_fillProofs_39 (fun s19 hts19 hf => ?_)
  have hk_p0 := tk_ hts19 hk_p0
  have hk_a16 := tk_ hts19 hk_a16
  refine v_aload_n (x := (some p0)) dX11_fillProofs_40 rfl 0 rfl ?_
  refine v_geti cb_12 hk_p0 13 1213 rfl (by decide) rfl (lk_n kw_252 rfl) hf dX11_fillProofs_41 (fun x20 hf => ?_)
  refine v_istore_n (i := 3) [(3, .int x20), (0, va_rf (some p0)), (1, va_rf (some a16)), (2, va_rf p2)] dX11_fillProofs_44 rfl (by decide) (by simp [va_rf_cat, cat_i, cat_l]) ?_
  refine v_iconst (v := 0) dX11_fillProofs_45 (by decide) ?_
  refine v_istore [(4, .int (0 : Int32)), (3, .int x20), (0, va_rf (some p0)), (1, va_rf (some a16)), (2, va_rf p2)] dX11_fillProofs_46 (by decide) rfl ?_
  refine v_sub [2, 4, 1, 0] (L2 := [(0, va_rf (some p0)), (2, va_rf p2), (3, .int x20), (4, .int (0 : Int32))]) rfl ?_
  exact t_X11_fillProofs_b48  _ _ _ _ _ _ hf
theorem dX11_isProven_0 : decode cX11_isProven 0 = .ok (.aload_n 2, 1) := by decide +kernel
theorem dX11_isProven_1 : decode cX11_isProven 1 = .ok (.invokevirtual 490, 3) := by decide +kernel
theorem dX11_isProven_4 : decode cX11_isProven 4 = .ok (.ifCond .eq 5, 3) := by decide +kernel
theorem dX11_isProven_7 : decode cX11_isProven 7 = .ok (.iconst 0, 1) := by decide +kernel
theorem dX11_isProven_8 : decode cX11_isProven 8 = .ok (.ireturn, 1) := by decide +kernel
theorem dX11_isProven_9 : decode cX11_isProven 9 = .ok (.aload_n 0, 1) := by decide +kernel
theorem dX11_isProven_10 : decode cX11_isProven 10 = .ok (.aload_n 1, 1) := by decide +kernel
theorem dX11_isProven_11 : decode cX11_isProven 11 = .ok (.aload_n 2, 1) := by decide +kernel
theorem dX11_isProven_12 : decode cX11_isProven 12 = .ok (.invokevirtual 493, 3) := by decide +kernel
theorem dX11_isProven_15 : decode cX11_isProven 15 = .ok (.iconst 0, 1) := by decide +kernel
theorem dX11_isProven_16 : decode cX11_isProven 16 = .ok (.istore_n 3, 1) := by decide +kernel
theorem dX11_isProven_17 : decode cX11_isProven 17 = .ok (.iload_n 3, 1) := by decide +kernel
theorem dX11_isProven_18 : decode cX11_isProven 18 = .ok (.aload_n 0, 1) := by decide +kernel
theorem dX11_isProven_19 : decode cX11_isProven 19 = .ok (.getfield 19, 3) := by decide +kernel
theorem dX11_isProven_22 : decode cX11_isProven 22 = .ok (.invokevirtual 101, 3) := by decide +kernel
theorem dX11_isProven_25 : decode cX11_isProven 25 = .ok (.if_icmp .ge 36, 3) := by decide +kernel
theorem dX11_isProven_28 : decode cX11_isProven 28 = .ok (.aload_n 0, 1) := by decide +kernel
theorem dX11_isProven_29 : decode cX11_isProven 29 = .ok (.getfield 48, 3) := by decide +kernel
theorem dX11_isProven_32 : decode cX11_isProven 32 = .ok (.aload_n 0, 1) := by decide +kernel
theorem dX11_isProven_33 : decode cX11_isProven 33 = .ok (.getfield 19, 3) := by decide +kernel
theorem dX11_isProven_36 : decode cX11_isProven 36 = .ok (.iload_n 3, 1) := by decide +kernel
theorem dX11_isProven_37 : decode cX11_isProven 37 = .ok (.invokevirtual 238, 3) := by decide +kernel
theorem dX11_isProven_40 : decode cX11_isProven 40 = .ok (.checkcast 283, 3) := by decide +kernel
theorem dX11_isProven_43 : decode cX11_isProven 43 = .ok (.getfield 297, 3) := by decide +kernel
theorem dX11_isProven_46 : decode cX11_isProven 46 = .ok (.iconst 0, 1) := by decide +kernel
theorem dX11_isProven_47 : decode cX11_isProven 47 = .ok (.invokevirtual 300, 3) := by decide +kernel
theorem dX11_isProven_50 : decode cX11_isProven 50 = .ok (.ifCond .eq 5, 3) := by decide +kernel
theorem dX11_isProven_53 : decode cX11_isProven 53 = .ok (.iconst 1, 1) := by decide +kernel
theorem dX11_isProven_54 : decode cX11_isProven 54 = .ok (.ireturn, 1) := by decide +kernel
theorem dX11_isProven_55 : decode cX11_isProven 55 = .ok (.iinc 3 1, 3) := by decide +kernel
theorem dX11_isProven_58 : decode cX11_isProven 58 = .ok (.goto (-41), 3) := by decide +kernel
theorem dX11_isProven_61 : decode cX11_isProven 61 = .ok (.iconst 0, 1) := by decide +kernel
theorem dX11_isProven_62 : decode cX11_isProven 62 = .ok (.ireturn, 1) := by decide +kernel
def f_X11_isProven_b17 : Nat → TH → Nat → Int32 → Option (Int32 × TH)
  | 0, _, _, _ => none
  | n + 1, σ, l0, l3 => gt_ (kd_ σ l0 = 13) <| lt_ (fr_ σ 1202 l0) fun r6 => nn_ r6 fun a7 => gt_ (kd_ σ a7 = 1) <| bd_ (f_Jx4a65c_size_8abf5 σ a7) fun x8 s9 => if x8 ≤ l3 then (some ((0 : Int32), s9)) else (lt_ (fr_ s9 1209 l0) fun r10 => lt_ (fr_ s9 1202 l0) fun r11 => nn_ r11 fun a12 => gt_ (kd_ s9 a12 = 1) <| bd_ (f_Jx4a65c_get_915e3 s9 a12 l3) fun r13 s14 => gt_ (Option.elim r13 11 (kd_ s14) = 11) <| nn_ r13 fun a15 => gt_ (kd_ s14 a15 = 11) <| lt_ (fr_ s14 1000 a15) fun r16 => nn_ r10 fun a17 => gt_ (kd_ s14 a17 = 6) <| bd_ (f_X4_run s14 a17 r16 (0 : Int32)) fun x18 s19 => if x18 = 0 then (lt_ (l3 + 1) fun x20 => (f_X11_isProven_b17 n) s19 l0 x20) else (some ((1 : Int32), s19)))
set_option maxHeartbeats 4000000 in
set_option maxRecDepth 100000 in
theorem t_X11_isProven_b17 {l : Launch} {D : va_G} {cy : Nat → ClassId} {ka : Nat → Nat} {σ0 z : TH} {r : Int32}  : ∀ (n : Nat) (σ : TH) (l0 : Nat) (l3 : Int32), f_X11_isProven_b17 n σ l0 l3 = some (r, z) → v_ l D cy ka cX11_isProven RX11 4 (some FieldType.boolean) "isProven" 4 91 (qf_ D cy σ0 z (some (.int r))) σ0 z σ 17 [(0, va_rf (some l0)), (3, .int l3)] [] := by
  intro n
  induction n with
  | zero => intro σ l0 l3 hf; unfold f_X11_isProven_b17 at hf; cases hf
  | succ n ih =>
    intro σ l0 l3 hf
    unfold f_X11_isProven_b17 at hf
    have hrec_17 := ih
    refine v_iload_n (x := l3) dX11_isProven_17 rfl 1 rfl ?_
    refine v_aload_n (x := (some l0)) dX11_isProven_18 rfl 0 rfl ?_
    obtain ⟨hk_l0, hf⟩ := gt_of hf
    refine v_getr cb_12 hk_l0 2 1202 rfl (by decide) rfl (lk_n kw_241 rfl) hf dX11_isProven_19 (fun r6 hf => ?_)
    obtain ⟨a7, rfl, hf⟩ := nn_of hf
    obtain ⟨hk_a7, hf⟩ := gt_of hf
    obtain ⟨x8, s9, hcs9, hf⟩ := bd_of hf
    have hts9 := c_Jx4a65c_size_8abf5 (l := l) (D := D) (cy := cy) (ka := ka) hcs9
    refine v_callV cb_0 hk_a7 (As := []) (rest := [.int l3]) hts9 yb_Jx4a65c_size_8abf5 kw_311 kw_312 kw_313 rfl ⟨Nat.le_of_ble_eq_true rfl, Nat.le_of_ble_eq_true rfl⟩ rfl (cat_len (Nat.le_of_ble_eq_true rfl)) dX11_isProven_22 ?_
    have hk_l0 := tk_ hts9.1 hk_l0
    show v_ l D cy ka cX11_isProven RX11 4 (some FieldType.boolean) "isProven" 4 91 (qf_ D cy σ0 z (some (.int r))) σ0 z _ 25 [(0, va_rf (some l0)), (3, .int l3)] [.int x8, .int l3]
    refine v_icmp_ge (tgt := 61) hf dX11_isProven_25 (by decide) (fun hq hf => ?_) (fun hq hf => ?_)
    · refine v_iconst (v := 0) dX11_isProven_61 (by decide) ?_
      exact v_zret hf rfl dX11_isProven_62
    · refine v_aload_n (x := (some l0)) dX11_isProven_28 rfl 0 rfl ?_
      refine v_getr cb_12 hk_l0 9 1209 rfl (by decide) rfl (lk_n kw_248 rfl) hf dX11_isProven_29 (fun r10 hf => ?_)
      refine v_aload_n (x := (some l0)) dX11_isProven_32 rfl 0 rfl ?_
      refine v_getr cb_12 hk_l0 2 1202 rfl (by decide) rfl (lk_n kw_241 rfl) hf dX11_isProven_33 (fun r11 hf => ?_)
      refine v_iload_n (x := l3) dX11_isProven_36 rfl 1 rfl ?_
      obtain ⟨a12, rfl, hf⟩ := nn_of hf
      obtain ⟨hk_a12, hf⟩ := gt_of hf
      obtain ⟨r13, s14, hcs14, hf⟩ := bd_of hf
      have hts14 := c_Jx4a65c_get_915e3 (l := l) (D := D) (cy := cy) (ka := ka) hcs14
      refine v_callV cb_0 hk_a12 (As := [.int l3]) (rest := [va_rf r10]) hts14 yb_Jx4a65c_get_915e3 kw_407 kw_408 kw_409 rfl ⟨Nat.le_of_ble_eq_true rfl, Nat.le_of_ble_eq_true rfl⟩ rfl (cat_len (Nat.le_of_ble_eq_true rfl)) dX11_isProven_37 ?_
      have hk_l0 := tk_ hts14.1 hk_l0
      show v_ l D cy ka cX11_isProven RX11 4 (some FieldType.boolean) "isProven" 4 91 (qf_ D cy σ0 z (some (.int r))) σ0 z _ 40 [(0, va_rf (some l0)), (3, .int l3)] [va_rf r13, va_rf r10]
      refine v_cast cb_10 11 rfl kw_1089 hf dX11_isProven_40 (fun hf => ?_)
      obtain ⟨a15, rfl, hf⟩ := nn_of hf
      obtain ⟨hk_a15, hf⟩ := gt_of hf
      refine v_getr cb_10 hk_a15 0 1000 rfl (by decide) rfl (lk_n kw_868 rfl) hf dX11_isProven_43 (fun r16 hf => ?_)
      refine v_iconst (v := 0) dX11_isProven_46 (by decide) ?_
      obtain ⟨a17, rfl, hf⟩ := nn_of hf
      obtain ⟨hk_a17, hf⟩ := gt_of hf
      obtain ⟨x18, s19, hcs19, hf⟩ := bd_of hf
      have hts19 := c_X4_run (l := l) (D := D) (cy := cy) (ka := ka) hcs19
      refine v_callV cb_5 hk_a17 (As := [va_rf r16, .int (0 : Int32)]) (rest := []) hts19 yb_X4_run kw_907 kw_908 kw_909 rfl ⟨Nat.le_of_ble_eq_true rfl, Nat.le_of_ble_eq_true rfl⟩ rfl (cat_len (Nat.le_of_ble_eq_true rfl)) dX11_isProven_47 ?_
      have hk_l0 := tk_ hts19.1 hk_l0
      show v_ l D cy ka cX11_isProven RX11 4 (some FieldType.boolean) "isProven" 4 91 (qf_ D cy σ0 z (some (.int r))) σ0 z _ 50 [(0, va_rf (some l0)), (3, .int l3)] [.int x18]
      refine v_if_eq (tgt := 55) hf dX11_isProven_50 (by decide) (fun hq hf => ?_) (fun hq hf => ?_)
      · obtain ⟨x20, ex20⟩ : ∃ y : Int32, y = l3 + 1 := ⟨_, rfl⟩
        rw [lt_e, ← ex20] at hf
        refine v_iinc (v := x20) [(3, .int x20), (0, va_rf (some l0))] dX11_isProven_55 1 rfl (by rw [ex20]; rfl) (by decide) rfl ?_
        refine v_goto (tgt := 17) dX11_isProven_58 (by decide) ?_
        refine v_sub [1, 0] (L2 := [(0, va_rf (some l0)), (3, .int x20)]) rfl ?_
        exact hrec_17 _ _ _ hf
      · refine v_iconst (v := 1) dX11_isProven_53 (by decide) ?_
        exact v_zret hf rfl dX11_isProven_54
/-- LivesAhead.isProven(LLivesAhead$Person;Ljava/util/ArrayList;)Z -/
def f_X11_isProven (σ : TH) (p0 : Nat) (p1 : Option Nat) (p2 : Option Nat) : Option (Int32 × TH) :=
  nn_ p2 fun a1 => gt_ (kd_ σ a1 = 1) <| bd_ (f_Jx4a65c_isEmpty_aae02 σ a1) fun x2 s3 => if x2 = 0 then (gt_ (kd_ s3 p0 = 13) <| bd_ (f_X11_fillProofs s3 p0 p1 (some a1)) fun x4 s5 => f_X11_isProven_b17 fu_ s5 p0 (0 : Int32)) else (some ((0 : Int32), s3))
set_option maxHeartbeats 4000000 in
set_option maxRecDepth 100000 in
theorem c_X11_isProven {l : Launch} {D : va_G} {cy : Nat → ClassId} {ka : Nat → Nat} {σ z : TH} {p0 : Nat} {p1 : Option Nat} {p2 : Option Nat} {r : Int32} (hf : f_X11_isProven σ p0 p1 p2 = some (r, z)) : ct_ l D cy ka yX11_isProven 4 91 [va_rf (some p0), va_rf p1, va_rf p2] σ (some (.int r)) z := by
  unfold f_X11_isProven at hf
  refine v_start (cc := cX11_isProven) (own := RX11) (maxL := 4) (ret := (some FieldType.boolean)) (nm := "isProven") (by decide +kernel) kw_1079 rfl rfl (by simp [lg_sl, va_rf_cat, cat_i, cat_l]) ?_
  refine v_eqL (L2 := [(0, va_rf (some p0)), (1, va_rf p1), (2, va_rf p2)]) (by simp [lv_args, va_rf_cat, cat_i, cat_l]) ?_
  refine v_aload_n (x := p2) dX11_isProven_0 rfl 2 rfl ?_
  obtain ⟨a1, rfl, hf⟩ := nn_of hf
  obtain ⟨hk_a1, hf⟩ := gt_of hf
  obtain ⟨x2, s3, hcs3, hf⟩ := bd_of hf
  have hts3 := c_Jx4a65c_isEmpty_aae02 (l := l) (D := D) (cy := cy) (ka := ka) hcs3
  refine v_callV cb_0 hk_a1 (As := []) (rest := []) hts3 yb_Jx4a65c_isEmpty_aae02 kw_1080 kw_1081 kw_1082 rfl ⟨Nat.le_of_ble_eq_true rfl, Nat.le_of_ble_eq_true rfl⟩ rfl (cat_len (Nat.le_of_ble_eq_true rfl)) dX11_isProven_1 ?_
  have hk_a1 := tk_ hts3.1 hk_a1
  show v_ l D cy ka cX11_isProven RX11 4 (some FieldType.boolean) "isProven" 4 91 (qf_ D cy σ z (some (.int r))) σ z _ 4 [(0, va_rf (some p0)), (1, va_rf p1), (2, va_rf (some a1))] [.int x2]
  refine v_if_eq (tgt := 9) hf dX11_isProven_4 (by decide) (fun hq hf => ?_) (fun hq hf => ?_)
  · refine v_aload_n (x := (some p0)) dX11_isProven_9 rfl 0 rfl ?_
    refine v_aload_n (x := p1) dX11_isProven_10 rfl 1 rfl ?_
    refine v_aload_n (x := (some a1)) dX11_isProven_11 rfl 2 rfl ?_
    obtain ⟨hk_p0, hf⟩ := gt_of hf
    obtain ⟨x4, s5, hcs5, hf⟩ := bd_of hf
    have hts5 := c_X11_fillProofs (l := l) (D := D) (cy := cy) (ka := ka) hcs5
    refine v_callV cb_12 hk_p0 (As := [va_rf p1, va_rf (some a1)]) (rest := []) hts5 yb_X11_fillProofs kw_1084 kw_1086 kp_62 rfl ⟨Nat.le_of_ble_eq_true rfl, Nat.le_of_ble_eq_true rfl⟩ rfl (cat_len (Nat.le_of_ble_eq_true rfl)) dX11_isProven_12 ?_
    have hk_a1 := tk_ hts5.1 hk_a1
    have hk_p0 := tk_ hts5.1 hk_p0
    show v_ l D cy ka cX11_isProven RX11 4 (some FieldType.boolean) "isProven" 4 91 (qf_ D cy σ z (some (.int r))) σ z _ 15 [(0, va_rf (some p0)), (1, va_rf p1), (2, va_rf (some a1))] []
    refine v_iconst (v := 0) dX11_isProven_15 (by decide) ?_
    refine v_istore_n [(3, .int (0 : Int32)), (0, va_rf (some p0)), (1, va_rf p1), (2, va_rf (some a1))] dX11_isProven_16 rfl (by decide) rfl ?_
    refine v_sub [1, 0] (L2 := [(0, va_rf (some p0)), (3, .int (0 : Int32))]) rfl ?_
    exact t_X11_isProven_b17  _ _ _ _ hf
  · refine v_iconst (v := 0) dX11_isProven_7 (by decide) ?_
    exact v_zret hf rfl dX11_isProven_8
theorem dX11_proofsOf_0 : decode cX11_proofsOf 0 = .ok (.new 7, 3) := by decide +kernel
theorem dX11_proofsOf_3 : decode cX11_proofsOf 3 = .ok (.dup, 1) := by decide +kernel
theorem dX11_proofsOf_4 : decode cX11_proofsOf 4 = .ok (.invokespecial 9, 3) := by decide +kernel
theorem dX11_proofsOf_7 : decode cX11_proofsOf 7 = .ok (.astore_n 2, 1) := by decide +kernel
theorem dX11_proofsOf_8 : decode cX11_proofsOf 8 = .ok (.iconst 0, 1) := by decide +kernel
theorem dX11_proofsOf_9 : decode cX11_proofsOf 9 = .ok (.istore_n 3, 1) := by decide +kernel
theorem dX11_proofsOf_10 : decode cX11_proofsOf 10 = .ok (.iload_n 3, 1) := by decide +kernel
theorem dX11_proofsOf_11 : decode cX11_proofsOf 11 = .ok (.aload_n 0, 1) := by decide +kernel
theorem dX11_proofsOf_12 : decode cX11_proofsOf 12 = .ok (.getfield 22, 3) := by decide +kernel
theorem dX11_proofsOf_15 : decode cX11_proofsOf 15 = .ok (.invokevirtual 101, 3) := by decide +kernel
theorem dX11_proofsOf_18 : decode cX11_proofsOf 18 = .ok (.if_icmp .ge 47, 3) := by decide +kernel
theorem dX11_proofsOf_21 : decode cX11_proofsOf 21 = .ok (.aload_n 0, 1) := by decide +kernel
theorem dX11_proofsOf_22 : decode cX11_proofsOf 22 = .ok (.getfield 22, 3) := by decide +kernel
theorem dX11_proofsOf_25 : decode cX11_proofsOf 25 = .ok (.iload_n 3, 1) := by decide +kernel
theorem dX11_proofsOf_26 : decode cX11_proofsOf 26 = .ok (.invokevirtual 238, 3) := by decide +kernel
theorem dX11_proofsOf_29 : decode cX11_proofsOf 29 = .ok (.checkcast 331, 3) := by decide +kernel
theorem dX11_proofsOf_32 : decode cX11_proofsOf 32 = .ok (.astore 4, 2) := by decide +kernel
theorem dX11_proofsOf_34 : decode cX11_proofsOf 34 = .ok (.aload 4, 2) := by decide +kernel
theorem dX11_proofsOf_36 : decode cX11_proofsOf 36 = .ok (.getfield 344, 3) := by decide +kernel
theorem dX11_proofsOf_39 : decode cX11_proofsOf 39 = .ok (.ifCond .ne 20, 3) := by decide +kernel
theorem dX11_proofsOf_42 : decode cX11_proofsOf 42 = .ok (.aload_n 0, 1) := by decide +kernel
theorem dX11_proofsOf_43 : decode cX11_proofsOf 43 = .ok (.aload 4, 2) := by decide +kernel
theorem dX11_proofsOf_45 : decode cX11_proofsOf 45 = .ok (.invokevirtual 341, 3) := by decide +kernel
theorem dX11_proofsOf_48 : decode cX11_proofsOf 48 = .ok (.iload_n 1, 1) := by decide +kernel
theorem dX11_proofsOf_49 : decode cX11_proofsOf 49 = .ok (.if_icmp .ne 10, 3) := by decide +kernel
theorem dX11_proofsOf_52 : decode cX11_proofsOf 52 = .ok (.aload_n 2, 1) := by decide +kernel
theorem dX11_proofsOf_53 : decode cX11_proofsOf 53 = .ok (.aload 4, 2) := by decide +kernel
theorem dX11_proofsOf_55 : decode cX11_proofsOf 55 = .ok (.invokevirtual 110, 3) := by decide +kernel
theorem dX11_proofsOf_58 : decode cX11_proofsOf 58 = .ok (.pop, 1) := by decide +kernel
theorem dX11_proofsOf_59 : decode cX11_proofsOf 59 = .ok (.iinc 3 1, 3) := by decide +kernel
theorem dX11_proofsOf_62 : decode cX11_proofsOf 62 = .ok (.goto (-52), 3) := by decide +kernel
theorem dX11_proofsOf_65 : decode cX11_proofsOf 65 = .ok (.aload_n 2, 1) := by decide +kernel
theorem dX11_proofsOf_66 : decode cX11_proofsOf 66 = .ok (.areturn, 1) := by decide +kernel
def f_X11_proofsOf_b59 (ka : Nat → Nat) (rec_10 : TH → Nat → Int32 → Option Nat → Int32 → Option (Option Nat × TH)) (σ : TH) (l0 : Nat) (l1 : Int32) (l2 : Option Nat) (l3 : Int32) : Option (Option Nat × TH) :=
  lt_ (l3 + 1) fun x20 => rec_10 σ l0 l1 l2 x20
set_option maxHeartbeats 4000000 in
set_option maxRecDepth 100000 in
theorem t_X11_proofsOf_b59 {l : Launch} {D : va_G} {cy : Nat → ClassId} {ka : Nat → Nat} {σ0 z : TH} {r : Option Nat} {rec_10 : TH → Nat → Int32 → Option Nat → Int32 → Option (Option Nat × TH)} (hrec_10 : ∀ (σ : TH) (l0 : Nat) (l1 : Int32) (l2 : Option Nat) (l3 : Int32), rec_10 σ l0 l1 l2 l3 = some (r, z) → v_ l D cy ka cX11_proofsOf RX11 5 (some (FieldType.object "java/util/ArrayList")) "proofsOf" 7 191 (qf_ D cy σ0 z (some (va_rf r))) σ0 z σ 10 [(0, va_rf (some l0)), (1, .int l1), (2, va_rf l2), (3, .int l3)] []) {σ : TH} {l0 : Nat} {l1 : Int32} {l2 : Option Nat} {l3 : Int32} (hf : f_X11_proofsOf_b59 ka rec_10 σ l0 l1 l2 l3 = some (r, z)) : v_ l D cy ka cX11_proofsOf RX11 5 (some (FieldType.object "java/util/ArrayList")) "proofsOf" 7 191 (qf_ D cy σ0 z (some (va_rf r))) σ0 z σ 59 [(0, va_rf (some l0)), (1, .int l1), (2, va_rf l2), (3, .int l3)] [] := by
  unfold f_X11_proofsOf_b59 at hf
  obtain ⟨x20, ex20⟩ : ∃ y : Int32, y = l3 + 1 := ⟨_, rfl⟩
  rw [lt_e, ← ex20] at hf
  refine v_iinc (v := x20) [(3, .int x20), (0, va_rf (some l0)), (1, .int l1), (2, va_rf l2)] dX11_proofsOf_59 3 rfl (by rw [ex20]; rfl) (by decide) (by simp [va_rf_cat, cat_i, cat_l]) ?_
  refine v_goto (tgt := 10) dX11_proofsOf_62 (by decide) ?_
  refine v_sub [1, 2, 3, 0] (L2 := [(0, va_rf (some l0)), (1, .int l1), (2, va_rf l2), (3, .int x20)]) rfl ?_
  exact hrec_10 _ _ _ _ _ hf
def f_X11_proofsOf_b10 (ka : Nat → Nat) : Nat → TH → Nat → Int32 → Option Nat → Int32 → Option (Option Nat × TH)
  | 0, _, _, _, _, _ => none
  | n + 1, σ, l0, l1, l2, l3 => gt_ (kd_ σ l0 = 13) <| lt_ (fr_ σ 1203 l0) fun r5 => nn_ r5 fun a6 => gt_ (kd_ σ a6 = 1) <| bd_ (f_Jx4a65c_size_8abf5 σ a6) fun x7 s8 => if x7 ≤ l3 then (some (l2, s8)) else (lt_ (fr_ s8 1203 l0) fun r9 => nn_ r9 fun a10 => gt_ (kd_ s8 a10 = 1) <| bd_ (f_Jx4a65c_get_915e3 s8 a10 l3) fun r11 s12 => gt_ (Option.elim r11 9 (kd_ s12) = 9) <| nn_ r11 fun a13 => gt_ (kd_ s12 a13 = 9) <| lt_ (fi_ s12 809 a13) fun x14 => if x14 = 0 then (bd_ (f_X11_personOf s12 l0 (some a13)) fun x15 s16 => if x15 = l1 then (nn_ l2 fun a17 => gt_ (kd_ s16 a17 = 1) <| bd_ (f_Jx4a65c_add_9ea2d ka s16 a17 (some a13)) fun x18 s19 => f_X11_proofsOf_b59 ka (f_X11_proofsOf_b10 ka n) s19 l0 l1 (some a17) l3) else (f_X11_proofsOf_b59 ka (f_X11_proofsOf_b10 ka n) s16 l0 l1 l2 l3)) else (f_X11_proofsOf_b59 ka (f_X11_proofsOf_b10 ka n) s12 l0 l1 l2 l3))
set_option maxHeartbeats 4000000 in
set_option maxRecDepth 100000 in
theorem t_X11_proofsOf_b10 {l : Launch} {D : va_G} {cy : Nat → ClassId} {ka : Nat → Nat} {σ0 z : TH} {r : Option Nat}  : ∀ (n : Nat) (σ : TH) (l0 : Nat) (l1 : Int32) (l2 : Option Nat) (l3 : Int32), f_X11_proofsOf_b10 ka n σ l0 l1 l2 l3 = some (r, z) → v_ l D cy ka cX11_proofsOf RX11 5 (some (FieldType.object "java/util/ArrayList")) "proofsOf" 7 191 (qf_ D cy σ0 z (some (va_rf r))) σ0 z σ 10 [(0, va_rf (some l0)), (1, .int l1), (2, va_rf l2), (3, .int l3)] [] := by
  intro n
  induction n with
  | zero => intro σ l0 l1 l2 l3 hf; unfold f_X11_proofsOf_b10 at hf; cases hf
  | succ n ih =>
    intro σ l0 l1 l2 l3 hf
    unfold f_X11_proofsOf_b10 at hf
    have hrec_10 := ih
    refine v_iload_n (x := l3) dX11_proofsOf_10 rfl 3 rfl ?_
    refine v_aload_n (x := (some l0)) dX11_proofsOf_11 rfl 0 rfl ?_
    obtain ⟨hk_l0, hf⟩ := gt_of hf
    refine v_getr cb_12 hk_l0 3 1203 rfl (by decide) rfl (lk_n kw_242 rfl) hf dX11_proofsOf_12 (fun r5 hf => ?_)
    obtain ⟨a6, rfl, hf⟩ := nn_of hf
    obtain ⟨hk_a6, hf⟩ := gt_of hf
    obtain ⟨x7, s8, hcs8, hf⟩ := bd_of hf
    have hts8 := c_Jx4a65c_size_8abf5 (l := l) (D := D) (cy := cy) (ka := ka) hcs8
    refine v_callV cb_0 hk_a6 (As := []) (rest := [.int l3]) hts8 yb_Jx4a65c_size_8abf5 kw_311 kw_312 kw_313 rfl ⟨Nat.le_of_ble_eq_true rfl, Nat.le_of_ble_eq_true rfl⟩ rfl (cat_len (Nat.le_of_ble_eq_true rfl)) dX11_proofsOf_15 ?_
    have hk_l0 := tk_ hts8.1 hk_l0
    show v_ l D cy ka cX11_proofsOf RX11 5 (some (FieldType.object "java/util/ArrayList")) "proofsOf" 7 191 (qf_ D cy σ0 z (some (va_rf r))) σ0 z _ 18 [(0, va_rf (some l0)), (1, .int l1), (2, va_rf l2), (3, .int l3)] [.int x7, .int l3]
    refine v_icmp_ge (tgt := 65) hf dX11_proofsOf_18 (by decide) (fun hq hf => ?_) (fun hq hf => ?_)
    · refine v_aload_n (x := l2) dX11_proofsOf_65 rfl 2 rfl ?_
      exact v_aret (x := l2) hf (Or.inl ⟨_, rfl⟩) dX11_proofsOf_66
    · refine v_aload_n (x := (some l0)) dX11_proofsOf_21 rfl 0 rfl ?_
      refine v_getr cb_12 hk_l0 3 1203 rfl (by decide) rfl (lk_n kw_242 rfl) hf dX11_proofsOf_22 (fun r9 hf => ?_)
      refine v_iload_n (x := l3) dX11_proofsOf_25 rfl 3 rfl ?_
      obtain ⟨a10, rfl, hf⟩ := nn_of hf
      obtain ⟨hk_a10, hf⟩ := gt_of hf
      obtain ⟨r11, s12, hcs12, hf⟩ := bd_of hf
      have hts12 := c_Jx4a65c_get_915e3 (l := l) (D := D) (cy := cy) (ka := ka) hcs12
      refine v_callV cb_0 hk_a10 (As := [.int l3]) (rest := []) hts12 yb_Jx4a65c_get_915e3 kw_407 kw_408 kw_409 rfl ⟨Nat.le_of_ble_eq_true rfl, Nat.le_of_ble_eq_true rfl⟩ rfl (cat_len (Nat.le_of_ble_eq_true rfl)) dX11_proofsOf_26 ?_
      have hk_l0 := tk_ hts12.1 hk_l0
      show v_ l D cy ka cX11_proofsOf RX11 5 (some (FieldType.object "java/util/ArrayList")) "proofsOf" 7 191 (qf_ D cy σ0 z (some (va_rf r))) σ0 z _ 29 [(0, va_rf (some l0)), (1, .int l1), (2, va_rf l2), (3, .int l3)] [va_rf r11]
      refine v_cast cb_8 9 rfl kw_996 hf dX11_proofsOf_29 (fun hf => ?_)
      refine v_astore [(4, va_rf r11), (0, va_rf (some l0)), (1, .int l1), (2, va_rf l2), (3, .int l3)] dX11_proofsOf_32 (by decide) rfl ?_
      refine v_aload (x := r11) dX11_proofsOf_34 0 rfl ?_
      obtain ⟨a13, rfl, hf⟩ := nn_of hf
      obtain ⟨hk_a13, hf⟩ := gt_of hf
      refine v_geti cb_8 hk_a13 9 809 rfl (by decide) rfl (lk_n kw_1016 rfl) hf dX11_proofsOf_36 (fun x14 hf => ?_)
      refine v_if_ne (tgt := 59) hf dX11_proofsOf_39 (by decide) (fun hq hf => ?_) (fun hq hf => ?_)
      · refine v_aload_n (x := (some l0)) dX11_proofsOf_42 rfl 1 rfl ?_
        refine v_aload (x := (some a13)) dX11_proofsOf_43 0 rfl ?_
        obtain ⟨x15, s16, hcs16, hf⟩ := bd_of hf
        have hts16 := c_X11_personOf (l := l) (D := D) (cy := cy) (ka := ka) hcs16
        refine v_callV cb_12 hk_l0 (As := [va_rf (some a13)]) (rest := []) hts16 yb_X11_personOf kw_1056 kw_1058 kp_59 rfl ⟨Nat.le_of_ble_eq_true rfl, Nat.le_of_ble_eq_true rfl⟩ rfl (cat_len (Nat.le_of_ble_eq_true rfl)) dX11_proofsOf_45 ?_
        have hk_l0 := tk_ hts16.1 hk_l0
        have hk_a13 := tk_ hts16.1 hk_a13
        show v_ l D cy ka cX11_proofsOf RX11 5 (some (FieldType.object "java/util/ArrayList")) "proofsOf" 7 191 (qf_ D cy σ0 z (some (va_rf r))) σ0 z _ 48 [(4, va_rf (some a13)), (0, va_rf (some l0)), (1, .int l1), (2, va_rf l2), (3, .int l3)] [.int x15]
        refine v_iload_n (x := l1) dX11_proofsOf_48 rfl 2 rfl ?_
        refine v_icmp_ne (tgt := 59) hf dX11_proofsOf_49 (by decide) (fun hq hf => ?_) (fun hq hf => ?_)
        · refine v_aload_n (x := l2) dX11_proofsOf_52 rfl 3 rfl ?_
          refine v_aload (x := (some a13)) dX11_proofsOf_53 0 rfl ?_
          obtain ⟨a17, rfl, hf⟩ := nn_of hf
          obtain ⟨hk_a17, hf⟩ := gt_of hf
          obtain ⟨x18, s19, hcs19, hf⟩ := bd_of hf
          have hts19 := c_Jx4a65c_add_9ea2d (l := l) (D := D) (cy := cy) (ka := ka) hcs19
          refine v_callV cb_0 hk_a17 (As := [va_rf (some a13)]) (rest := []) hts19 yb_Jx4a65c_add_9ea2d kw_330 kw_331 kw_332 rfl ⟨Nat.le_of_ble_eq_true rfl, Nat.le_of_ble_eq_true rfl⟩ rfl (cat_len (Nat.le_of_ble_eq_true rfl)) dX11_proofsOf_55 ?_
          have hk_l0 := tk_ hts19.1 hk_l0
          have hk_a13 := tk_ hts19.1 hk_a13
          have hk_a17 := tk_ hts19.1 hk_a17
          show v_ l D cy ka cX11_proofsOf RX11 5 (some (FieldType.object "java/util/ArrayList")) "proofsOf" 7 191 (qf_ D cy σ0 z (some (va_rf r))) σ0 z _ 58 [(4, va_rf (some a13)), (0, va_rf (some l0)), (1, .int l1), (2, va_rf (some a17)), (3, .int l3)] [.int x18]
          refine v_pop dX11_proofsOf_58 rfl ?_
          refine v_sub [1, 2, 3, 4] (L2 := [(0, va_rf (some l0)), (1, .int l1), (2, va_rf (some a17)), (3, .int l3)]) rfl ?_
          exact t_X11_proofsOf_b59 hrec_10 hf
        · refine v_sub [1, 2, 3, 4] (L2 := [(0, va_rf (some l0)), (1, .int l1), (2, va_rf l2), (3, .int l3)]) rfl ?_
          exact t_X11_proofsOf_b59 hrec_10 hf
      · refine v_sub [1, 2, 3, 4] (L2 := [(0, va_rf (some l0)), (1, .int l1), (2, va_rf l2), (3, .int l3)]) rfl ?_
        exact t_X11_proofsOf_b59 hrec_10 hf
/-- LivesAhead.proofsOf(I)Ljava/util/ArrayList; -/
def f_X11_proofsOf (ka : Nat → Nat) (σ : TH) (p0 : Nat) (p1 : Int32) : Option (Option Nat × TH) :=
  gt_ (kd_ σ (nx_ σ) = 0) <| lt_ (nx_ σ) fun a1 => lt_ (nw_ σ 1 0 3) fun s2 => bd_ (f_Jx4a65c_init_da8c8 ka s2 a1) fun x3 s4 => f_X11_proofsOf_b10 ka fu_ s4 p0 p1 (some a1) (0 : Int32)
set_option maxHeartbeats 4000000 in
set_option maxRecDepth 100000 in
theorem c_X11_proofsOf {l : Launch} {D : va_G} {cy : Nat → ClassId} {ka : Nat → Nat} {σ z : TH} {p0 : Nat} {p1 : Int32} {r : Option Nat} (hf : f_X11_proofsOf ka σ p0 p1 = some (r, z)) : ct_ l D cy ka yX11_proofsOf 7 191 [va_rf (some p0), .int p1] σ (some (va_rf r)) z := by
  unfold f_X11_proofsOf at hf
  refine v_start (cc := cX11_proofsOf) (own := RX11) (maxL := 5) (ret := (some (FieldType.object "java/util/ArrayList"))) (nm := "proofsOf") (by decide +kernel) kw_1075 rfl rfl (by simp [lg_sl, va_rf_cat, cat_i, cat_l]) ?_
  refine v_eqL (L2 := [(0, va_rf (some p0)), (1, .int p1)]) (by simp [lv_args, va_rf_cat, cat_i, cat_l]) ?_
  refine v_new2 cb_0 df_0 kw_42 kw_43 kw_4 1 rfl hf dX11_proofsOf_0 (fun a1 s2 hts2 hk_a1 hf => ?_)
  refine v_dup dX11_proofsOf_3 (va_rf_cat _) ?_
  obtain ⟨x3, s4, hcs4, hf⟩ := bd_of hf
  have hts4 := c_Jx4a65c_init_da8c8 (l := l) (D := D) (cy := cy) (ka := ka) hcs4
  refine v_callI (As := []) (rest := [va_rf (some a1)]) hts4 yb_Jx4a65c_init_da8c8 kw_44 kw_45 rfl rfl ⟨Nat.le_of_ble_eq_true rfl, Nat.le_of_ble_eq_true rfl⟩ rfl (cat_len (Nat.le_of_ble_eq_true rfl)) dX11_proofsOf_4 ?_
  have hk_a1 := tk_ hts4.1 hk_a1
  show v_ l D cy ka cX11_proofsOf RX11 5 (some (FieldType.object "java/util/ArrayList")) "proofsOf" 7 191 (qf_ D cy σ z (some (va_rf r))) σ z _ 7 [(0, va_rf (some p0)), (1, .int p1)] [va_rf (some a1)]
  refine v_astore_n [(2, va_rf (some a1)), (0, va_rf (some p0)), (1, .int p1)] dX11_proofsOf_7 rfl (by decide) rfl ?_
  refine v_iconst (v := 0) dX11_proofsOf_8 (by decide) ?_
  refine v_istore_n [(3, .int (0 : Int32)), (2, va_rf (some a1)), (0, va_rf (some p0)), (1, .int p1)] dX11_proofsOf_9 rfl (by decide) rfl ?_
  refine v_sub [2, 3, 1, 0] (L2 := [(0, va_rf (some p0)), (1, .int p1), (2, va_rf (some a1)), (3, .int (0 : Int32))]) rfl ?_
  exact t_X11_proofsOf_b10  _ _ _ _ _ _ hf
theorem dX11_may_0 : decode cX11_may 0 = .ok (.aload_n 0, 1) := by decide +kernel
theorem dX11_may_1 : decode cX11_may 1 = .ok (.iload_n 1, 1) := by decide +kernel
theorem dX11_may_2 : decode cX11_may 2 = .ok (.invokevirtual 149, 3) := by decide +kernel
theorem dX11_may_5 : decode cX11_may 5 = .ok (.astore_n 2, 1) := by decide +kernel
theorem dX11_may_6 : decode cX11_may 6 = .ok (.aload_n 2, 1) := by decide +kernel
theorem dX11_may_7 : decode cX11_may 7 = .ok (.ifnull 10, 3) := by decide +kernel
theorem dX11_may_10 : decode cX11_may 10 = .ok (.aload_n 2, 1) := by decide +kernel
theorem dX11_may_11 : decode cX11_may 11 = .ok (.invokevirtual 166, 3) := by decide +kernel
theorem dX11_may_14 : decode cX11_may 14 = .ok (.ifCond .eq 9, 3) := by decide +kernel
theorem dX11_may_17 : decode cX11_may 17 = .ok (.aload_n 0, 1) := by decide +kernel
theorem dX11_may_18 : decode cX11_may 18 = .ok (.iconst 1, 1) := by decide +kernel
theorem dX11_may_19 : decode cX11_may 19 = .ok (.invokevirtual 97, 3) := by decide +kernel
theorem dX11_may_22 : decode cX11_may 22 = .ok (.ireturn, 1) := by decide +kernel
theorem dX11_may_23 : decode cX11_may 23 = .ok (.aload_n 0, 1) := by decide +kernel
theorem dX11_may_24 : decode cX11_may 24 = .ok (.aload_n 0, 1) := by decide +kernel
theorem dX11_may_25 : decode cX11_may 25 = .ok (.aload_n 2, 1) := by decide +kernel
theorem dX11_may_26 : decode cX11_may 26 = .ok (.aload_n 0, 1) := by decide +kernel
theorem dX11_may_27 : decode cX11_may 27 = .ok (.iload_n 1, 1) := by decide +kernel
theorem dX11_may_28 : decode cX11_may 28 = .ok (.invokevirtual 347, 3) := by decide +kernel
theorem dX11_may_31 : decode cX11_may 31 = .ok (.invokevirtual 351, 3) := by decide +kernel
theorem dX11_may_34 : decode cX11_may 34 = .ok (.invokestatic 169, 3) := by decide +kernel
theorem dX11_may_37 : decode cX11_may 37 = .ok (.invokevirtual 114, 3) := by decide +kernel
theorem dX11_may_40 : decode cX11_may 40 = .ok (.ireturn, 1) := by decide +kernel
def f_X11_may_b17 (ka : Nat → Nat) (σ : TH) (l0 : Nat) : Option (Int32 × TH) :=
  gt_ (kd_ σ l0 = 13) <| bd_ (f_X11_refused σ l0 (1 : Int32)) fun x4 s5 => some (x4, s5)
set_option maxHeartbeats 4000000 in
set_option maxRecDepth 100000 in
theorem t_X11_may_b17 {l : Launch} {D : va_G} {cy : Nat → ClassId} {ka : Nat → Nat} {σ0 z : TH} {r : Int32}  {σ : TH} {l0 : Nat} (hf : f_X11_may_b17 ka σ l0 = some (r, z)) : v_ l D cy ka cX11_may RX11 3 (some FieldType.int) "may" 8 215 (qf_ D cy σ0 z (some (.int r))) σ0 z σ 17 [(0, va_rf (some l0))] [] := by
  unfold f_X11_may_b17 at hf
  refine v_aload_n (x := (some l0)) dX11_may_17 rfl 0 rfl ?_
  refine v_iconst (v := 1) dX11_may_18 (by decide) ?_
  obtain ⟨hk_l0, hf⟩ := gt_of hf
  obtain ⟨x4, s5, hcs5, hf⟩ := bd_of hf
  have hts5 := c_X11_refused (l := l) (D := D) (cy := cy) (ka := ka) hcs5
  refine v_callV cb_12 hk_l0 (As := [.int (1 : Int32)]) (rest := []) hts5 yb_X11_refused kw_307 kw_309 kp_0 rfl ⟨Nat.le_of_ble_eq_true rfl, Nat.le_of_ble_eq_true rfl⟩ rfl (cat_len (Nat.le_of_ble_eq_true rfl)) dX11_may_19 ?_
  have hk_l0 := tk_ hts5.1 hk_l0
  show v_ l D cy ka cX11_may RX11 3 (some FieldType.int) "may" 8 215 (qf_ D cy σ0 z (some (.int r))) σ0 z _ 22 [(0, va_rf (some l0))] [.int x4]
  exact v_iret hf dX11_may_22
/-- LivesAhead.may(I)I -/
def f_X11_may (ka : Nat → Nat) (σ : TH) (p0 : Nat) (p1 : Int32) : Option (Int32 × TH) :=
  gt_ (kd_ σ p0 = 13) <| bd_ (f_X11_personAt σ p0 p1) fun r1 s2 => oc_ r1 (f_X11_may_b17 ka s2 p0) (fun a3 => gt_ (kd_ s2 a3 = 4) <| bd_ (f_X2_isDead s2 a3) fun x6 s7 => if x6 = 0 then (bd_ (f_X11_proofsOf ka s7 p0 p1) fun r8 s9 => bd_ (f_X11_isProven s9 p0 (some a3) r8) fun x10 s11 => bd_ (f_X11_asNumber s11 x10) fun x12 s13 => bd_ (f_X11_granted s13 p0 x12) fun x14 s15 => some (x14, s15)) else (f_X11_may_b17 ka s7 p0))
set_option maxHeartbeats 4000000 in
set_option maxRecDepth 100000 in
theorem c_X11_may {l : Launch} {D : va_G} {cy : Nat → ClassId} {ka : Nat → Nat} {σ z : TH} {p0 : Nat} {p1 : Int32} {r : Int32} (hf : f_X11_may ka σ p0 p1 = some (r, z)) : ct_ l D cy ka yX11_may 8 215 [va_rf (some p0), .int p1] σ (some (.int r)) z := by
  unfold f_X11_may at hf
  refine v_start (cc := cX11_may) (own := RX11) (maxL := 3) (ret := (some FieldType.int)) (nm := "may") (by decide +kernel) kw_1071 rfl rfl (by simp [lg_sl, va_rf_cat, cat_i, cat_l]) ?_
  refine v_eqL (L2 := [(0, va_rf (some p0)), (1, .int p1)]) (by simp [lv_args, va_rf_cat, cat_i, cat_l]) ?_
  refine v_aload_n (x := (some p0)) dX11_may_0 rfl 0 rfl ?_
  refine v_iload_n (x := p1) dX11_may_1 rfl 1 rfl ?_
  obtain ⟨hk_p0, hf⟩ := gt_of hf
  obtain ⟨r1, s2, hcs2, hf⟩ := bd_of hf
  have hts2 := c_X11_personAt (l := l) (D := D) (cy := cy) (ka := ka) hcs2
  refine v_callV cb_12 hk_p0 (As := [.int p1]) (rest := []) hts2 yb_X11_personAt kw_526 kw_528 kp_11 rfl ⟨Nat.le_of_ble_eq_true rfl, Nat.le_of_ble_eq_true rfl⟩ rfl (cat_len (Nat.le_of_ble_eq_true rfl)) dX11_may_2 ?_
  have hk_p0 := tk_ hts2.1 hk_p0
  show v_ l D cy ka cX11_may RX11 3 (some FieldType.int) "may" 8 215 (qf_ D cy σ z (some (.int r))) σ z _ 5 [(0, va_rf (some p0)), (1, .int p1)] [va_rf r1]
  refine v_astore_n [(2, va_rf r1), (0, va_rf (some p0)), (1, .int p1)] dX11_may_5 rfl (by decide) rfl ?_
  refine v_aload_n (x := r1) dX11_may_6 rfl 0 rfl ?_
  refine v_ifnull2 (tgt := 17) hf dX11_may_7 (by decide) (fun e9 hf9 => ?_) (fun a3 e9 hf9 => ?_)
  · subst e9
    replace hf := hf9
    clear hf9
    refine v_sub [1] (L2 := [(0, va_rf (some p0))]) rfl ?_
    exact t_X11_may_b17  hf
  · subst e9
    replace hf := hf9
    clear hf9
    refine v_aload_n (x := (some a3)) dX11_may_10 rfl 0 rfl ?_
    obtain ⟨hk_a3, hf⟩ := gt_of hf
    obtain ⟨x6, s7, hcs7, hf⟩ := bd_of hf
    have hts7 := c_X2_isDead (l := l) (D := D) (cy := cy) (ka := ka) hcs7
    refine v_callV cb_3 hk_a3 (As := []) (rest := []) hts7 yb_X2_isDead kw_534 kw_535 kw_536 rfl ⟨Nat.le_of_ble_eq_true rfl, Nat.le_of_ble_eq_true rfl⟩ rfl (cat_len (Nat.le_of_ble_eq_true rfl)) dX11_may_11 ?_
    have hk_p0 := tk_ hts7.1 hk_p0
    have hk_a3 := tk_ hts7.1 hk_a3
    show v_ l D cy ka cX11_may RX11 3 (some FieldType.int) "may" 8 215 (qf_ D cy σ z (some (.int r))) σ z _ 14 [(2, va_rf (some a3)), (0, va_rf (some p0)), (1, .int p1)] [.int x6]
    refine v_if_eq (tgt := 23) hf dX11_may_14 (by decide) (fun hq hf => ?_) (fun hq hf => ?_)
    · refine v_aload_n (x := (some p0)) dX11_may_23 rfl 1 rfl ?_
      refine v_aload_n (x := (some p0)) dX11_may_24 rfl 1 rfl ?_
      refine v_aload_n (x := (some a3)) dX11_may_25 rfl 0 rfl ?_
      refine v_aload_n (x := (some p0)) dX11_may_26 rfl 1 rfl ?_
      refine v_iload_n (x := p1) dX11_may_27 rfl 2 rfl ?_
      obtain ⟨r8, s9, hcs9, hf⟩ := bd_of hf
      have hts9 := c_X11_proofsOf (l := l) (D := D) (cy := cy) (ka := ka) hcs9
      refine v_callV cb_12 hk_p0 (As := [.int p1]) (rest := [va_rf (some a3), va_rf (some p0), va_rf (some p0)]) hts9 yb_X11_proofsOf kw_1072 kw_1074 kp_60 rfl ⟨Nat.le_of_ble_eq_true rfl, Nat.le_of_ble_eq_true rfl⟩ rfl (cat_len (Nat.le_of_ble_eq_true rfl)) dX11_may_28 ?_
      have hk_p0 := tk_ hts9.1 hk_p0
      have hk_a3 := tk_ hts9.1 hk_a3
      show v_ l D cy ka cX11_may RX11 3 (some FieldType.int) "may" 8 215 (qf_ D cy σ z (some (.int r))) σ z _ 31 [(2, va_rf (some a3)), (0, va_rf (some p0)), (1, .int p1)] [va_rf r8, va_rf (some a3), va_rf (some p0), va_rf (some p0)]
      obtain ⟨x10, s11, hcs11, hf⟩ := bd_of hf
      have hts11 := c_X11_isProven (l := l) (D := D) (cy := cy) (ka := ka) hcs11
      refine v_callV cb_12 hk_p0 (As := [va_rf (some a3), va_rf r8]) (rest := [va_rf (some p0)]) hts11 yb_X11_isProven kw_1076 kw_1078 kp_61 rfl ⟨Nat.le_of_ble_eq_true rfl, Nat.le_of_ble_eq_true rfl⟩ rfl (cat_len (Nat.le_of_ble_eq_true rfl)) dX11_may_31 ?_
      have hk_p0 := tk_ hts11.1 hk_p0
      have hk_a3 := tk_ hts11.1 hk_a3
      show v_ l D cy ka cX11_may RX11 3 (some FieldType.int) "may" 8 215 (qf_ D cy σ z (some (.int r))) σ z _ 34 [(2, va_rf (some a3)), (0, va_rf (some p0)), (1, .int p1)] [.int x10, va_rf (some p0)]
      obtain ⟨x12, s13, hcs13, hf⟩ := bd_of hf
      have hts13 := c_X11_asNumber (l := l) (D := D) (cy := cy) (ka := ka) hcs13
      refine v_callS (As := [.int x10]) (rest := [va_rf (some p0)]) hts13 yb_X11_asNumber kw_442 kw_443 rfl ⟨Nat.le_of_ble_eq_true rfl, Nat.le_of_ble_eq_true rfl⟩ rfl (cat_len (Nat.le_of_ble_eq_true rfl)) dX11_may_34 ?_
      have hk_p0 := tk_ hts13.1 hk_p0
      have hk_a3 := tk_ hts13.1 hk_a3
      show v_ l D cy ka cX11_may RX11 3 (some FieldType.int) "may" 8 215 (qf_ D cy σ z (some (.int r))) σ z _ 37 [(2, va_rf (some a3)), (0, va_rf (some p0)), (1, .int p1)] [.int x12, va_rf (some p0)]
      obtain ⟨x14, s15, hcs15, hf⟩ := bd_of hf
      have hts15 := c_X11_granted (l := l) (D := D) (cy := cy) (ka := ka) hcs15
      refine v_callV cb_12 hk_p0 (As := [.int x12]) (rest := []) hts15 yb_X11_granted kw_395 kw_397 kp_4 rfl ⟨Nat.le_of_ble_eq_true rfl, Nat.le_of_ble_eq_true rfl⟩ rfl (cat_len (Nat.le_of_ble_eq_true rfl)) dX11_may_37 ?_
      have hk_p0 := tk_ hts15.1 hk_p0
      have hk_a3 := tk_ hts15.1 hk_a3
      show v_ l D cy ka cX11_may RX11 3 (some FieldType.int) "may" 8 215 (qf_ D cy σ z (some (.int r))) σ z _ 40 [(2, va_rf (some a3)), (0, va_rf (some p0)), (1, .int p1)] [.int x14]
      exact v_iret hf dX11_may_40
    · refine v_sub [1] (L2 := [(0, va_rf (some p0))]) rfl ?_
      exact t_X11_may_b17  hf
theorem dX6_readSign_0 : decode cX6_readSign 0 = .ok (.iload_n 1, 1) := by decide +kernel
theorem dX6_readSign_1 : decode cX6_readSign 1 = .ok (.lookupswitch 108 #[(32, 75), (43, 78), (45, 78), (58, 101), (60, 86), (61, 86), (62, 86), (125, 94)], 75) := by decide +kernel
theorem dX6_readSign_76 : decode cX6_readSign 76 = .ok (.goto 42, 3) := by decide +kernel
theorem dX6_readSign_79 : decode cX6_readSign 79 = .ok (.aload_n 0, 1) := by decide +kernel
theorem dX6_readSign_80 : decode cX6_readSign 80 = .ok (.iload_n 1, 1) := by decide +kernel
theorem dX6_readSign_81 : decode cX6_readSign 81 = .ok (.invokevirtual 226, 3) := by decide +kernel
theorem dX6_readSign_84 : decode cX6_readSign 84 = .ok (.goto 34, 3) := by decide +kernel
theorem dX6_readSign_87 : decode cX6_readSign 87 = .ok (.aload_n 0, 1) := by decide +kernel
theorem dX6_readSign_88 : decode cX6_readSign 88 = .ok (.iload_n 1, 1) := by decide +kernel
theorem dX6_readSign_89 : decode cX6_readSign 89 = .ok (.invokevirtual 229, 3) := by decide +kernel
theorem dX6_readSign_92 : decode cX6_readSign 92 = .ok (.goto 26, 3) := by decide +kernel
theorem dX6_readSign_95 : decode cX6_readSign 95 = .ok (.aload_n 0, 1) := by decide +kernel
theorem dX6_readSign_96 : decode cX6_readSign 96 = .ok (.invokevirtual 232, 3) := by decide +kernel
theorem dX6_readSign_99 : decode cX6_readSign 99 = .ok (.goto 19, 3) := by decide +kernel
theorem dX6_readSign_102 : decode cX6_readSign 102 = .ok (.aload_n 0, 1) := by decide +kernel
theorem dX6_readSign_103 : decode cX6_readSign 103 = .ok (.invokevirtual 235, 3) := by decide +kernel
theorem dX6_readSign_106 : decode cX6_readSign 106 = .ok (.goto 12, 3) := by decide +kernel
theorem dX6_readSign_109 : decode cX6_readSign 109 = .ok (.aload_n 0, 1) := by decide +kernel
theorem dX6_readSign_110 : decode cX6_readSign 110 = .ok (.iconst 1, 1) := by decide +kernel
theorem dX6_readSign_111 : decode cX6_readSign 111 = .ok (.aload_n 0, 1) := by decide +kernel
theorem dX6_readSign_112 : decode cX6_readSign 112 = .ok (.getfield 42, 3) := by decide +kernel
theorem dX6_readSign_115 : decode cX6_readSign 115 = .ok (.invokevirtual 121, 3) := by decide +kernel
theorem dX6_readSign_118 : decode cX6_readSign 118 = .ok (.aload_n 0, 1) := by decide +kernel
theorem dX6_readSign_119 : decode cX6_readSign 119 = .ok (.dup, 1) := by decide +kernel
theorem dX6_readSign_120 : decode cX6_readSign 120 = .ok (.getfield 42, 3) := by decide +kernel
theorem dX6_readSign_123 : decode cX6_readSign 123 = .ok (.iconst 1, 1) := by decide +kernel
theorem dX6_readSign_124 : decode cX6_readSign 124 = .ok (.iadd, 1) := by decide +kernel
theorem dX6_readSign_125 : decode cX6_readSign 125 = .ok (.putfield 42, 3) := by decide +kernel
theorem dX6_readSign_128 : decode cX6_readSign 128 = .ok (.return_, 1) := by decide +kernel
def f_X6_readSign_b118 (σ : TH) (l0 : Nat) : Option (Unit × TH) :=
  gt_ (kd_ σ l0 = 8) <| lt_ (fi_ σ 709 l0) fun x1 => lt_ (si_ σ 709 l0 (x1 + (1 : Int32))) fun s2 => some ((), s2)
set_option maxHeartbeats 4000000 in
set_option maxRecDepth 100000 in
theorem t_X6_readSign_b118 {l : Launch} {D : va_G} {cy : Nat → ClassId} {ka : Nat → Nat} {σ0 z : TH} {r : Unit}  {σ : TH} {l0 : Nat} (hf : f_X6_readSign_b118 σ l0 = some (r, z)) : v_ l D cy ka cX6_readSign RX6 2 none "readSign" 3 63 (qf_ D cy σ0 z none) σ0 z σ 118 [(0, va_rf (some l0))] [] := by
  unfold f_X6_readSign_b118 at hf
  refine v_aload_n (x := (some l0)) dX6_readSign_118 rfl 0 rfl ?_
  refine v_dup dX6_readSign_119 (va_rf_cat _) ?_
  obtain ⟨hk_l0, hf⟩ := gt_of hf
  refine v_geti cb_7 hk_l0 9 709 rfl (by decide) rfl (lk_n kw_86 rfl) hf dX6_readSign_120 (fun x1 hf => ?_)
  refine v_iconst (v := 1) dX6_readSign_123 (by decide) ?_
  refine v_iadd dX6_readSign_124 ?_
  refine v_puti2 cb_7 hk_l0 9 709 rfl (by decide) rfl (lk_n kw_86 rfl) (Or.inl rfl) rfl rfl hf dX6_readSign_125 (fun s2 hts2 hf => ?_)
  have hk_l0 := tk_ hts2 hk_l0
  exact v_vret hf dX6_readSign_128
def f_X6_readSign_b79 (σ : TH) (l0 : Nat) (l1 : Int32) : Option (Unit × TH) :=
  gt_ (kd_ σ l0 = 8) <| bd_ (f_X6_goOnAdding σ l0 l1) fun x3 s4 => f_X6_readSign_b118 s4 l0
set_option maxHeartbeats 4000000 in
set_option maxRecDepth 100000 in
theorem t_X6_readSign_b79 {l : Launch} {D : va_G} {cy : Nat → ClassId} {ka : Nat → Nat} {σ0 z : TH} {r : Unit}  {σ : TH} {l0 : Nat} {l1 : Int32} (hf : f_X6_readSign_b79 σ l0 l1 = some (r, z)) : v_ l D cy ka cX6_readSign RX6 2 none "readSign" 3 63 (qf_ D cy σ0 z none) σ0 z σ 79 [(0, va_rf (some l0)), (1, .int l1)] [] := by
  unfold f_X6_readSign_b79 at hf
  refine v_aload_n (x := (some l0)) dX6_readSign_79 rfl 0 rfl ?_
  refine v_iload_n (x := l1) dX6_readSign_80 rfl 1 rfl ?_
  obtain ⟨hk_l0, hf⟩ := gt_of hf
  obtain ⟨x3, s4, hcs4, hf⟩ := bd_of hf
  have hts4 := c_X6_goOnAdding (l := l) (D := D) (cy := cy) (ka := ka) hcs4
  refine v_callV cb_7 hk_l0 (As := [.int l1]) (rest := []) hts4 yb_X6_goOnAdding kw_831 kw_833 kp_41 rfl ⟨Nat.le_of_ble_eq_true rfl, Nat.le_of_ble_eq_true rfl⟩ rfl (cat_len (Nat.le_of_ble_eq_true rfl)) dX6_readSign_81 ?_
  have hk_l0 := tk_ hts4.1 hk_l0
  show v_ l D cy ka cX6_readSign RX6 2 none "readSign" 3 63 (qf_ D cy σ0 z none) σ0 z _ 84 [(0, va_rf (some l0)), (1, .int l1)] []
  refine v_goto (tgt := 118) dX6_readSign_84 (by decide) ?_
  refine v_sub [0] (L2 := [(0, va_rf (some l0))]) rfl ?_
  exact t_X6_readSign_b118  hf
def f_X6_readSign_b87 (σ : TH) (l0 : Nat) (l1 : Int32) : Option (Unit × TH) :=
  gt_ (kd_ σ l0 = 8) <| bd_ (f_X6_relate σ l0 l1) fun x7 s8 => f_X6_readSign_b118 s8 l0
set_option maxHeartbeats 4000000 in
set_option maxRecDepth 100000 in
theorem t_X6_readSign_b87 {l : Launch} {D : va_G} {cy : Nat → ClassId} {ka : Nat → Nat} {σ0 z : TH} {r : Unit}  {σ : TH} {l0 : Nat} {l1 : Int32} (hf : f_X6_readSign_b87 σ l0 l1 = some (r, z)) : v_ l D cy ka cX6_readSign RX6 2 none "readSign" 3 63 (qf_ D cy σ0 z none) σ0 z σ 87 [(0, va_rf (some l0)), (1, .int l1)] [] := by
  unfold f_X6_readSign_b87 at hf
  refine v_aload_n (x := (some l0)) dX6_readSign_87 rfl 0 rfl ?_
  refine v_iload_n (x := l1) dX6_readSign_88 rfl 1 rfl ?_
  obtain ⟨hk_l0, hf⟩ := gt_of hf
  obtain ⟨x7, s8, hcs8, hf⟩ := bd_of hf
  have hts8 := c_X6_relate (l := l) (D := D) (cy := cy) (ka := ka) hcs8
  refine v_callV cb_7 hk_l0 (As := [.int l1]) (rest := []) hts8 yb_X6_relate kw_835 kw_837 kp_42 rfl ⟨Nat.le_of_ble_eq_true rfl, Nat.le_of_ble_eq_true rfl⟩ rfl (cat_len (Nat.le_of_ble_eq_true rfl)) dX6_readSign_89 ?_
  have hk_l0 := tk_ hts8.1 hk_l0
  show v_ l D cy ka cX6_readSign RX6 2 none "readSign" 3 63 (qf_ D cy σ0 z none) σ0 z _ 92 [(0, va_rf (some l0)), (1, .int l1)] []
  refine v_goto (tgt := 118) dX6_readSign_92 (by decide) ?_
  refine v_sub [0] (L2 := [(0, va_rf (some l0))]) rfl ?_
  exact t_X6_readSign_b118  hf
/-- LivesAhead$Reader.readSign(I)V -/
def f_X6_readSign (σ : TH) (p0 : Nat) (p1 : Int32) : Option (Unit × TH) :=
  if p1 = (32 : Int32) then (f_X6_readSign_b118 σ p0) else if p1 = (43 : Int32) then (f_X6_readSign_b79 σ p0 p1) else if p1 = (45 : Int32) then (f_X6_readSign_b79 σ p0 p1) else if p1 = (58 : Int32) then (gt_ (kd_ σ p0 = 8) <| bd_ (f_X6_enterIf σ p0) fun x5 s6 => f_X6_readSign_b118 s6 p0) else if p1 = (60 : Int32) then (f_X6_readSign_b87 σ p0 p1) else if p1 = (61 : Int32) then (f_X6_readSign_b87 σ p0 p1) else if p1 = (62 : Int32) then (f_X6_readSign_b87 σ p0 p1) else if p1 = (125 : Int32) then (gt_ (kd_ σ p0 = 8) <| bd_ (f_X6_closeSum σ p0) fun x9 s10 => f_X6_readSign_b118 s10 p0) else (gt_ (kd_ σ p0 = 8) <| lt_ (fi_ σ 709 p0) fun x11 => bd_ (f_X6_fail σ p0 (1 : Int32) x11) fun x12 s13 => f_X6_readSign_b118 s13 p0)
set_option maxHeartbeats 4000000 in
set_option maxRecDepth 100000 in
theorem c_X6_readSign {l : Launch} {D : va_G} {cy : Nat → ClassId} {ka : Nat → Nat} {σ z : TH} {p0 : Nat} {p1 : Int32} {r : Unit} (hf : f_X6_readSign σ p0 p1 = some (r, z)) : ct_ l D cy ka yX6_readSign 3 63 [va_rf (some p0), .int p1] σ none z := by
  unfold f_X6_readSign at hf
  refine v_start (cc := cX6_readSign) (own := RX6) (maxL := 2) (ret := none) (nm := "readSign") (by decide +kernel) kw_830 rfl rfl (by simp [lg_sl, va_rf_cat, cat_i, cat_l]) ?_
  refine v_eqL (L2 := [(0, va_rf (some p0)), (1, .int p1)]) (by simp [lv_args, va_rf_cat, cat_i, cat_l]) ?_
  refine v_iload_n (x := p1) dX6_readSign_0 rfl 1 rfl ?_
  by_cases hq0 : p1 = (32 : Int32)
  · rw [if_pos hq0] at hf
    refine v_lsw (tgt := 76) dX6_readSign_1 (by decide) (by rw [hq0] <;> rfl) (by decide) ?_
    refine v_goto (tgt := 118) dX6_readSign_76 (by decide) ?_
    refine v_sub [0] (L2 := [(0, va_rf (some p0))]) rfl ?_
    exact t_X6_readSign_b118  hf
  rw [if_neg hq0] at hf
  by_cases hq1 : p1 = (43 : Int32)
  · rw [if_pos hq1] at hf
    refine v_lsw (tgt := 79) dX6_readSign_1 (by decide) (by rw [hq1] <;> rfl) (by decide) ?_
    refine v_sub [0, 1] (L2 := [(0, va_rf (some p0)), (1, .int p1)]) rfl ?_
    exact t_X6_readSign_b79  hf
  rw [if_neg hq1] at hf
  by_cases hq2 : p1 = (45 : Int32)
  · rw [if_pos hq2] at hf
    refine v_lsw (tgt := 79) dX6_readSign_1 (by decide) (by rw [hq2] <;> rfl) (by decide) ?_
    refine v_sub [0, 1] (L2 := [(0, va_rf (some p0)), (1, .int p1)]) rfl ?_
    exact t_X6_readSign_b79  hf
  rw [if_neg hq2] at hf
  by_cases hq3 : p1 = (58 : Int32)
  · rw [if_pos hq3] at hf
    refine v_lsw (tgt := 102) dX6_readSign_1 (by decide) (by rw [hq3] <;> rfl) (by decide) ?_
    refine v_aload_n (x := (some p0)) dX6_readSign_102 rfl 0 rfl ?_
    obtain ⟨hk_p0, hf⟩ := gt_of hf
    obtain ⟨x5, s6, hcs6, hf⟩ := bd_of hf
    have hts6 := c_X6_enterIf (l := l) (D := D) (cy := cy) (ka := ka) hcs6
    refine v_callV cb_7 hk_p0 (As := []) (rest := []) hts6 yb_X6_enterIf kw_843 kw_845 kp_44 rfl ⟨Nat.le_of_ble_eq_true rfl, Nat.le_of_ble_eq_true rfl⟩ rfl (cat_len (Nat.le_of_ble_eq_true rfl)) dX6_readSign_103 ?_
    have hk_p0 := tk_ hts6.1 hk_p0
    show v_ l D cy ka cX6_readSign RX6 2 none "readSign" 3 63 (qf_ D cy σ z none) σ z _ 106 [(0, va_rf (some p0)), (1, .int p1)] []
    refine v_goto (tgt := 118) dX6_readSign_106 (by decide) ?_
    refine v_sub [0] (L2 := [(0, va_rf (some p0))]) rfl ?_
    exact t_X6_readSign_b118  hf
  rw [if_neg hq3] at hf
  by_cases hq4 : p1 = (60 : Int32)
  · rw [if_pos hq4] at hf
    refine v_lsw (tgt := 87) dX6_readSign_1 (by decide) (by rw [hq4] <;> rfl) (by decide) ?_
    refine v_sub [0, 1] (L2 := [(0, va_rf (some p0)), (1, .int p1)]) rfl ?_
    exact t_X6_readSign_b87  hf
  rw [if_neg hq4] at hf
  by_cases hq5 : p1 = (61 : Int32)
  · rw [if_pos hq5] at hf
    refine v_lsw (tgt := 87) dX6_readSign_1 (by decide) (by rw [hq5] <;> rfl) (by decide) ?_
    refine v_sub [0, 1] (L2 := [(0, va_rf (some p0)), (1, .int p1)]) rfl ?_
    exact t_X6_readSign_b87  hf
  rw [if_neg hq5] at hf
  by_cases hq6 : p1 = (62 : Int32)
  · rw [if_pos hq6] at hf
    refine v_lsw (tgt := 87) dX6_readSign_1 (by decide) (by rw [hq6] <;> rfl) (by decide) ?_
    refine v_sub [0, 1] (L2 := [(0, va_rf (some p0)), (1, .int p1)]) rfl ?_
    exact t_X6_readSign_b87  hf
  rw [if_neg hq6] at hf
  by_cases hq7 : p1 = (125 : Int32)
  · rw [if_pos hq7] at hf
    refine v_lsw (tgt := 95) dX6_readSign_1 (by decide) (by rw [hq7] <;> rfl) (by decide) ?_
    refine v_aload_n (x := (some p0)) dX6_readSign_95 rfl 0 rfl ?_
    obtain ⟨hk_p0, hf⟩ := gt_of hf
    obtain ⟨x9, s10, hcs10, hf⟩ := bd_of hf
    have hts10 := c_X6_closeSum (l := l) (D := D) (cy := cy) (ka := ka) hcs10
    refine v_callV cb_7 hk_p0 (As := []) (rest := []) hts10 yb_X6_closeSum kw_839 kw_841 kp_43 rfl ⟨Nat.le_of_ble_eq_true rfl, Nat.le_of_ble_eq_true rfl⟩ rfl (cat_len (Nat.le_of_ble_eq_true rfl)) dX6_readSign_96 ?_
    have hk_p0 := tk_ hts10.1 hk_p0
    show v_ l D cy ka cX6_readSign RX6 2 none "readSign" 3 63 (qf_ D cy σ z none) σ z _ 99 [(0, va_rf (some p0)), (1, .int p1)] []
    refine v_goto (tgt := 118) dX6_readSign_99 (by decide) ?_
    refine v_sub [0] (L2 := [(0, va_rf (some p0))]) rfl ?_
    exact t_X6_readSign_b118  hf
  rw [if_neg hq7] at hf
  refine v_lsw (tgt := 109) (off := 108) dX6_readSign_1 (by decide) ?_ (by decide) ?_
  · refine lsw_out (fun q hq e9 => ?_)
    simp at hq
    rcases hq with rfl | rfl | rfl | rfl | rfl | rfl | rfl | rfl
    · exact hq0 (Int32.toInt_inj.mp e9)
    · exact hq1 (Int32.toInt_inj.mp e9)
    · exact hq2 (Int32.toInt_inj.mp e9)
    · exact hq3 (Int32.toInt_inj.mp e9)
    · exact hq4 (Int32.toInt_inj.mp e9)
    · exact hq5 (Int32.toInt_inj.mp e9)
    · exact hq6 (Int32.toInt_inj.mp e9)
    · exact hq7 (Int32.toInt_inj.mp e9)
  · refine v_aload_n (x := (some p0)) dX6_readSign_109 rfl 0 rfl ?_
    refine v_iconst (v := 1) dX6_readSign_110 (by decide) ?_
    refine v_aload_n (x := (some p0)) dX6_readSign_111 rfl 0 rfl ?_
    obtain ⟨hk_p0, hf⟩ := gt_of hf
    refine v_geti cb_7 hk_p0 9 709 rfl (by decide) rfl (lk_n kw_86 rfl) hf dX6_readSign_112 (fun x11 hf => ?_)
    obtain ⟨x12, s13, hcs13, hf⟩ := bd_of hf
    have hts13 := c_X6_fail (l := l) (D := D) (cy := cy) (ka := ka) hcs13
    refine v_callV cb_7 hk_p0 (As := [.int (1 : Int32), .int x11]) (rest := []) hts13 yb_X6_fail kw_676 kw_678 kp_20 rfl ⟨Nat.le_of_ble_eq_true rfl, Nat.le_of_ble_eq_true rfl⟩ rfl (cat_len (Nat.le_of_ble_eq_true rfl)) dX6_readSign_115 ?_
    have hk_p0 := tk_ hts13.1 hk_p0
    show v_ l D cy ka cX6_readSign RX6 2 none "readSign" 3 63 (qf_ D cy σ z none) σ z _ 118 [(0, va_rf (some p0)), (1, .int p1)] []
    refine v_sub [0] (L2 := [(0, va_rf (some p0))]) rfl ?_
    exact t_X6_readSign_b118  hf
theorem dX6_spells_0 : decode cX6_spells 0 = .ok (.iconst 0, 1) := by decide +kernel
theorem dX6_spells_1 : decode cX6_spells 1 = .ok (.istore_n 3, 1) := by decide +kernel
theorem dX6_spells_2 : decode cX6_spells 2 = .ok (.iload_n 3, 1) := by decide +kernel
theorem dX6_spells_3 : decode cX6_spells 3 = .ok (.aload_n 2, 1) := by decide +kernel
theorem dX6_spells_4 : decode cX6_spells 4 = .ok (.invokevirtual 198, 3) := by decide +kernel
theorem dX6_spells_7 : decode cX6_spells 7 = .ok (.if_icmp .ge 26, 3) := by decide +kernel
theorem dX6_spells_10 : decode cX6_spells 10 = .ok (.aload_n 0, 1) := by decide +kernel
theorem dX6_spells_11 : decode cX6_spells 11 = .ok (.iload_n 1, 1) := by decide +kernel
theorem dX6_spells_12 : decode cX6_spells 12 = .ok (.iload_n 3, 1) := by decide +kernel
theorem dX6_spells_13 : decode cX6_spells 13 = .ok (.iadd, 1) := by decide +kernel
theorem dX6_spells_14 : decode cX6_spells 14 = .ok (.invokevirtual 80, 3) := by decide +kernel
theorem dX6_spells_17 : decode cX6_spells 17 = .ok (.aload_n 2, 1) := by decide +kernel
theorem dX6_spells_18 : decode cX6_spells 18 = .ok (.iload_n 3, 1) := by decide +kernel
theorem dX6_spells_19 : decode cX6_spells 19 = .ok (.invokevirtual 204, 3) := by decide +kernel
theorem dX6_spells_22 : decode cX6_spells 22 = .ok (.if_icmp .eq 5, 3) := by decide +kernel
theorem dX6_spells_25 : decode cX6_spells 25 = .ok (.iconst 0, 1) := by decide +kernel
theorem dX6_spells_26 : decode cX6_spells 26 = .ok (.ireturn, 1) := by decide +kernel
theorem dX6_spells_27 : decode cX6_spells 27 = .ok (.iinc 3 1, 3) := by decide +kernel
theorem dX6_spells_30 : decode cX6_spells 30 = .ok (.goto (-28), 3) := by decide +kernel
theorem dX6_spells_33 : decode cX6_spells 33 = .ok (.iconst 1, 1) := by decide +kernel
theorem dX6_spells_34 : decode cX6_spells 34 = .ok (.ireturn, 1) := by decide +kernel
def f_X6_spells_b2 : Nat → TH → Nat → Int32 → Nat → Int32 → Option (Int32 × TH)
  | 0, _, _, _, _, _ => none
  | n + 1, σ, l0, l1, l2, l3 => gt_ (l2 < 18) <| bd_ (f_J0_length_8abf5 σ l2) fun x1 s2 => if x1 ≤ l3 then (some ((1 : Int32), s2)) else (gt_ (kd_ s2 l0 = 8) <| bd_ (f_X6_byteAt s2 l0 (l1 + l3)) fun x3 s4 => bd_ (f_J0_charAt_5068e s4 l2 l3) fun x5 s6 => if x3 = x5 then (lt_ (l3 + 1) fun x7 => (f_X6_spells_b2 n) s6 l0 l1 l2 x7) else (some ((0 : Int32), s6)))
set_option maxHeartbeats 4000000 in
set_option maxRecDepth 100000 in
theorem t_X6_spells_b2 {l : Launch} {D : va_G} {cy : Nat → ClassId} {ka : Nat → Nat} {σ0 z : TH} {r : Int32}  : ∀ (n : Nat) (σ : TH) (l0 : Nat) (l1 : Int32) (l2 : Nat) (l3 : Int32), f_X6_spells_b2 n σ l0 l1 l2 l3 = some (r, z) → v_ l D cy ka cX6_spells RX6 4 (some FieldType.boolean) "spells" 4 85 (qf_ D cy σ0 z (some (.int r))) σ0 z σ 2 [(0, va_rf (some l0)), (1, .int l1), (2, va_rf (some (ka l2))), (3, .int l3)] [] := by
  intro n
  induction n with
  | zero => intro σ l0 l1 l2 l3 hf; unfold f_X6_spells_b2 at hf; cases hf
  | succ n ih =>
    intro σ l0 l1 l2 l3 hf
    unfold f_X6_spells_b2 at hf
    have hrec_2 := ih
    refine v_iload_n (x := l3) dX6_spells_2 rfl 3 rfl ?_
    refine v_aload_n (x := (some (ka l2))) dX6_spells_3 rfl 2 rfl ?_
    obtain ⟨h18_l2, hf⟩ := gt_of hf
    obtain ⟨x1, s2, hcs2, hf⟩ := bd_of hf
    have hts2 := c_J0_length_8abf5 (l := l) (D := D) (cy := cy) (ka := ka) hcs2
    refine v_callVS h18_l2 (As := []) (rest := [.int l3]) hts2 yb_J0_length_8abf5 kw_719 kw_720 kw_721 rfl ⟨Nat.le_of_ble_eq_true rfl, Nat.le_of_ble_eq_true rfl⟩ rfl (cat_len (Nat.le_of_ble_eq_true rfl)) dX6_spells_4 ?_
    show v_ l D cy ka cX6_spells RX6 4 (some FieldType.boolean) "spells" 4 85 (qf_ D cy σ0 z (some (.int r))) σ0 z _ 7 [(0, va_rf (some l0)), (1, .int l1), (2, va_rf (some (ka l2))), (3, .int l3)] [.int x1, .int l3]
    refine v_icmp_ge (tgt := 33) hf dX6_spells_7 (by decide) (fun hq hf => ?_) (fun hq hf => ?_)
    · refine v_iconst (v := 1) dX6_spells_33 (by decide) ?_
      exact v_zret hf rfl dX6_spells_34
    · refine v_aload_n (x := (some l0)) dX6_spells_10 rfl 0 rfl ?_
      refine v_iload_n (x := l1) dX6_spells_11 rfl 1 rfl ?_
      refine v_iload_n (x := l3) dX6_spells_12 rfl 3 rfl ?_
      refine v_iadd dX6_spells_13 ?_
      obtain ⟨hk_l0, hf⟩ := gt_of hf
      obtain ⟨x3, s4, hcs4, hf⟩ := bd_of hf
      have hts4 := c_X6_byteAt (l := l) (D := D) (cy := cy) (ka := ka) hcs4
      refine v_callV cb_7 hk_l0 (As := [.int (l1 + l3)]) (rest := []) hts4 yb_X6_byteAt kw_668 kw_670 kp_18 rfl ⟨Nat.le_of_ble_eq_true rfl, Nat.le_of_ble_eq_true rfl⟩ rfl (cat_len (Nat.le_of_ble_eq_true rfl)) dX6_spells_14 ?_
      have hk_l0 := tk_ hts4.1 hk_l0
      show v_ l D cy ka cX6_spells RX6 4 (some FieldType.boolean) "spells" 4 85 (qf_ D cy σ0 z (some (.int r))) σ0 z _ 17 [(0, va_rf (some l0)), (1, .int l1), (2, va_rf (some (ka l2))), (3, .int l3)] [.int x3]
      refine v_aload_n (x := (some (ka l2))) dX6_spells_17 rfl 2 rfl ?_
      refine v_iload_n (x := l3) dX6_spells_18 rfl 3 rfl ?_
      obtain ⟨x5, s6, hcs6, hf⟩ := bd_of hf
      have hts6 := c_J0_charAt_5068e (l := l) (D := D) (cy := cy) (ka := ka) hcs6
      refine v_callVS h18_l2 (As := [.int l3]) (rest := [.int x3]) hts6 yb_J0_charAt_5068e kw_729 kw_730 kw_731 rfl ⟨Nat.le_of_ble_eq_true rfl, Nat.le_of_ble_eq_true rfl⟩ rfl (cat_len (Nat.le_of_ble_eq_true rfl)) dX6_spells_19 ?_
      have hk_l0 := tk_ hts6.1 hk_l0
      show v_ l D cy ka cX6_spells RX6 4 (some FieldType.boolean) "spells" 4 85 (qf_ D cy σ0 z (some (.int r))) σ0 z _ 22 [(0, va_rf (some l0)), (1, .int l1), (2, va_rf (some (ka l2))), (3, .int l3)] [.int x5, .int x3]
      refine v_icmp_eq (tgt := 27) hf dX6_spells_22 (by decide) (fun hq hf => ?_) (fun hq hf => ?_)
      · obtain ⟨x7, ex7⟩ : ∃ y : Int32, y = l3 + 1 := ⟨_, rfl⟩
        rw [lt_e, ← ex7] at hf
        refine v_iinc (v := x7) [(3, .int x7), (0, va_rf (some l0)), (1, .int l1), (2, va_rf (some (ka l2)))] dX6_spells_27 3 rfl (by rw [ex7]; rfl) (by decide) rfl ?_
        refine v_goto (tgt := 2) dX6_spells_30 (by decide) ?_
        refine v_sub [1, 2, 3, 0] (L2 := [(0, va_rf (some l0)), (1, .int l1), (2, va_rf (some (ka l2))), (3, .int x7)]) rfl ?_
        exact hrec_2 _ _ _ _ _ hf
      · refine v_iconst (v := 0) dX6_spells_25 (by decide) ?_
        exact v_zret hf rfl dX6_spells_26
/-- LivesAhead$Reader.spells(ILjava/lang/String;)Z -/
def f_X6_spells (σ : TH) (p0 : Nat) (p1 : Int32) (p2 : Nat) : Option (Int32 × TH) :=
  f_X6_spells_b2 fu_ σ p0 p1 p2 (0 : Int32)
set_option maxHeartbeats 4000000 in
set_option maxRecDepth 100000 in
theorem c_X6_spells {l : Launch} {D : va_G} {cy : Nat → ClassId} {ka : Nat → Nat} {σ z : TH} {p0 : Nat} {p1 : Int32} {p2 : Nat} {r : Int32} (hf : f_X6_spells σ p0 p1 p2 = some (r, z)) : ct_ l D cy ka yX6_spells 4 85 [va_rf (some p0), .int p1, va_rf (some (ka p2))] σ (some (.int r)) z := by
  unfold f_X6_spells at hf
  refine v_start (cc := cX6_spells) (own := RX6) (maxL := 4) (ret := (some FieldType.boolean)) (nm := "spells") (by decide +kernel) kw_718 rfl rfl (by simp [lg_sl, va_rf_cat, cat_i, cat_l]) ?_
  refine v_eqL (L2 := [(0, va_rf (some p0)), (1, .int p1), (2, va_rf (some (ka p2)))]) (by simp [lv_args, va_rf_cat, cat_i, cat_l]) ?_
  refine v_iconst (v := 0) dX6_spells_0 (by decide) ?_
  refine v_istore_n [(3, .int (0 : Int32)), (0, va_rf (some p0)), (1, .int p1), (2, va_rf (some (ka p2)))] dX6_spells_1 rfl (by decide) rfl ?_
  refine v_sub [1, 2, 3, 0] (L2 := [(0, va_rf (some p0)), (1, .int p1), (2, va_rf (some (ka p2))), (3, .int (0 : Int32))]) rfl ?_
  exact t_X6_spells_b2  _ _ _ _ _ _ hf
theorem dX6_shortWordAt_0 : decode cX6_shortWordAt 0 = .ok (.aload_n 0, 1) := by decide +kernel
theorem dX6_shortWordAt_1 : decode cX6_shortWordAt 1 = .ok (.iload_n 1, 1) := by decide +kernel
theorem dX6_shortWordAt_2 : decode cX6_shortWordAt 2 = .ok (.ldc 188, 2) := by decide +kernel
theorem dX6_shortWordAt_4 : decode cX6_shortWordAt 4 = .ok (.invokevirtual 157, 3) := by decide +kernel
theorem dX6_shortWordAt_7 : decode cX6_shortWordAt 7 = .ok (.ifCond .eq 6, 3) := by decide +kernel
theorem dX6_shortWordAt_10 : decode cX6_shortWordAt 10 = .ok (.bipush 22, 2) := by decide +kernel
theorem dX6_shortWordAt_12 : decode cX6_shortWordAt 12 = .ok (.ireturn, 1) := by decide +kernel
theorem dX6_shortWordAt_13 : decode cX6_shortWordAt 13 = .ok (.aload_n 0, 1) := by decide +kernel
theorem dX6_shortWordAt_14 : decode cX6_shortWordAt 14 = .ok (.iload_n 1, 1) := by decide +kernel
theorem dX6_shortWordAt_15 : decode cX6_shortWordAt 15 = .ok (.ldc 190, 2) := by decide +kernel
theorem dX6_shortWordAt_17 : decode cX6_shortWordAt 17 = .ok (.invokevirtual 157, 3) := by decide +kernel
theorem dX6_shortWordAt_20 : decode cX6_shortWordAt 20 = .ok (.ifCond .eq 6, 3) := by decide +kernel
theorem dX6_shortWordAt_23 : decode cX6_shortWordAt 23 = .ok (.bipush 24, 2) := by decide +kernel
theorem dX6_shortWordAt_25 : decode cX6_shortWordAt 25 = .ok (.ireturn, 1) := by decide +kernel
theorem dX6_shortWordAt_26 : decode cX6_shortWordAt 26 = .ok (.aload_n 0, 1) := by decide +kernel
theorem dX6_shortWordAt_27 : decode cX6_shortWordAt 27 = .ok (.iload_n 1, 1) := by decide +kernel
theorem dX6_shortWordAt_28 : decode cX6_shortWordAt 28 = .ok (.ldc 192, 2) := by decide +kernel
theorem dX6_shortWordAt_30 : decode cX6_shortWordAt 30 = .ok (.invokevirtual 157, 3) := by decide +kernel
theorem dX6_shortWordAt_33 : decode cX6_shortWordAt 33 = .ok (.ifCond .eq 6, 3) := by decide +kernel
theorem dX6_shortWordAt_36 : decode cX6_shortWordAt 36 = .ok (.bipush 25, 2) := by decide +kernel
theorem dX6_shortWordAt_38 : decode cX6_shortWordAt 38 = .ok (.ireturn, 1) := by decide +kernel
theorem dX6_shortWordAt_39 : decode cX6_shortWordAt 39 = .ok (.aload_n 0, 1) := by decide +kernel
theorem dX6_shortWordAt_40 : decode cX6_shortWordAt 40 = .ok (.iload_n 1, 1) := by decide +kernel
theorem dX6_shortWordAt_41 : decode cX6_shortWordAt 41 = .ok (.ldc 194, 2) := by decide +kernel
theorem dX6_shortWordAt_43 : decode cX6_shortWordAt 43 = .ok (.invokevirtual 157, 3) := by decide +kernel
theorem dX6_shortWordAt_46 : decode cX6_shortWordAt 46 = .ok (.ifCond .eq 8, 3) := by decide +kernel
theorem dX6_shortWordAt_49 : decode cX6_shortWordAt 49 = .ok (.bipush 10, 2) := by decide +kernel
theorem dX6_shortWordAt_51 : decode cX6_shortWordAt 51 = .ok (.goto 19, 3) := by decide +kernel
theorem dX6_shortWordAt_54 : decode cX6_shortWordAt 54 = .ok (.aload_n 0, 1) := by decide +kernel
theorem dX6_shortWordAt_55 : decode cX6_shortWordAt 55 = .ok (.iload_n 1, 1) := by decide +kernel
theorem dX6_shortWordAt_56 : decode cX6_shortWordAt 56 = .ok (.ldc 196, 2) := by decide +kernel
theorem dX6_shortWordAt_58 : decode cX6_shortWordAt 58 = .ok (.invokevirtual 157, 3) := by decide +kernel
theorem dX6_shortWordAt_61 : decode cX6_shortWordAt 61 = .ok (.ifCond .eq 8, 3) := by decide +kernel
theorem dX6_shortWordAt_64 : decode cX6_shortWordAt 64 = .ok (.bipush 14, 2) := by decide +kernel
theorem dX6_shortWordAt_66 : decode cX6_shortWordAt 66 = .ok (.goto 4, 3) := by decide +kernel
theorem dX6_shortWordAt_69 : decode cX6_shortWordAt 69 = .ok (.iconst (-1), 1) := by decide +kernel
theorem dX6_shortWordAt_70 : decode cX6_shortWordAt 70 = .ok (.ireturn, 1) := by decide +kernel
def f_X6_shortWordAt_b70 (σ : TH) (t0 : Int32) : Option (Int32 × TH) :=
  some (t0, σ)
set_option maxHeartbeats 4000000 in
set_option maxRecDepth 100000 in
theorem t_X6_shortWordAt_b70 {l : Launch} {D : va_G} {cy : Nat → ClassId} {ka : Nat → Nat} {σ0 z : TH} {r : Int32}  {σ : TH} {t0 : Int32} (hf : f_X6_shortWordAt_b70 σ t0 = some (r, z)) : v_ l D cy ka cX6_shortWordAt RX6 2 (some FieldType.int) "shortWordAt" 5 108 (qf_ D cy σ0 z (some (.int r))) σ0 z σ 70 [] [.int t0] := by
  unfold f_X6_shortWordAt_b70 at hf
  exact v_iret hf dX6_shortWordAt_70
/-- LivesAhead$Reader.shortWordAt(I)I -/
def f_X6_shortWordAt (σ : TH) (p0 : Nat) (p1 : Int32) : Option (Int32 × TH) :=
  gt_ (kd_ σ p0 = 8) <| bd_ (f_X6_spells σ p0 p1 2) fun x1 s2 => if x1 = 0 then (bd_ (f_X6_spells s2 p0 p1 3) fun x3 s4 => if x3 = 0 then (bd_ (f_X6_spells s4 p0 p1 4) fun x5 s6 => if x5 = 0 then (bd_ (f_X6_spells s6 p0 p1 5) fun x7 s8 => if x7 = 0 then (bd_ (f_X6_spells s8 p0 p1 6) fun x9 s10 => if x9 = 0 then (f_X6_shortWordAt_b70 s10 (-1 : Int32)) else (f_X6_shortWordAt_b70 s10 (14 : Int32))) else (f_X6_shortWordAt_b70 s8 (10 : Int32))) else (some ((25 : Int32), s6))) else (some ((24 : Int32), s4))) else (some ((22 : Int32), s2))
set_option maxHeartbeats 4000000 in
set_option maxRecDepth 100000 in
theorem c_X6_shortWordAt {l : Launch} {D : va_G} {cy : Nat → ClassId} {ka : Nat → Nat} {σ z : TH} {p0 : Nat} {p1 : Int32} {r : Int32} (hf : f_X6_shortWordAt σ p0 p1 = some (r, z)) : ct_ l D cy ka yX6_shortWordAt 5 108 [va_rf (some p0), .int p1] σ (some (.int r)) z := by
  unfold f_X6_shortWordAt at hf
  refine v_start (cc := cX6_shortWordAt) (own := RX6) (maxL := 2) (ret := (some FieldType.int)) (nm := "shortWordAt") (by decide +kernel) kw_769 rfl rfl (by simp [lg_sl, va_rf_cat, cat_i, cat_l]) ?_
  refine v_eqL (L2 := [(0, va_rf (some p0)), (1, .int p1)]) (by simp [lv_args, va_rf_cat, cat_i, cat_l]) ?_
  refine v_aload_n (x := (some p0)) dX6_shortWordAt_0 rfl 0 rfl ?_
  refine v_iload_n (x := p1) dX6_shortWordAt_1 rfl 1 rfl ?_
  refine v_ldcS (tx := "and") (n := 2) (by decide) dX6_shortWordAt_2 ?_
  obtain ⟨hk_p0, hf⟩ := gt_of hf
  obtain ⟨x1, s2, hcs2, hf⟩ := bd_of hf
  have hts2 := c_X6_spells (l := l) (D := D) (cy := cy) (ka := ka) hcs2
  refine v_callV cb_7 hk_p0 (As := [.int p1, va_rf (some (ka 2))]) (rest := []) hts2 yb_X6_spells kw_715 kw_717 kp_28 rfl ⟨Nat.le_of_ble_eq_true rfl, Nat.le_of_ble_eq_true rfl⟩ rfl (cat_len (Nat.le_of_ble_eq_true rfl)) dX6_shortWordAt_4 ?_
  have hk_p0 := tk_ hts2.1 hk_p0
  show v_ l D cy ka cX6_shortWordAt RX6 2 (some FieldType.int) "shortWordAt" 5 108 (qf_ D cy σ z (some (.int r))) σ z _ 7 [(0, va_rf (some p0)), (1, .int p1)] [.int x1]
  refine v_if_eq (tgt := 13) hf dX6_shortWordAt_7 (by decide) (fun hq hf => ?_) (fun hq hf => ?_)
  · refine v_aload_n (x := (some p0)) dX6_shortWordAt_13 rfl 0 rfl ?_
    refine v_iload_n (x := p1) dX6_shortWordAt_14 rfl 1 rfl ?_
    refine v_ldcS (tx := "not") (n := 3) (by decide) dX6_shortWordAt_15 ?_
    obtain ⟨x3, s4, hcs4, hf⟩ := bd_of hf
    have hts4 := c_X6_spells (l := l) (D := D) (cy := cy) (ka := ka) hcs4
    refine v_callV cb_7 hk_p0 (As := [.int p1, va_rf (some (ka 3))]) (rest := []) hts4 yb_X6_spells kw_715 kw_717 kp_28 rfl ⟨Nat.le_of_ble_eq_true rfl, Nat.le_of_ble_eq_true rfl⟩ rfl (cat_len (Nat.le_of_ble_eq_true rfl)) dX6_shortWordAt_17 ?_
    have hk_p0 := tk_ hts4.1 hk_p0
    show v_ l D cy ka cX6_shortWordAt RX6 2 (some FieldType.int) "shortWordAt" 5 108 (qf_ D cy σ z (some (.int r))) σ z _ 20 [(0, va_rf (some p0)), (1, .int p1)] [.int x3]
    refine v_if_eq (tgt := 26) hf dX6_shortWordAt_20 (by decide) (fun hq hf => ?_) (fun hq hf => ?_)
    · refine v_aload_n (x := (some p0)) dX6_shortWordAt_26 rfl 0 rfl ?_
      refine v_iload_n (x := p1) dX6_shortWordAt_27 rfl 1 rfl ?_
      refine v_ldcS (tx := "has") (n := 4) (by decide) dX6_shortWordAt_28 ?_
      obtain ⟨x5, s6, hcs6, hf⟩ := bd_of hf
      have hts6 := c_X6_spells (l := l) (D := D) (cy := cy) (ka := ka) hcs6
      refine v_callV cb_7 hk_p0 (As := [.int p1, va_rf (some (ka 4))]) (rest := []) hts6 yb_X6_spells kw_715 kw_717 kp_28 rfl ⟨Nat.le_of_ble_eq_true rfl, Nat.le_of_ble_eq_true rfl⟩ rfl (cat_len (Nat.le_of_ble_eq_true rfl)) dX6_shortWordAt_30 ?_
      have hk_p0 := tk_ hts6.1 hk_p0
      show v_ l D cy ka cX6_shortWordAt RX6 2 (some FieldType.int) "shortWordAt" 5 108 (qf_ D cy σ z (some (.int r))) σ z _ 33 [(0, va_rf (some p0)), (1, .int p1)] [.int x5]
      refine v_if_eq (tgt := 39) hf dX6_shortWordAt_33 (by decide) (fun hq hf => ?_) (fun hq hf => ?_)
      · refine v_aload_n (x := (some p0)) dX6_shortWordAt_39 rfl 0 rfl ?_
        refine v_iload_n (x := p1) dX6_shortWordAt_40 rfl 1 rfl ?_
        refine v_ldcS (tx := "age") (n := 5) (by decide) dX6_shortWordAt_41 ?_
        obtain ⟨x7, s8, hcs8, hf⟩ := bd_of hf
        have hts8 := c_X6_spells (l := l) (D := D) (cy := cy) (ka := ka) hcs8
        refine v_callV cb_7 hk_p0 (As := [.int p1, va_rf (some (ka 5))]) (rest := []) hts8 yb_X6_spells kw_715 kw_717 kp_28 rfl ⟨Nat.le_of_ble_eq_true rfl, Nat.le_of_ble_eq_true rfl⟩ rfl (cat_len (Nat.le_of_ble_eq_true rfl)) dX6_shortWordAt_43 ?_
        have hk_p0 := tk_ hts8.1 hk_p0
        show v_ l D cy ka cX6_shortWordAt RX6 2 (some FieldType.int) "shortWordAt" 5 108 (qf_ D cy σ z (some (.int r))) σ z _ 46 [(0, va_rf (some p0)), (1, .int p1)] [.int x7]
        refine v_if_eq (tgt := 54) hf dX6_shortWordAt_46 (by decide) (fun hq hf => ?_) (fun hq hf => ?_)
        · refine v_aload_n (x := (some p0)) dX6_shortWordAt_54 rfl 0 rfl ?_
          refine v_iload_n (x := p1) dX6_shortWordAt_55 rfl 1 rfl ?_
          refine v_ldcS (tx := "kin") (n := 6) (by decide) dX6_shortWordAt_56 ?_
          obtain ⟨x9, s10, hcs10, hf⟩ := bd_of hf
          have hts10 := c_X6_spells (l := l) (D := D) (cy := cy) (ka := ka) hcs10
          refine v_callV cb_7 hk_p0 (As := [.int p1, va_rf (some (ka 6))]) (rest := []) hts10 yb_X6_spells kw_715 kw_717 kp_28 rfl ⟨Nat.le_of_ble_eq_true rfl, Nat.le_of_ble_eq_true rfl⟩ rfl (cat_len (Nat.le_of_ble_eq_true rfl)) dX6_shortWordAt_58 ?_
          have hk_p0 := tk_ hts10.1 hk_p0
          show v_ l D cy ka cX6_shortWordAt RX6 2 (some FieldType.int) "shortWordAt" 5 108 (qf_ D cy σ z (some (.int r))) σ z _ 61 [(0, va_rf (some p0)), (1, .int p1)] [.int x9]
          refine v_if_eq (tgt := 69) hf dX6_shortWordAt_61 (by decide) (fun hq hf => ?_) (fun hq hf => ?_)
          · refine v_iconst (v := (-1)) dX6_shortWordAt_69 (by decide) ?_
            refine v_sub [] (L2 := []) rfl ?_
            exact t_X6_shortWordAt_b70  hf
          · refine v_bipush (v := 14) dX6_shortWordAt_64 (by decide) ?_
            refine v_goto (tgt := 70) dX6_shortWordAt_66 (by decide) ?_
            refine v_sub [] (L2 := []) rfl ?_
            exact t_X6_shortWordAt_b70  hf
        · refine v_bipush (v := 10) dX6_shortWordAt_49 (by decide) ?_
          refine v_goto (tgt := 70) dX6_shortWordAt_51 (by decide) ?_
          refine v_sub [] (L2 := []) rfl ?_
          exact t_X6_shortWordAt_b70  hf
      · refine v_bipush (v := 25) dX6_shortWordAt_36 (by decide) ?_
        exact v_iret hf dX6_shortWordAt_38
    · refine v_bipush (v := 24) dX6_shortWordAt_23 (by decide) ?_
      exact v_iret hf dX6_shortWordAt_25
  · refine v_bipush (v := 22) dX6_shortWordAt_10 (by decide) ?_
    exact v_iret hf dX6_shortWordAt_12
theorem dX6_wordAt_0 : decode cX6_wordAt 0 = .ok (.iload_n 2, 1) := by decide +kernel
theorem dX6_wordAt_1 : decode cX6_wordAt 1 = .ok (.tableswitch 250 2 7 #[39, 71, 77, 124, 186, 233], 39) := by decide +kernel
theorem dX6_wordAt_40 : decode cX6_wordAt 40 = .ok (.aload_n 0, 1) := by decide +kernel
theorem dX6_wordAt_41 : decode cX6_wordAt 41 = .ok (.iload_n 1, 1) := by decide +kernel
theorem dX6_wordAt_42 : decode cX6_wordAt 42 = .ok (.ldc 155, 2) := by decide +kernel
theorem dX6_wordAt_44 : decode cX6_wordAt 44 = .ok (.invokevirtual 157, 3) := by decide +kernel
theorem dX6_wordAt_47 : decode cX6_wordAt 47 = .ok (.ifCond .eq 8, 3) := by decide +kernel
theorem dX6_wordAt_50 : decode cX6_wordAt 50 = .ok (.bipush 21, 2) := by decide +kernel
theorem dX6_wordAt_52 : decode cX6_wordAt 52 = .ok (.goto 19, 3) := by decide +kernel
theorem dX6_wordAt_55 : decode cX6_wordAt 55 = .ok (.aload_n 0, 1) := by decide +kernel
theorem dX6_wordAt_56 : decode cX6_wordAt 56 = .ok (.iload_n 1, 1) := by decide +kernel
theorem dX6_wordAt_57 : decode cX6_wordAt 57 = .ok (.ldc 161, 2) := by decide +kernel
theorem dX6_wordAt_59 : decode cX6_wordAt 59 = .ok (.invokevirtual 157, 3) := by decide +kernel
theorem dX6_wordAt_62 : decode cX6_wordAt 62 = .ok (.ifCond .eq 8, 3) := by decide +kernel
theorem dX6_wordAt_65 : decode cX6_wordAt 65 = .ok (.bipush 23, 2) := by decide +kernel
theorem dX6_wordAt_67 : decode cX6_wordAt 67 = .ok (.goto 4, 3) := by decide +kernel
theorem dX6_wordAt_70 : decode cX6_wordAt 70 = .ok (.iconst (-1), 1) := by decide +kernel
theorem dX6_wordAt_71 : decode cX6_wordAt 71 = .ok (.ireturn, 1) := by decide +kernel
theorem dX6_wordAt_72 : decode cX6_wordAt 72 = .ok (.aload_n 0, 1) := by decide +kernel
theorem dX6_wordAt_73 : decode cX6_wordAt 73 = .ok (.iload_n 1, 1) := by decide +kernel
theorem dX6_wordAt_74 : decode cX6_wordAt 74 = .ok (.invokevirtual 163, 3) := by decide +kernel
theorem dX6_wordAt_77 : decode cX6_wordAt 77 = .ok (.ireturn, 1) := by decide +kernel
theorem dX6_wordAt_78 : decode cX6_wordAt 78 = .ok (.aload_n 0, 1) := by decide +kernel
theorem dX6_wordAt_79 : decode cX6_wordAt 79 = .ok (.iload_n 1, 1) := by decide +kernel
theorem dX6_wordAt_80 : decode cX6_wordAt 80 = .ok (.ldc 166, 2) := by decide +kernel
theorem dX6_wordAt_82 : decode cX6_wordAt 82 = .ok (.invokevirtual 157, 3) := by decide +kernel
theorem dX6_wordAt_85 : decode cX6_wordAt 85 = .ok (.ifCond .eq 8, 3) := by decide +kernel
theorem dX6_wordAt_88 : decode cX6_wordAt 88 = .ok (.bipush 27, 2) := by decide +kernel
theorem dX6_wordAt_90 : decode cX6_wordAt 90 = .ok (.goto 34, 3) := by decide +kernel
theorem dX6_wordAt_93 : decode cX6_wordAt 93 = .ok (.aload_n 0, 1) := by decide +kernel
theorem dX6_wordAt_94 : decode cX6_wordAt 94 = .ok (.iload_n 1, 1) := by decide +kernel
theorem dX6_wordAt_95 : decode cX6_wordAt 95 = .ok (.ldc 168, 2) := by decide +kernel
theorem dX6_wordAt_97 : decode cX6_wordAt 97 = .ok (.invokevirtual 157, 3) := by decide +kernel
theorem dX6_wordAt_100 : decode cX6_wordAt 100 = .ok (.ifCond .eq 8, 3) := by decide +kernel
theorem dX6_wordAt_103 : decode cX6_wordAt 103 = .ok (.bipush 11, 2) := by decide +kernel
theorem dX6_wordAt_105 : decode cX6_wordAt 105 = .ok (.goto 19, 3) := by decide +kernel
theorem dX6_wordAt_108 : decode cX6_wordAt 108 = .ok (.aload_n 0, 1) := by decide +kernel
theorem dX6_wordAt_109 : decode cX6_wordAt 109 = .ok (.iload_n 1, 1) := by decide +kernel
theorem dX6_wordAt_110 : decode cX6_wordAt 110 = .ok (.ldc 170, 2) := by decide +kernel
theorem dX6_wordAt_112 : decode cX6_wordAt 112 = .ok (.invokevirtual 157, 3) := by decide +kernel
theorem dX6_wordAt_115 : decode cX6_wordAt 115 = .ok (.ifCond .eq 8, 3) := by decide +kernel
theorem dX6_wordAt_118 : decode cX6_wordAt 118 = .ok (.bipush 12, 2) := by decide +kernel
theorem dX6_wordAt_120 : decode cX6_wordAt 120 = .ok (.goto 4, 3) := by decide +kernel
theorem dX6_wordAt_123 : decode cX6_wordAt 123 = .ok (.iconst (-1), 1) := by decide +kernel
theorem dX6_wordAt_124 : decode cX6_wordAt 124 = .ok (.ireturn, 1) := by decide +kernel
theorem dX6_wordAt_125 : decode cX6_wordAt 125 = .ok (.aload_n 0, 1) := by decide +kernel
theorem dX6_wordAt_126 : decode cX6_wordAt 126 = .ok (.iload_n 1, 1) := by decide +kernel
theorem dX6_wordAt_127 : decode cX6_wordAt 127 = .ok (.ldc 172, 2) := by decide +kernel
theorem dX6_wordAt_129 : decode cX6_wordAt 129 = .ok (.invokevirtual 157, 3) := by decide +kernel
theorem dX6_wordAt_132 : decode cX6_wordAt 132 = .ok (.ifCond .eq 8, 3) := by decide +kernel
theorem dX6_wordAt_135 : decode cX6_wordAt 135 = .ok (.bipush 26, 2) := by decide +kernel
theorem dX6_wordAt_137 : decode cX6_wordAt 137 = .ok (.goto 49, 3) := by decide +kernel
theorem dX6_wordAt_140 : decode cX6_wordAt 140 = .ok (.aload_n 0, 1) := by decide +kernel
theorem dX6_wordAt_141 : decode cX6_wordAt 141 = .ok (.iload_n 1, 1) := by decide +kernel
theorem dX6_wordAt_142 : decode cX6_wordAt 142 = .ok (.ldc 174, 2) := by decide +kernel
theorem dX6_wordAt_144 : decode cX6_wordAt 144 = .ok (.invokevirtual 157, 3) := by decide +kernel
theorem dX6_wordAt_147 : decode cX6_wordAt 147 = .ok (.ifCond .eq 8, 3) := by decide +kernel
theorem dX6_wordAt_150 : decode cX6_wordAt 150 = .ok (.bipush 13, 2) := by decide +kernel
theorem dX6_wordAt_152 : decode cX6_wordAt 152 = .ok (.goto 34, 3) := by decide +kernel
theorem dX6_wordAt_155 : decode cX6_wordAt 155 = .ok (.aload_n 0, 1) := by decide +kernel
theorem dX6_wordAt_156 : decode cX6_wordAt 156 = .ok (.iload_n 1, 1) := by decide +kernel
theorem dX6_wordAt_157 : decode cX6_wordAt 157 = .ok (.ldc 176, 2) := by decide +kernel
theorem dX6_wordAt_159 : decode cX6_wordAt 159 = .ok (.invokevirtual 157, 3) := by decide +kernel
theorem dX6_wordAt_162 : decode cX6_wordAt 162 = .ok (.ifCond .eq 8, 3) := by decide +kernel
theorem dX6_wordAt_165 : decode cX6_wordAt 165 = .ok (.bipush 18, 2) := by decide +kernel
theorem dX6_wordAt_167 : decode cX6_wordAt 167 = .ok (.goto 19, 3) := by decide +kernel
theorem dX6_wordAt_170 : decode cX6_wordAt 170 = .ok (.aload_n 0, 1) := by decide +kernel
theorem dX6_wordAt_171 : decode cX6_wordAt 171 = .ok (.iload_n 1, 1) := by decide +kernel
theorem dX6_wordAt_172 : decode cX6_wordAt 172 = .ok (.ldc 178, 2) := by decide +kernel
theorem dX6_wordAt_174 : decode cX6_wordAt 174 = .ok (.invokevirtual 157, 3) := by decide +kernel
theorem dX6_wordAt_177 : decode cX6_wordAt 177 = .ok (.ifCond .eq 8, 3) := by decide +kernel
theorem dX6_wordAt_180 : decode cX6_wordAt 180 = .ok (.bipush 20, 2) := by decide +kernel
theorem dX6_wordAt_182 : decode cX6_wordAt 182 = .ok (.goto 4, 3) := by decide +kernel
theorem dX6_wordAt_185 : decode cX6_wordAt 185 = .ok (.iconst (-1), 1) := by decide +kernel
theorem dX6_wordAt_186 : decode cX6_wordAt 186 = .ok (.ireturn, 1) := by decide +kernel
theorem dX6_wordAt_187 : decode cX6_wordAt 187 = .ok (.aload_n 0, 1) := by decide +kernel
theorem dX6_wordAt_188 : decode cX6_wordAt 188 = .ok (.iload_n 1, 1) := by decide +kernel
theorem dX6_wordAt_189 : decode cX6_wordAt 189 = .ok (.ldc 180, 2) := by decide +kernel
theorem dX6_wordAt_191 : decode cX6_wordAt 191 = .ok (.invokevirtual 157, 3) := by decide +kernel
theorem dX6_wordAt_194 : decode cX6_wordAt 194 = .ok (.ifCond .eq 8, 3) := by decide +kernel
theorem dX6_wordAt_197 : decode cX6_wordAt 197 = .ok (.bipush 15, 2) := by decide +kernel
theorem dX6_wordAt_199 : decode cX6_wordAt 199 = .ok (.goto 34, 3) := by decide +kernel
theorem dX6_wordAt_202 : decode cX6_wordAt 202 = .ok (.aload_n 0, 1) := by decide +kernel
theorem dX6_wordAt_203 : decode cX6_wordAt 203 = .ok (.iload_n 1, 1) := by decide +kernel
theorem dX6_wordAt_204 : decode cX6_wordAt 204 = .ok (.ldc 182, 2) := by decide +kernel
theorem dX6_wordAt_206 : decode cX6_wordAt 206 = .ok (.invokevirtual 157, 3) := by decide +kernel
theorem dX6_wordAt_209 : decode cX6_wordAt 209 = .ok (.ifCond .eq 8, 3) := by decide +kernel
theorem dX6_wordAt_212 : decode cX6_wordAt 212 = .ok (.bipush 16, 2) := by decide +kernel
theorem dX6_wordAt_214 : decode cX6_wordAt 214 = .ok (.goto 19, 3) := by decide +kernel
theorem dX6_wordAt_217 : decode cX6_wordAt 217 = .ok (.aload_n 0, 1) := by decide +kernel
theorem dX6_wordAt_218 : decode cX6_wordAt 218 = .ok (.iload_n 1, 1) := by decide +kernel
theorem dX6_wordAt_219 : decode cX6_wordAt 219 = .ok (.ldc 184, 2) := by decide +kernel
theorem dX6_wordAt_221 : decode cX6_wordAt 221 = .ok (.invokevirtual 157, 3) := by decide +kernel
theorem dX6_wordAt_224 : decode cX6_wordAt 224 = .ok (.ifCond .eq 8, 3) := by decide +kernel
theorem dX6_wordAt_227 : decode cX6_wordAt 227 = .ok (.bipush 17, 2) := by decide +kernel
theorem dX6_wordAt_229 : decode cX6_wordAt 229 = .ok (.goto 4, 3) := by decide +kernel
theorem dX6_wordAt_232 : decode cX6_wordAt 232 = .ok (.iconst (-1), 1) := by decide +kernel
theorem dX6_wordAt_233 : decode cX6_wordAt 233 = .ok (.ireturn, 1) := by decide +kernel
theorem dX6_wordAt_234 : decode cX6_wordAt 234 = .ok (.aload_n 0, 1) := by decide +kernel
theorem dX6_wordAt_235 : decode cX6_wordAt 235 = .ok (.iload_n 1, 1) := by decide +kernel
theorem dX6_wordAt_236 : decode cX6_wordAt 236 = .ok (.ldc 186, 2) := by decide +kernel
theorem dX6_wordAt_238 : decode cX6_wordAt 238 = .ok (.invokevirtual 157, 3) := by decide +kernel
theorem dX6_wordAt_241 : decode cX6_wordAt 241 = .ok (.ifCond .eq 8, 3) := by decide +kernel
theorem dX6_wordAt_244 : decode cX6_wordAt 244 = .ok (.bipush 19, 2) := by decide +kernel
theorem dX6_wordAt_246 : decode cX6_wordAt 246 = .ok (.goto 4, 3) := by decide +kernel
theorem dX6_wordAt_249 : decode cX6_wordAt 249 = .ok (.iconst (-1), 1) := by decide +kernel
theorem dX6_wordAt_250 : decode cX6_wordAt 250 = .ok (.ireturn, 1) := by decide +kernel
theorem dX6_wordAt_251 : decode cX6_wordAt 251 = .ok (.iconst (-1), 1) := by decide +kernel
theorem dX6_wordAt_252 : decode cX6_wordAt 252 = .ok (.ireturn, 1) := by decide +kernel
def f_X6_wordAt_b71 (σ : TH) (t0 : Int32) : Option (Int32 × TH) :=
  some (t0, σ)
set_option maxHeartbeats 4000000 in
set_option maxRecDepth 100000 in
theorem t_X6_wordAt_b71 {l : Launch} {D : va_G} {cy : Nat → ClassId} {ka : Nat → Nat} {σ0 z : TH} {r : Int32}  {σ : TH} {t0 : Int32} (hf : f_X6_wordAt_b71 σ t0 = some (r, z)) : v_ l D cy ka cX6_wordAt RX6 3 (some FieldType.int) "wordAt" 6 129 (qf_ D cy σ0 z (some (.int r))) σ0 z σ 71 [] [.int t0] := by
  unfold f_X6_wordAt_b71 at hf
  exact v_iret hf dX6_wordAt_71
def f_X6_wordAt_b124 (σ : TH) (t0 : Int32) : Option (Int32 × TH) :=
  some (t0, σ)
set_option maxHeartbeats 4000000 in
set_option maxRecDepth 100000 in
theorem t_X6_wordAt_b124 {l : Launch} {D : va_G} {cy : Nat → ClassId} {ka : Nat → Nat} {σ0 z : TH} {r : Int32}  {σ : TH} {t0 : Int32} (hf : f_X6_wordAt_b124 σ t0 = some (r, z)) : v_ l D cy ka cX6_wordAt RX6 3 (some FieldType.int) "wordAt" 6 129 (qf_ D cy σ0 z (some (.int r))) σ0 z σ 124 [] [.int t0] := by
  unfold f_X6_wordAt_b124 at hf
  exact v_iret hf dX6_wordAt_124
def f_X6_wordAt_b186 (σ : TH) (t0 : Int32) : Option (Int32 × TH) :=
  some (t0, σ)
set_option maxHeartbeats 4000000 in
set_option maxRecDepth 100000 in
theorem t_X6_wordAt_b186 {l : Launch} {D : va_G} {cy : Nat → ClassId} {ka : Nat → Nat} {σ0 z : TH} {r : Int32}  {σ : TH} {t0 : Int32} (hf : f_X6_wordAt_b186 σ t0 = some (r, z)) : v_ l D cy ka cX6_wordAt RX6 3 (some FieldType.int) "wordAt" 6 129 (qf_ D cy σ0 z (some (.int r))) σ0 z σ 186 [] [.int t0] := by
  unfold f_X6_wordAt_b186 at hf
  exact v_iret hf dX6_wordAt_186
def f_X6_wordAt_b233 (σ : TH) (t0 : Int32) : Option (Int32 × TH) :=
  some (t0, σ)
set_option maxHeartbeats 4000000 in
set_option maxRecDepth 100000 in
theorem t_X6_wordAt_b233 {l : Launch} {D : va_G} {cy : Nat → ClassId} {ka : Nat → Nat} {σ0 z : TH} {r : Int32}  {σ : TH} {t0 : Int32} (hf : f_X6_wordAt_b233 σ t0 = some (r, z)) : v_ l D cy ka cX6_wordAt RX6 3 (some FieldType.int) "wordAt" 6 129 (qf_ D cy σ0 z (some (.int r))) σ0 z σ 233 [] [.int t0] := by
  unfold f_X6_wordAt_b233 at hf
  exact v_iret hf dX6_wordAt_233
def f_X6_wordAt_b250 (σ : TH) (t0 : Int32) : Option (Int32 × TH) :=
  some (t0, σ)
set_option maxHeartbeats 4000000 in
set_option maxRecDepth 100000 in
theorem t_X6_wordAt_b250 {l : Launch} {D : va_G} {cy : Nat → ClassId} {ka : Nat → Nat} {σ0 z : TH} {r : Int32}  {σ : TH} {t0 : Int32} (hf : f_X6_wordAt_b250 σ t0 = some (r, z)) : v_ l D cy ka cX6_wordAt RX6 3 (some FieldType.int) "wordAt" 6 129 (qf_ D cy σ0 z (some (.int r))) σ0 z σ 250 [] [.int t0] := by
  unfold f_X6_wordAt_b250 at hf
  exact v_iret hf dX6_wordAt_250
/-- LivesAhead$Reader.wordAt(II)I -/
def f_X6_wordAt (σ : TH) (p0 : Nat) (p1 : Int32) (p2 : Int32) : Option (Int32 × TH) :=
  if p2 = 2 then (gt_ (kd_ σ p0 = 8) <| bd_ (f_X6_spells σ p0 p1 0) fun x1 s2 => if x1 = 0 then (bd_ (f_X6_spells s2 p0 p1 1) fun x3 s4 => if x3 = 0 then (f_X6_wordAt_b71 s4 (-1 : Int32)) else (f_X6_wordAt_b71 s4 (23 : Int32))) else (f_X6_wordAt_b71 s2 (21 : Int32))) else if p2 = 3 then (gt_ (kd_ σ p0 = 8) <| bd_ (f_X6_shortWordAt σ p0 p1) fun x5 s6 => some (x5, s6)) else if p2 = 4 then (gt_ (kd_ σ p0 = 8) <| bd_ (f_X6_spells σ p0 p1 7) fun x7 s8 => if x7 = 0 then (bd_ (f_X6_spells s8 p0 p1 8) fun x9 s10 => if x9 = 0 then (bd_ (f_X6_spells s10 p0 p1 9) fun x11 s12 => if x11 = 0 then (f_X6_wordAt_b124 s12 (-1 : Int32)) else (f_X6_wordAt_b124 s12 (12 : Int32))) else (f_X6_wordAt_b124 s10 (11 : Int32))) else (f_X6_wordAt_b124 s8 (27 : Int32))) else if p2 = 5 then (gt_ (kd_ σ p0 = 8) <| bd_ (f_X6_spells σ p0 p1 10) fun x13 s14 => if x13 = 0 then (bd_ (f_X6_spells s14 p0 p1 11) fun x15 s16 => if x15 = 0 then (bd_ (f_X6_spells s16 p0 p1 12) fun x17 s18 => if x17 = 0 then (bd_ (f_X6_spells s18 p0 p1 13) fun x19 s20 => if x19 = 0 then (f_X6_wordAt_b186 s20 (-1 : Int32)) else (f_X6_wordAt_b186 s20 (20 : Int32))) else (f_X6_wordAt_b186 s18 (18 : Int32))) else (f_X6_wordAt_b186 s16 (13 : Int32))) else (f_X6_wordAt_b186 s14 (26 : Int32))) else if p2 = 6 then (gt_ (kd_ σ p0 = 8) <| bd_ (f_X6_spells σ p0 p1 14) fun x21 s22 => if x21 = 0 then (bd_ (f_X6_spells s22 p0 p1 15) fun x23 s24 => if x23 = 0 then (bd_ (f_X6_spells s24 p0 p1 16) fun x25 s26 => if x25 = 0 then (f_X6_wordAt_b233 s26 (-1 : Int32)) else (f_X6_wordAt_b233 s26 (17 : Int32))) else (f_X6_wordAt_b233 s24 (16 : Int32))) else (f_X6_wordAt_b233 s22 (15 : Int32))) else if p2 = 7 then (gt_ (kd_ σ p0 = 8) <| bd_ (f_X6_spells σ p0 p1 17) fun x27 s28 => if x27 = 0 then (f_X6_wordAt_b250 s28 (-1 : Int32)) else (f_X6_wordAt_b250 s28 (19 : Int32))) else (some ((-1 : Int32), σ))
set_option maxHeartbeats 4000000 in
set_option maxRecDepth 100000 in
theorem c_X6_wordAt {l : Launch} {D : va_G} {cy : Nat → ClassId} {ka : Nat → Nat} {σ z : TH} {p0 : Nat} {p1 : Int32} {p2 : Int32} {r : Int32} (hf : f_X6_wordAt σ p0 p1 p2 = some (r, z)) : ct_ l D cy ka yX6_wordAt 6 129 [va_rf (some p0), .int p1, .int p2] σ (some (.int r)) z := by
  unfold f_X6_wordAt at hf
  refine v_start (cc := cX6_wordAt) (own := RX6) (maxL := 3) (ret := (some FieldType.int)) (nm := "wordAt") (by decide +kernel) kw_713 rfl rfl (by simp [lg_sl, va_rf_cat, cat_i, cat_l]) ?_
  refine v_eqL (L2 := [(0, va_rf (some p0)), (1, .int p1), (2, .int p2)]) (by simp [lv_args, va_rf_cat, cat_i, cat_l]) ?_
  refine v_iload_n (x := p2) dX6_wordAt_0 rfl 2 rfl ?_
  by_cases hq0 : p2 = 2
  · rw [if_pos hq0] at hf
    refine v_tswIn (tgt := 40) (c9 := 2) hq0 dX6_wordAt_1 (by decide) (by decide) rfl (by decide) ?_
    refine v_aload_n (x := (some p0)) dX6_wordAt_40 rfl 0 rfl ?_
    refine v_iload_n (x := p1) dX6_wordAt_41 rfl 1 rfl ?_
    refine v_ldcS (tx := "if") (n := 0) (by decide) dX6_wordAt_42 ?_
    obtain ⟨hk_p0, hf⟩ := gt_of hf
    obtain ⟨x1, s2, hcs2, hf⟩ := bd_of hf
    have hts2 := c_X6_spells (l := l) (D := D) (cy := cy) (ka := ka) hcs2
    refine v_callV cb_7 hk_p0 (As := [.int p1, va_rf (some (ka 0))]) (rest := []) hts2 yb_X6_spells kw_715 kw_717 kp_28 rfl ⟨Nat.le_of_ble_eq_true rfl, Nat.le_of_ble_eq_true rfl⟩ rfl (cat_len (Nat.le_of_ble_eq_true rfl)) dX6_wordAt_44 ?_
    have hk_p0 := tk_ hts2.1 hk_p0
    show v_ l D cy ka cX6_wordAt RX6 3 (some FieldType.int) "wordAt" 6 129 (qf_ D cy σ z (some (.int r))) σ z _ 47 [(0, va_rf (some p0)), (1, .int p1), (2, .int p2)] [.int x1]
    refine v_if_eq (tgt := 55) hf dX6_wordAt_47 (by decide) (fun hq hf => ?_) (fun hq hf => ?_)
    · refine v_aload_n (x := (some p0)) dX6_wordAt_55 rfl 0 rfl ?_
      refine v_iload_n (x := p1) dX6_wordAt_56 rfl 1 rfl ?_
      refine v_ldcS (tx := "or") (n := 1) (by decide) dX6_wordAt_57 ?_
      obtain ⟨x3, s4, hcs4, hf⟩ := bd_of hf
      have hts4 := c_X6_spells (l := l) (D := D) (cy := cy) (ka := ka) hcs4
      refine v_callV cb_7 hk_p0 (As := [.int p1, va_rf (some (ka 1))]) (rest := []) hts4 yb_X6_spells kw_715 kw_717 kp_28 rfl ⟨Nat.le_of_ble_eq_true rfl, Nat.le_of_ble_eq_true rfl⟩ rfl (cat_len (Nat.le_of_ble_eq_true rfl)) dX6_wordAt_59 ?_
      have hk_p0 := tk_ hts4.1 hk_p0
      show v_ l D cy ka cX6_wordAt RX6 3 (some FieldType.int) "wordAt" 6 129 (qf_ D cy σ z (some (.int r))) σ z _ 62 [(0, va_rf (some p0)), (1, .int p1), (2, .int p2)] [.int x3]
      refine v_if_eq (tgt := 70) hf dX6_wordAt_62 (by decide) (fun hq hf => ?_) (fun hq hf => ?_)
      · refine v_iconst (v := (-1)) dX6_wordAt_70 (by decide) ?_
        refine v_sub [] (L2 := []) rfl ?_
        exact t_X6_wordAt_b71  hf
      · refine v_bipush (v := 23) dX6_wordAt_65 (by decide) ?_
        refine v_goto (tgt := 71) dX6_wordAt_67 (by decide) ?_
        refine v_sub [] (L2 := []) rfl ?_
        exact t_X6_wordAt_b71  hf
    · refine v_bipush (v := 21) dX6_wordAt_50 (by decide) ?_
      refine v_goto (tgt := 71) dX6_wordAt_52 (by decide) ?_
      refine v_sub [] (L2 := []) rfl ?_
      exact t_X6_wordAt_b71  hf
  rw [if_neg hq0] at hf
  by_cases hq1 : p2 = 3
  · rw [if_pos hq1] at hf
    refine v_tswIn (tgt := 72) (c9 := 3) hq1 dX6_wordAt_1 (by decide) (by decide) rfl (by decide) ?_
    refine v_aload_n (x := (some p0)) dX6_wordAt_72 rfl 0 rfl ?_
    refine v_iload_n (x := p1) dX6_wordAt_73 rfl 1 rfl ?_
    obtain ⟨hk_p0, hf⟩ := gt_of hf
    obtain ⟨x5, s6, hcs6, hf⟩ := bd_of hf
    have hts6 := c_X6_shortWordAt (l := l) (D := D) (cy := cy) (ka := ka) hcs6
    refine v_callV cb_7 hk_p0 (As := [.int p1]) (rest := []) hts6 yb_X6_shortWordAt kw_766 kw_768 kp_29 rfl ⟨Nat.le_of_ble_eq_true rfl, Nat.le_of_ble_eq_true rfl⟩ rfl (cat_len (Nat.le_of_ble_eq_true rfl)) dX6_wordAt_74 ?_
    have hk_p0 := tk_ hts6.1 hk_p0
    show v_ l D cy ka cX6_wordAt RX6 3 (some FieldType.int) "wordAt" 6 129 (qf_ D cy σ z (some (.int r))) σ z _ 77 [(0, va_rf (some p0)), (1, .int p1), (2, .int p2)] [.int x5]
    exact v_iret hf dX6_wordAt_77
  rw [if_neg hq1] at hf
  by_cases hq2 : p2 = 4
  · rw [if_pos hq2] at hf
    refine v_tswIn (tgt := 78) (c9 := 4) hq2 dX6_wordAt_1 (by decide) (by decide) rfl (by decide) ?_
    refine v_aload_n (x := (some p0)) dX6_wordAt_78 rfl 0 rfl ?_
    refine v_iload_n (x := p1) dX6_wordAt_79 rfl 1 rfl ?_
    refine v_ldcS (tx := "dead") (n := 7) (by decide) dX6_wordAt_80 ?_
    obtain ⟨hk_p0, hf⟩ := gt_of hf
    obtain ⟨x7, s8, hcs8, hf⟩ := bd_of hf
    have hts8 := c_X6_spells (l := l) (D := D) (cy := cy) (ka := ka) hcs8
    refine v_callV cb_7 hk_p0 (As := [.int p1, va_rf (some (ka 7))]) (rest := []) hts8 yb_X6_spells kw_715 kw_717 kp_28 rfl ⟨Nat.le_of_ble_eq_true rfl, Nat.le_of_ble_eq_true rfl⟩ rfl (cat_len (Nat.le_of_ble_eq_true rfl)) dX6_wordAt_82 ?_
    have hk_p0 := tk_ hts8.1 hk_p0
    show v_ l D cy ka cX6_wordAt RX6 3 (some FieldType.int) "wordAt" 6 129 (qf_ D cy σ z (some (.int r))) σ z _ 85 [(0, va_rf (some p0)), (1, .int p1), (2, .int p2)] [.int x7]
    refine v_if_eq (tgt := 93) hf dX6_wordAt_85 (by decide) (fun hq hf => ?_) (fun hq hf => ?_)
    · refine v_aload_n (x := (some p0)) dX6_wordAt_93 rfl 0 rfl ?_
      refine v_iload_n (x := p1) dX6_wordAt_94 rfl 1 rfl ?_
      refine v_ldcS (tx := "born") (n := 8) (by decide) dX6_wordAt_95 ?_
      obtain ⟨x9, s10, hcs10, hf⟩ := bd_of hf
      have hts10 := c_X6_spells (l := l) (D := D) (cy := cy) (ka := ka) hcs10
      refine v_callV cb_7 hk_p0 (As := [.int p1, va_rf (some (ka 8))]) (rest := []) hts10 yb_X6_spells kw_715 kw_717 kp_28 rfl ⟨Nat.le_of_ble_eq_true rfl, Nat.le_of_ble_eq_true rfl⟩ rfl (cat_len (Nat.le_of_ble_eq_true rfl)) dX6_wordAt_97 ?_
      have hk_p0 := tk_ hts10.1 hk_p0
      show v_ l D cy ka cX6_wordAt RX6 3 (some FieldType.int) "wordAt" 6 129 (qf_ D cy σ z (some (.int r))) σ z _ 100 [(0, va_rf (some p0)), (1, .int p1), (2, .int p2)] [.int x9]
      refine v_if_eq (tgt := 108) hf dX6_wordAt_100 (by decide) (fun hq hf => ?_) (fun hq hf => ?_)
      · refine v_aload_n (x := (some p0)) dX6_wordAt_108 rfl 0 rfl ?_
        refine v_iload_n (x := p1) dX6_wordAt_109 rfl 1 rfl ?_
        refine v_ldcS (tx := "year") (n := 9) (by decide) dX6_wordAt_110 ?_
        obtain ⟨x11, s12, hcs12, hf⟩ := bd_of hf
        have hts12 := c_X6_spells (l := l) (D := D) (cy := cy) (ka := ka) hcs12
        refine v_callV cb_7 hk_p0 (As := [.int p1, va_rf (some (ka 9))]) (rest := []) hts12 yb_X6_spells kw_715 kw_717 kp_28 rfl ⟨Nat.le_of_ble_eq_true rfl, Nat.le_of_ble_eq_true rfl⟩ rfl (cat_len (Nat.le_of_ble_eq_true rfl)) dX6_wordAt_112 ?_
        have hk_p0 := tk_ hts12.1 hk_p0
        show v_ l D cy ka cX6_wordAt RX6 3 (some FieldType.int) "wordAt" 6 129 (qf_ D cy σ z (some (.int r))) σ z _ 115 [(0, va_rf (some p0)), (1, .int p1), (2, .int p2)] [.int x11]
        refine v_if_eq (tgt := 123) hf dX6_wordAt_115 (by decide) (fun hq hf => ?_) (fun hq hf => ?_)
        · refine v_iconst (v := (-1)) dX6_wordAt_123 (by decide) ?_
          refine v_sub [] (L2 := []) rfl ?_
          exact t_X6_wordAt_b124  hf
        · refine v_bipush (v := 12) dX6_wordAt_118 (by decide) ?_
          refine v_goto (tgt := 124) dX6_wordAt_120 (by decide) ?_
          refine v_sub [] (L2 := []) rfl ?_
          exact t_X6_wordAt_b124  hf
      · refine v_bipush (v := 11) dX6_wordAt_103 (by decide) ?_
        refine v_goto (tgt := 124) dX6_wordAt_105 (by decide) ?_
        refine v_sub [] (L2 := []) rfl ?_
        exact t_X6_wordAt_b124  hf
    · refine v_bipush (v := 27) dX6_wordAt_88 (by decide) ?_
      refine v_goto (tgt := 124) dX6_wordAt_90 (by decide) ?_
      refine v_sub [] (L2 := []) rfl ?_
      exact t_X6_wordAt_b124  hf
  rw [if_neg hq2] at hf
  by_cases hq3 : p2 = 5
  · rw [if_pos hq3] at hf
    refine v_tswIn (tgt := 125) (c9 := 5) hq3 dX6_wordAt_1 (by decide) (by decide) rfl (by decide) ?_
    refine v_aload_n (x := (some p0)) dX6_wordAt_125 rfl 0 rfl ?_
    refine v_iload_n (x := p1) dX6_wordAt_126 rfl 1 rfl ?_
    refine v_ldcS (tx := "stale") (n := 10) (by decide) dX6_wordAt_127 ?_
    obtain ⟨hk_p0, hf⟩ := gt_of hf
    obtain ⟨x13, s14, hcs14, hf⟩ := bd_of hf
    have hts14 := c_X6_spells (l := l) (D := D) (cy := cy) (ka := ka) hcs14
    refine v_callV cb_7 hk_p0 (As := [.int p1, va_rf (some (ka 10))]) (rest := []) hts14 yb_X6_spells kw_715 kw_717 kp_28 rfl ⟨Nat.le_of_ble_eq_true rfl, Nat.le_of_ble_eq_true rfl⟩ rfl (cat_len (Nat.le_of_ble_eq_true rfl)) dX6_wordAt_129 ?_
    have hk_p0 := tk_ hts14.1 hk_p0
    show v_ l D cy ka cX6_wordAt RX6 3 (some FieldType.int) "wordAt" 6 129 (qf_ D cy σ z (some (.int r))) σ z _ 132 [(0, va_rf (some p0)), (1, .int p1), (2, .int p2)] [.int x13]
    refine v_if_eq (tgt := 140) hf dX6_wordAt_132 (by decide) (fun hq hf => ?_) (fun hq hf => ?_)
    · refine v_aload_n (x := (some p0)) dX6_wordAt_140 rfl 0 rfl ?_
      refine v_iload_n (x := p1) dX6_wordAt_141 rfl 1 rfl ?_
      refine v_ldcS (tx := "worth") (n := 11) (by decide) dX6_wordAt_142 ?_
      obtain ⟨x15, s16, hcs16, hf⟩ := bd_of hf
      have hts16 := c_X6_spells (l := l) (D := D) (cy := cy) (ka := ka) hcs16
      refine v_callV cb_7 hk_p0 (As := [.int p1, va_rf (some (ka 11))]) (rest := []) hts16 yb_X6_spells kw_715 kw_717 kp_28 rfl ⟨Nat.le_of_ble_eq_true rfl, Nat.le_of_ble_eq_true rfl⟩ rfl (cat_len (Nat.le_of_ble_eq_true rfl)) dX6_wordAt_144 ?_
      have hk_p0 := tk_ hts16.1 hk_p0
      show v_ l D cy ka cX6_wordAt RX6 3 (some FieldType.int) "wordAt" 6 129 (qf_ D cy σ z (some (.int r))) σ z _ 147 [(0, va_rf (some p0)), (1, .int p1), (2, .int p2)] [.int x15]
      refine v_if_eq (tgt := 155) hf dX6_wordAt_147 (by decide) (fun hq hf => ?_) (fun hq hf => ?_)
      · refine v_aload_n (x := (some p0)) dX6_wordAt_155 rfl 0 rfl ?_
        refine v_iload_n (x := p1) dX6_wordAt_156 rfl 1 rfl ?_
        refine v_ldcS (tx := "rival") (n := 12) (by decide) dX6_wordAt_157 ?_
        obtain ⟨x17, s18, hcs18, hf⟩ := bd_of hf
        have hts18 := c_X6_spells (l := l) (D := D) (cy := cy) (ka := ka) hcs18
        refine v_callV cb_7 hk_p0 (As := [.int p1, va_rf (some (ka 12))]) (rest := []) hts18 yb_X6_spells kw_715 kw_717 kp_28 rfl ⟨Nat.le_of_ble_eq_true rfl, Nat.le_of_ble_eq_true rfl⟩ rfl (cat_len (Nat.le_of_ble_eq_true rfl)) dX6_wordAt_159 ?_
        have hk_p0 := tk_ hts18.1 hk_p0
        show v_ l D cy ka cX6_wordAt RX6 3 (some FieldType.int) "wordAt" 6 129 (qf_ D cy σ z (some (.int r))) σ z _ 162 [(0, va_rf (some p0)), (1, .int p1), (2, .int p2)] [.int x17]
        refine v_if_eq (tgt := 170) hf dX6_wordAt_162 (by decide) (fun hq hf => ?_) (fun hq hf => ?_)
        · refine v_aload_n (x := (some p0)) dX6_wordAt_170 rfl 0 rfl ?_
          refine v_iload_n (x := p1) dX6_wordAt_171 rfl 1 rfl ?_
          refine v_ldcS (tx := "hours") (n := 13) (by decide) dX6_wordAt_172 ?_
          obtain ⟨x19, s20, hcs20, hf⟩ := bd_of hf
          have hts20 := c_X6_spells (l := l) (D := D) (cy := cy) (ka := ka) hcs20
          refine v_callV cb_7 hk_p0 (As := [.int p1, va_rf (some (ka 13))]) (rest := []) hts20 yb_X6_spells kw_715 kw_717 kp_28 rfl ⟨Nat.le_of_ble_eq_true rfl, Nat.le_of_ble_eq_true rfl⟩ rfl (cat_len (Nat.le_of_ble_eq_true rfl)) dX6_wordAt_174 ?_
          have hk_p0 := tk_ hts20.1 hk_p0
          show v_ l D cy ka cX6_wordAt RX6 3 (some FieldType.int) "wordAt" 6 129 (qf_ D cy σ z (some (.int r))) σ z _ 177 [(0, va_rf (some p0)), (1, .int p1), (2, .int p2)] [.int x19]
          refine v_if_eq (tgt := 185) hf dX6_wordAt_177 (by decide) (fun hq hf => ?_) (fun hq hf => ?_)
          · refine v_iconst (v := (-1)) dX6_wordAt_185 (by decide) ?_
            refine v_sub [] (L2 := []) rfl ?_
            exact t_X6_wordAt_b186  hf
          · refine v_bipush (v := 20) dX6_wordAt_180 (by decide) ?_
            refine v_goto (tgt := 186) dX6_wordAt_182 (by decide) ?_
            refine v_sub [] (L2 := []) rfl ?_
            exact t_X6_wordAt_b186  hf
        · refine v_bipush (v := 18) dX6_wordAt_165 (by decide) ?_
          refine v_goto (tgt := 186) dX6_wordAt_167 (by decide) ?_
          refine v_sub [] (L2 := []) rfl ?_
          exact t_X6_wordAt_b186  hf
      · refine v_bipush (v := 13) dX6_wordAt_150 (by decide) ?_
        refine v_goto (tgt := 186) dX6_wordAt_152 (by decide) ?_
        refine v_sub [] (L2 := []) rfl ?_
        exact t_X6_wordAt_b186  hf
    · refine v_bipush (v := 26) dX6_wordAt_135 (by decide) ?_
      refine v_goto (tgt := 186) dX6_wordAt_137 (by decide) ?_
      refine v_sub [] (L2 := []) rfl ?_
      exact t_X6_wordAt_b186  hf
  rw [if_neg hq3] at hf
  by_cases hq4 : p2 = 6
  · rw [if_pos hq4] at hf
    refine v_tswIn (tgt := 187) (c9 := 6) hq4 dX6_wordAt_1 (by decide) (by decide) rfl (by decide) ?_
    refine v_aload_n (x := (some p0)) dX6_wordAt_187 rfl 0 rfl ?_
    refine v_iload_n (x := p1) dX6_wordAt_188 rfl 1 rfl ?_
    refine v_ldcS (tx := "doctor") (n := 14) (by decide) dX6_wordAt_189 ?_
    obtain ⟨hk_p0, hf⟩ := gt_of hf
    obtain ⟨x21, s22, hcs22, hf⟩ := bd_of hf
    have hts22 := c_X6_spells (l := l) (D := D) (cy := cy) (ka := ka) hcs22
    refine v_callV cb_7 hk_p0 (As := [.int p1, va_rf (some (ka 14))]) (rest := []) hts22 yb_X6_spells kw_715 kw_717 kp_28 rfl ⟨Nat.le_of_ble_eq_true rfl, Nat.le_of_ble_eq_true rfl⟩ rfl (cat_len (Nat.le_of_ble_eq_true rfl)) dX6_wordAt_191 ?_
    have hk_p0 := tk_ hts22.1 hk_p0
    show v_ l D cy ka cX6_wordAt RX6 3 (some FieldType.int) "wordAt" 6 129 (qf_ D cy σ z (some (.int r))) σ z _ 194 [(0, va_rf (some p0)), (1, .int p1), (2, .int p2)] [.int x21]
    refine v_if_eq (tgt := 202) hf dX6_wordAt_194 (by decide) (fun hq hf => ?_) (fun hq hf => ?_)
    · refine v_aload_n (x := (some p0)) dX6_wordAt_202 rfl 0 rfl ?_
      refine v_iload_n (x := p1) dX6_wordAt_203 rfl 1 rfl ?_
      refine v_ldcS (tx := "office") (n := 15) (by decide) dX6_wordAt_204 ?_
      obtain ⟨x23, s24, hcs24, hf⟩ := bd_of hf
      have hts24 := c_X6_spells (l := l) (D := D) (cy := cy) (ka := ka) hcs24
      refine v_callV cb_7 hk_p0 (As := [.int p1, va_rf (some (ka 15))]) (rest := []) hts24 yb_X6_spells kw_715 kw_717 kp_28 rfl ⟨Nat.le_of_ble_eq_true rfl, Nat.le_of_ble_eq_true rfl⟩ rfl (cat_len (Nat.le_of_ble_eq_true rfl)) dX6_wordAt_206 ?_
      have hk_p0 := tk_ hts24.1 hk_p0
      show v_ l D cy ka cX6_wordAt RX6 3 (some FieldType.int) "wordAt" 6 129 (qf_ D cy σ z (some (.int r))) σ z _ 209 [(0, va_rf (some p0)), (1, .int p1), (2, .int p2)] [.int x23]
      refine v_if_eq (tgt := 217) hf dX6_wordAt_209 (by decide) (fun hq hf => ?_) (fun hq hf => ?_)
      · refine v_aload_n (x := (some p0)) dX6_wordAt_217 rfl 0 rfl ?_
        refine v_iload_n (x := p1) dX6_wordAt_218 rfl 1 rfl ?_
        refine v_ldcS (tx := "agency") (n := 16) (by decide) dX6_wordAt_219 ?_
        obtain ⟨x25, s26, hcs26, hf⟩ := bd_of hf
        have hts26 := c_X6_spells (l := l) (D := D) (cy := cy) (ka := ka) hcs26
        refine v_callV cb_7 hk_p0 (As := [.int p1, va_rf (some (ka 16))]) (rest := []) hts26 yb_X6_spells kw_715 kw_717 kp_28 rfl ⟨Nat.le_of_ble_eq_true rfl, Nat.le_of_ble_eq_true rfl⟩ rfl (cat_len (Nat.le_of_ble_eq_true rfl)) dX6_wordAt_221 ?_
        have hk_p0 := tk_ hts26.1 hk_p0
        show v_ l D cy ka cX6_wordAt RX6 3 (some FieldType.int) "wordAt" 6 129 (qf_ D cy σ z (some (.int r))) σ z _ 224 [(0, va_rf (some p0)), (1, .int p1), (2, .int p2)] [.int x25]
        refine v_if_eq (tgt := 232) hf dX6_wordAt_224 (by decide) (fun hq hf => ?_) (fun hq hf => ?_)
        · refine v_iconst (v := (-1)) dX6_wordAt_232 (by decide) ?_
          refine v_sub [] (L2 := []) rfl ?_
          exact t_X6_wordAt_b233  hf
        · refine v_bipush (v := 17) dX6_wordAt_227 (by decide) ?_
          refine v_goto (tgt := 233) dX6_wordAt_229 (by decide) ?_
          refine v_sub [] (L2 := []) rfl ?_
          exact t_X6_wordAt_b233  hf
      · refine v_bipush (v := 16) dX6_wordAt_212 (by decide) ?_
        refine v_goto (tgt := 233) dX6_wordAt_214 (by decide) ?_
        refine v_sub [] (L2 := []) rfl ?_
        exact t_X6_wordAt_b233  hf
    · refine v_bipush (v := 15) dX6_wordAt_197 (by decide) ?_
      refine v_goto (tgt := 233) dX6_wordAt_199 (by decide) ?_
      refine v_sub [] (L2 := []) rfl ?_
      exact t_X6_wordAt_b233  hf
  rw [if_neg hq4] at hf
  by_cases hq5 : p2 = 7
  · rw [if_pos hq5] at hf
    refine v_tswIn (tgt := 234) (c9 := 7) hq5 dX6_wordAt_1 (by decide) (by decide) rfl (by decide) ?_
    refine v_aload_n (x := (some p0)) dX6_wordAt_234 rfl 0 rfl ?_
    refine v_iload_n (x := p1) dX6_wordAt_235 rfl 1 rfl ?_
    refine v_ldcS (tx := "sources") (n := 17) (by decide) dX6_wordAt_236 ?_
    obtain ⟨hk_p0, hf⟩ := gt_of hf
    obtain ⟨x27, s28, hcs28, hf⟩ := bd_of hf
    have hts28 := c_X6_spells (l := l) (D := D) (cy := cy) (ka := ka) hcs28
    refine v_callV cb_7 hk_p0 (As := [.int p1, va_rf (some (ka 17))]) (rest := []) hts28 yb_X6_spells kw_715 kw_717 kp_28 rfl ⟨Nat.le_of_ble_eq_true rfl, Nat.le_of_ble_eq_true rfl⟩ rfl (cat_len (Nat.le_of_ble_eq_true rfl)) dX6_wordAt_238 ?_
    have hk_p0 := tk_ hts28.1 hk_p0
    show v_ l D cy ka cX6_wordAt RX6 3 (some FieldType.int) "wordAt" 6 129 (qf_ D cy σ z (some (.int r))) σ z _ 241 [(0, va_rf (some p0)), (1, .int p1), (2, .int p2)] [.int x27]
    refine v_if_eq (tgt := 249) hf dX6_wordAt_241 (by decide) (fun hq hf => ?_) (fun hq hf => ?_)
    · refine v_iconst (v := (-1)) dX6_wordAt_249 (by decide) ?_
      refine v_sub [] (L2 := []) rfl ?_
      exact t_X6_wordAt_b250  hf
    · refine v_bipush (v := 19) dX6_wordAt_244 (by decide) ?_
      refine v_goto (tgt := 250) dX6_wordAt_246 (by decide) ?_
      refine v_sub [] (L2 := []) rfl ?_
      exact t_X6_wordAt_b250  hf
  rw [if_neg hq5] at hf
  refine v_tswOut (tgt := 251) 6 2 (by decide) (by decide) (fun j hj => ?_) (by decide) (by decide) dX6_wordAt_1 (by decide) ?_
  · match j, hj with
    | 0, _ => exact hq0
    | 1, _ => exact hq1
    | 2, _ => exact hq2
    | 3, _ => exact hq3
    | 4, _ => exact hq4
    | 5, _ => exact hq5
    | j + 6, hj => exact absurd hj (by omega)
  · refine v_iconst (v := (-1)) dX6_wordAt_251 (by decide) ?_
    exact v_iret hf dX6_wordAt_252
theorem dX6_readWord_0 : decode cX6_readWord 0 = .ok (.aload_n 0, 1) := by decide +kernel
theorem dX6_readWord_1 : decode cX6_readWord 1 = .ok (.getfield 42, 3) := by decide +kernel
theorem dX6_readWord_4 : decode cX6_readWord 4 = .ok (.istore_n 1, 1) := by decide +kernel
theorem dX6_readWord_5 : decode cX6_readWord 5 = .ok (.iconst 0, 1) := by decide +kernel
theorem dX6_readWord_6 : decode cX6_readWord 6 = .ok (.istore_n 2, 1) := by decide +kernel
theorem dX6_readWord_7 : decode cX6_readWord 7 = .ok (.iload_n 2, 1) := by decide +kernel
theorem dX6_readWord_8 : decode cX6_readWord 8 = .ok (.sipush 400, 3) := by decide +kernel
theorem dX6_readWord_11 : decode cX6_readWord 11 = .ok (.if_icmp .ge 22, 3) := by decide +kernel
theorem dX6_readWord_14 : decode cX6_readWord 14 = .ok (.aload_n 0, 1) := by decide +kernel
theorem dX6_readWord_15 : decode cX6_readWord 15 = .ok (.iload_n 1, 1) := by decide +kernel
theorem dX6_readWord_16 : decode cX6_readWord 16 = .ok (.iload_n 2, 1) := by decide +kernel
theorem dX6_readWord_17 : decode cX6_readWord 17 = .ok (.iadd, 1) := by decide +kernel
theorem dX6_readWord_18 : decode cX6_readWord 18 = .ok (.invokevirtual 80, 3) := by decide +kernel
theorem dX6_readWord_21 : decode cX6_readWord 21 = .ok (.invokestatic 88, 3) := by decide +kernel
theorem dX6_readWord_24 : decode cX6_readWord 24 = .ok (.ifCond .eq 9, 3) := by decide +kernel
theorem dX6_readWord_27 : decode cX6_readWord 27 = .ok (.iinc 2 1, 3) := by decide +kernel
theorem dX6_readWord_30 : decode cX6_readWord 30 = .ok (.goto (-23), 3) := by decide +kernel
theorem dX6_readWord_33 : decode cX6_readWord 33 = .ok (.aload_n 0, 1) := by decide +kernel
theorem dX6_readWord_34 : decode cX6_readWord 34 = .ok (.iload_n 1, 1) := by decide +kernel
theorem dX6_readWord_35 : decode cX6_readWord 35 = .ok (.iload_n 2, 1) := by decide +kernel
theorem dX6_readWord_36 : decode cX6_readWord 36 = .ok (.iadd, 1) := by decide +kernel
theorem dX6_readWord_37 : decode cX6_readWord 37 = .ok (.putfield 42, 3) := by decide +kernel
theorem dX6_readWord_40 : decode cX6_readWord 40 = .ok (.iload_n 2, 1) := by decide +kernel
theorem dX6_readWord_41 : decode cX6_readWord 41 = .ok (.bipush 8, 2) := by decide +kernel
theorem dX6_readWord_43 : decode cX6_readWord 43 = .ok (.if_icmp .le 10, 3) := by decide +kernel
theorem dX6_readWord_46 : decode cX6_readWord 46 = .ok (.aload_n 0, 1) := by decide +kernel
theorem dX6_readWord_47 : decode cX6_readWord 47 = .ok (.iconst 1, 1) := by decide +kernel
theorem dX6_readWord_48 : decode cX6_readWord 48 = .ok (.iload_n 1, 1) := by decide +kernel
theorem dX6_readWord_49 : decode cX6_readWord 49 = .ok (.invokevirtual 121, 3) := by decide +kernel
theorem dX6_readWord_52 : decode cX6_readWord 52 = .ok (.return_, 1) := by decide +kernel
theorem dX6_readWord_53 : decode cX6_readWord 53 = .ok (.aload_n 0, 1) := by decide +kernel
theorem dX6_readWord_54 : decode cX6_readWord 54 = .ok (.aload_n 0, 1) := by decide +kernel
theorem dX6_readWord_55 : decode cX6_readWord 55 = .ok (.getfield 42, 3) := by decide +kernel
theorem dX6_readWord_58 : decode cX6_readWord 58 = .ok (.invokevirtual 80, 3) := by decide +kernel
theorem dX6_readWord_61 : decode cX6_readWord 61 = .ok (.istore_n 3, 1) := by decide +kernel
theorem dX6_readWord_62 : decode cX6_readWord 62 = .ok (.iload_n 3, 1) := by decide +kernel
theorem dX6_readWord_63 : decode cX6_readWord 63 = .ok (.invokestatic 95, 3) := by decide +kernel
theorem dX6_readWord_66 : decode cX6_readWord 66 = .ok (.ifCond .ne 15, 3) := by decide +kernel
theorem dX6_readWord_69 : decode cX6_readWord 69 = .ok (.aload_n 0, 1) := by decide +kernel
theorem dX6_readWord_70 : decode cX6_readWord 70 = .ok (.aload_n 0, 1) := by decide +kernel
theorem dX6_readWord_71 : decode cX6_readWord 71 = .ok (.iload_n 1, 1) := by decide +kernel
theorem dX6_readWord_72 : decode cX6_readWord 72 = .ok (.iload_n 2, 1) := by decide +kernel
theorem dX6_readWord_73 : decode cX6_readWord 73 = .ok (.invokevirtual 141, 3) := by decide +kernel
theorem dX6_readWord_76 : decode cX6_readWord 76 = .ok (.iload_n 1, 1) := by decide +kernel
theorem dX6_readWord_77 : decode cX6_readWord 77 = .ok (.invokevirtual 144, 3) := by decide +kernel
theorem dX6_readWord_80 : decode cX6_readWord 80 = .ok (.return_, 1) := by decide +kernel
theorem dX6_readWord_81 : decode cX6_readWord 81 = .ok (.aload_n 0, 1) := by decide +kernel
theorem dX6_readWord_82 : decode cX6_readWord 82 = .ok (.dup, 1) := by decide +kernel
theorem dX6_readWord_83 : decode cX6_readWord 83 = .ok (.getfield 42, 3) := by decide +kernel
theorem dX6_readWord_86 : decode cX6_readWord 86 = .ok (.iconst 1, 1) := by decide +kernel
theorem dX6_readWord_87 : decode cX6_readWord 87 = .ok (.iadd, 1) := by decide +kernel
theorem dX6_readWord_88 : decode cX6_readWord 88 = .ok (.putfield 42, 3) := by decide +kernel
theorem dX6_readWord_91 : decode cX6_readWord 91 = .ok (.iload_n 2, 1) := by decide +kernel
theorem dX6_readWord_92 : decode cX6_readWord 92 = .ok (.iconst 1, 1) := by decide +kernel
theorem dX6_readWord_93 : decode cX6_readWord 93 = .ok (.if_icmp .ne 17, 3) := by decide +kernel
theorem dX6_readWord_96 : decode cX6_readWord 96 = .ok (.aload_n 0, 1) := by decide +kernel
theorem dX6_readWord_97 : decode cX6_readWord 97 = .ok (.iload_n 1, 1) := by decide +kernel
theorem dX6_readWord_98 : decode cX6_readWord 98 = .ok (.invokevirtual 80, 3) := by decide +kernel
theorem dX6_readWord_101 : decode cX6_readWord 101 = .ok (.bipush 107, 2) := by decide +kernel
theorem dX6_readWord_103 : decode cX6_readWord 103 = .ok (.if_icmp .ne 7, 3) := by decide +kernel
theorem dX6_readWord_106 : decode cX6_readWord 106 = .ok (.iconst 1, 1) := by decide +kernel
theorem dX6_readWord_107 : decode cX6_readWord 107 = .ok (.goto 4, 3) := by decide +kernel
theorem dX6_readWord_110 : decode cX6_readWord 110 = .ok (.iconst 0, 1) := by decide +kernel
theorem dX6_readWord_111 : decode cX6_readWord 111 = .ok (.istore 4, 2) := by decide +kernel
theorem dX6_readWord_113 : decode cX6_readWord 113 = .ok (.aload_n 0, 1) := by decide +kernel
theorem dX6_readWord_114 : decode cX6_readWord 114 = .ok (.iload 4, 2) := by decide +kernel
theorem dX6_readWord_116 : decode cX6_readWord 116 = .ok (.ifCond .eq 10, 3) := by decide +kernel
theorem dX6_readWord_119 : decode cX6_readWord 119 = .ok (.iload_n 3, 1) := by decide +kernel
theorem dX6_readWord_120 : decode cX6_readWord 120 = .ok (.bipush 48, 2) := by decide +kernel
theorem dX6_readWord_122 : decode cX6_readWord 122 = .ok (.isub, 1) := by decide +kernel
theorem dX6_readWord_123 : decode cX6_readWord 123 = .ok (.goto 4, 3) := by decide +kernel
theorem dX6_readWord_126 : decode cX6_readWord 126 = .ok (.iconst (-1), 1) := by decide +kernel
theorem dX6_readWord_127 : decode cX6_readWord 127 = .ok (.iload_n 1, 1) := by decide +kernel
theorem dX6_readWord_128 : decode cX6_readWord 128 = .ok (.invokevirtual 144, 3) := by decide +kernel
theorem dX6_readWord_131 : decode cX6_readWord 131 = .ok (.return_, 1) := by decide +kernel
def f_X6_readWord_b127 (σ : TH) (l1 : Int32) (t0 : Int32) (t1 : Option Nat) : Option (Unit × TH) :=
  nn_ t1 fun a16 => gt_ (kd_ σ a16 = 8) <| bd_ (f_X6_takeWord σ a16 t0 l1) fun x17 s18 => some ((), s18)
set_option maxHeartbeats 4000000 in
set_option maxRecDepth 100000 in
theorem t_X6_readWord_b127 {l : Launch} {D : va_G} {cy : Nat → ClassId} {ka : Nat → Nat} {σ0 z : TH} {r : Unit}  {σ : TH} {l1 : Int32} {t0 : Int32} {t1 : Option Nat} (hf : f_X6_readWord_b127 σ l1 t0 t1 = some (r, z)) : v_ l D cy ka cX6_readWord RX6 5 none "readWord" 7 151 (qf_ D cy σ0 z none) σ0 z σ 127 [(1, .int l1)] [.int t0, va_rf t1] := by
  unfold f_X6_readWord_b127 at hf
  refine v_iload_n (x := l1) dX6_readWord_127 rfl 0 rfl ?_
  obtain ⟨a16, rfl, hf⟩ := nn_of hf
  obtain ⟨hk_a16, hf⟩ := gt_of hf
  obtain ⟨x17, s18, hcs18, hf⟩ := bd_of hf
  have hts18 := c_X6_takeWord (l := l) (D := D) (cy := cy) (ka := ka) hcs18
  refine v_callV cb_7 hk_a16 (As := [.int t0, .int l1]) (rest := []) hts18 yb_X6_takeWord kw_786 kw_788 kp_30 rfl ⟨Nat.le_of_ble_eq_true rfl, Nat.le_of_ble_eq_true rfl⟩ rfl (cat_len (Nat.le_of_ble_eq_true rfl)) dX6_readWord_128 ?_
  show v_ l D cy ka cX6_readWord RX6 5 none "readWord" 7 151 (qf_ D cy σ0 z none) σ0 z _ 131 [(1, .int l1)] []
  exact v_vret hf dX6_readWord_131
def f_X6_readWord_b111 (σ : TH) (l0 : Nat) (l1 : Int32) (l3 : Int32) (t0 : Int32) : Option (Unit × TH) :=
  if t0 = 0 then (f_X6_readWord_b127 σ l1 (-1 : Int32) (some l0)) else (f_X6_readWord_b127 σ l1 (l3 - (48 : Int32)) (some l0))
set_option maxHeartbeats 4000000 in
set_option maxRecDepth 100000 in
theorem t_X6_readWord_b111 {l : Launch} {D : va_G} {cy : Nat → ClassId} {ka : Nat → Nat} {σ0 z : TH} {r : Unit}  {σ : TH} {l0 : Nat} {l1 : Int32} {l3 : Int32} {t0 : Int32} (hf : f_X6_readWord_b111 σ l0 l1 l3 t0 = some (r, z)) : v_ l D cy ka cX6_readWord RX6 5 none "readWord" 7 151 (qf_ D cy σ0 z none) σ0 z σ 111 [(0, va_rf (some l0)), (1, .int l1), (3, .int l3)] [.int t0] := by
  unfold f_X6_readWord_b111 at hf
  refine v_istore [(4, .int t0), (0, va_rf (some l0)), (1, .int l1), (3, .int l3)] dX6_readWord_111 (by decide) rfl ?_
  refine v_aload_n (x := (some l0)) dX6_readWord_113 rfl 1 rfl ?_
  refine v_iload (x := t0) dX6_readWord_114 0 rfl ?_
  refine v_if_eq (tgt := 126) hf dX6_readWord_116 (by decide) (fun hq hf => ?_) (fun hq hf => ?_)
  · refine v_iconst (v := (-1)) dX6_readWord_126 (by decide) ?_
    refine v_sub [2] (L2 := [(1, .int l1)]) rfl ?_
    exact t_X6_readWord_b127  hf
  · refine v_iload_n (x := l3) dX6_readWord_119 rfl 3 rfl ?_
    refine v_bipush (v := 48) dX6_readWord_120 (by decide) ?_
    refine v_isub dX6_readWord_122 ?_
    refine v_goto (tgt := 127) dX6_readWord_123 (by decide) ?_
    refine v_sub [2] (L2 := [(1, .int l1)]) rfl ?_
    exact t_X6_readWord_b127  hf
def f_X6_readWord_b110 (σ : TH) (l0 : Nat) (l1 : Int32) (l3 : Int32) : Option (Unit × TH) :=
  f_X6_readWord_b111 σ l0 l1 l3 (0 : Int32)
set_option maxHeartbeats 4000000 in
set_option maxRecDepth 100000 in
theorem t_X6_readWord_b110 {l : Launch} {D : va_G} {cy : Nat → ClassId} {ka : Nat → Nat} {σ0 z : TH} {r : Unit}  {σ : TH} {l0 : Nat} {l1 : Int32} {l3 : Int32} (hf : f_X6_readWord_b110 σ l0 l1 l3 = some (r, z)) : v_ l D cy ka cX6_readWord RX6 5 none "readWord" 7 151 (qf_ D cy σ0 z none) σ0 z σ 110 [(0, va_rf (some l0)), (1, .int l1), (3, .int l3)] [] := by
  unfold f_X6_readWord_b110 at hf
  refine v_iconst (v := 0) dX6_readWord_110 (by decide) ?_
  refine v_sub [0, 1, 2] (L2 := [(0, va_rf (some l0)), (1, .int l1), (3, .int l3)]) rfl ?_
  exact t_X6_readWord_b111  hf
def f_X6_readWord_b33 (σ : TH) (l0 : Nat) (l1 : Int32) (l2 : Int32) : Option (Unit × TH) :=
  gt_ (kd_ σ l0 = 8) <| lt_ (si_ σ 709 l0 (l1 + l2)) fun s2 => if l2 ≤ (8 : Int32) then (lt_ (fi_ s2 709 l0) fun x3 => bd_ (f_X6_byteAt s2 l0 x3) fun x4 s5 => bd_ (f_X6_isDigit s5 x4) fun x6 s7 => if x6 = 0 then (bd_ (f_X6_wordAt s7 l0 l1 l2) fun x8 s9 => bd_ (f_X6_takeWord s9 l0 x8 l1) fun x10 s11 => some ((), s11)) else (lt_ (fi_ s7 709 l0) fun x12 => lt_ (si_ s7 709 l0 (x12 + (1 : Int32))) fun s13 => if l2 = (1 : Int32) then (bd_ (f_X6_byteAt s13 l0 l1) fun x14 s15 => if x14 = (107 : Int32) then (f_X6_readWord_b111 s15 l0 l1 x4 (1 : Int32)) else (f_X6_readWord_b110 s15 l0 l1 x4)) else (f_X6_readWord_b110 s13 l0 l1 x4))) else (bd_ (f_X6_fail s2 l0 (1 : Int32) l1) fun x19 s20 => some ((), s20))
set_option maxHeartbeats 4000000 in
set_option maxRecDepth 100000 in
theorem t_X6_readWord_b33 {l : Launch} {D : va_G} {cy : Nat → ClassId} {ka : Nat → Nat} {σ0 z : TH} {r : Unit}  {σ : TH} {l0 : Nat} {l1 : Int32} {l2 : Int32} (hf : f_X6_readWord_b33 σ l0 l1 l2 = some (r, z)) : v_ l D cy ka cX6_readWord RX6 5 none "readWord" 7 151 (qf_ D cy σ0 z none) σ0 z σ 33 [(0, va_rf (some l0)), (1, .int l1), (2, .int l2)] [] := by
  unfold f_X6_readWord_b33 at hf
  refine v_aload_n (x := (some l0)) dX6_readWord_33 rfl 0 rfl ?_
  refine v_iload_n (x := l1) dX6_readWord_34 rfl 1 rfl ?_
  refine v_iload_n (x := l2) dX6_readWord_35 rfl 2 rfl ?_
  refine v_iadd dX6_readWord_36 ?_
  obtain ⟨hk_l0, hf⟩ := gt_of hf
  refine v_puti2 cb_7 hk_l0 9 709 rfl (by decide) rfl (lk_n kw_86 rfl) (Or.inl rfl) rfl rfl hf dX6_readWord_37 (fun s2 hts2 hf => ?_)
  have hk_l0 := tk_ hts2 hk_l0
  refine v_iload_n (x := l2) dX6_readWord_40 rfl 2 rfl ?_
  refine v_bipush (v := 8) dX6_readWord_41 (by decide) ?_
  refine v_icmp_le (tgt := 53) hf dX6_readWord_43 (by decide) (fun hq hf => ?_) (fun hq hf => ?_)
  · refine v_aload_n (x := (some l0)) dX6_readWord_53 rfl 0 rfl ?_
    refine v_aload_n (x := (some l0)) dX6_readWord_54 rfl 0 rfl ?_
    refine v_geti cb_7 hk_l0 9 709 rfl (by decide) rfl (lk_n kw_86 rfl) hf dX6_readWord_55 (fun x3 hf => ?_)
    obtain ⟨x4, s5, hcs5, hf⟩ := bd_of hf
    have hts5 := c_X6_byteAt (l := l) (D := D) (cy := cy) (ka := ka) hcs5
    refine v_callV cb_7 hk_l0 (As := [.int x3]) (rest := []) hts5 yb_X6_byteAt kw_668 kw_670 kp_18 rfl ⟨Nat.le_of_ble_eq_true rfl, Nat.le_of_ble_eq_true rfl⟩ rfl (cat_len (Nat.le_of_ble_eq_true rfl)) dX6_readWord_58 ?_
    have hk_l0 := tk_ hts5.1 hk_l0
    show v_ l D cy ka cX6_readWord RX6 5 none "readWord" 7 151 (qf_ D cy σ0 z none) σ0 z _ 61 [(0, va_rf (some l0)), (1, .int l1), (2, .int l2)] [.int x4]
    refine v_istore_n [(3, .int x4), (0, va_rf (some l0)), (1, .int l1), (2, .int l2)] dX6_readWord_61 rfl (by decide) rfl ?_
    refine v_iload_n (x := x4) dX6_readWord_62 rfl 0 rfl ?_
    obtain ⟨x6, s7, hcs7, hf⟩ := bd_of hf
    have hts7 := c_X6_isDigit (l := l) (D := D) (cy := cy) (ka := ka) hcs7
    refine v_callS (As := [.int x4]) (rest := []) hts7 yb_X6_isDigit kw_707 kw_708 rfl ⟨Nat.le_of_ble_eq_true rfl, Nat.le_of_ble_eq_true rfl⟩ rfl (cat_len (Nat.le_of_ble_eq_true rfl)) dX6_readWord_63 ?_
    have hk_l0 := tk_ hts7.1 hk_l0
    show v_ l D cy ka cX6_readWord RX6 5 none "readWord" 7 151 (qf_ D cy σ0 z none) σ0 z _ 66 [(3, .int x4), (0, va_rf (some l0)), (1, .int l1), (2, .int l2)] [.int x6]
    refine v_if_ne (tgt := 81) hf dX6_readWord_66 (by decide) (fun hq hf => ?_) (fun hq hf => ?_)
    · refine v_aload_n (x := (some l0)) dX6_readWord_69 rfl 1 rfl ?_
      refine v_aload_n (x := (some l0)) dX6_readWord_70 rfl 1 rfl ?_
      refine v_iload_n (x := l1) dX6_readWord_71 rfl 2 rfl ?_
      refine v_iload_n (x := l2) dX6_readWord_72 rfl 3 rfl ?_
      obtain ⟨x8, s9, hcs9, hf⟩ := bd_of hf
      have hts9 := c_X6_wordAt (l := l) (D := D) (cy := cy) (ka := ka) hcs9
      refine v_callV cb_7 hk_l0 (As := [.int l1, .int l2]) (rest := [va_rf (some l0)]) hts9 yb_X6_wordAt kw_710 kw_712 kp_27 rfl ⟨Nat.le_of_ble_eq_true rfl, Nat.le_of_ble_eq_true rfl⟩ rfl (cat_len (Nat.le_of_ble_eq_true rfl)) dX6_readWord_73 ?_
      have hk_l0 := tk_ hts9.1 hk_l0
      show v_ l D cy ka cX6_readWord RX6 5 none "readWord" 7 151 (qf_ D cy σ0 z none) σ0 z _ 76 [(3, .int x4), (0, va_rf (some l0)), (1, .int l1), (2, .int l2)] [.int x8, va_rf (some l0)]
      refine v_iload_n (x := l1) dX6_readWord_76 rfl 2 rfl ?_
      obtain ⟨x10, s11, hcs11, hf⟩ := bd_of hf
      have hts11 := c_X6_takeWord (l := l) (D := D) (cy := cy) (ka := ka) hcs11
      refine v_callV cb_7 hk_l0 (As := [.int x8, .int l1]) (rest := []) hts11 yb_X6_takeWord kw_786 kw_788 kp_30 rfl ⟨Nat.le_of_ble_eq_true rfl, Nat.le_of_ble_eq_true rfl⟩ rfl (cat_len (Nat.le_of_ble_eq_true rfl)) dX6_readWord_77 ?_
      have hk_l0 := tk_ hts11.1 hk_l0
      show v_ l D cy ka cX6_readWord RX6 5 none "readWord" 7 151 (qf_ D cy σ0 z none) σ0 z _ 80 [(3, .int x4), (0, va_rf (some l0)), (1, .int l1), (2, .int l2)] []
      exact v_vret hf dX6_readWord_80
    · refine v_aload_n (x := (some l0)) dX6_readWord_81 rfl 1 rfl ?_
      refine v_dup dX6_readWord_82 (va_rf_cat _) ?_
      refine v_geti cb_7 hk_l0 9 709 rfl (by decide) rfl (lk_n kw_86 rfl) hf dX6_readWord_83 (fun x12 hf => ?_)
      refine v_iconst (v := 1) dX6_readWord_86 (by decide) ?_
      refine v_iadd dX6_readWord_87 ?_
      refine v_puti2 cb_7 hk_l0 9 709 rfl (by decide) rfl (lk_n kw_86 rfl) (Or.inl rfl) rfl rfl hf dX6_readWord_88 (fun s13 hts13 hf => ?_)
      have hk_l0 := tk_ hts13 hk_l0
      refine v_iload_n (x := l2) dX6_readWord_91 rfl 3 rfl ?_
      refine v_iconst (v := 1) dX6_readWord_92 (by decide) ?_
      refine v_icmp_ne (tgt := 110) hf dX6_readWord_93 (by decide) (fun hq hf => ?_) (fun hq hf => ?_)
      · refine v_aload_n (x := (some l0)) dX6_readWord_96 rfl 1 rfl ?_
        refine v_iload_n (x := l1) dX6_readWord_97 rfl 2 rfl ?_
        obtain ⟨x14, s15, hcs15, hf⟩ := bd_of hf
        have hts15 := c_X6_byteAt (l := l) (D := D) (cy := cy) (ka := ka) hcs15
        refine v_callV cb_7 hk_l0 (As := [.int l1]) (rest := []) hts15 yb_X6_byteAt kw_668 kw_670 kp_18 rfl ⟨Nat.le_of_ble_eq_true rfl, Nat.le_of_ble_eq_true rfl⟩ rfl (cat_len (Nat.le_of_ble_eq_true rfl)) dX6_readWord_98 ?_
        have hk_l0 := tk_ hts15.1 hk_l0
        show v_ l D cy ka cX6_readWord RX6 5 none "readWord" 7 151 (qf_ D cy σ0 z none) σ0 z _ 101 [(3, .int x4), (0, va_rf (some l0)), (1, .int l1), (2, .int l2)] [.int x14]
        refine v_bipush (v := 107) dX6_readWord_101 (by decide) ?_
        refine v_icmp_ne (tgt := 110) hf dX6_readWord_103 (by decide) (fun hq hf => ?_) (fun hq hf => ?_)
        · refine v_iconst (v := 1) dX6_readWord_106 (by decide) ?_
          refine v_goto (tgt := 111) dX6_readWord_107 (by decide) ?_
          refine v_sub [1, 2, 0] (L2 := [(0, va_rf (some l0)), (1, .int l1), (3, .int x4)]) rfl ?_
          exact t_X6_readWord_b111  hf
        · refine v_sub [1, 2, 0] (L2 := [(0, va_rf (some l0)), (1, .int l1), (3, .int x4)]) rfl ?_
          exact t_X6_readWord_b110  hf
      · refine v_sub [1, 2, 0] (L2 := [(0, va_rf (some l0)), (1, .int l1), (3, .int x4)]) rfl ?_
        exact t_X6_readWord_b110  hf
  · refine v_aload_n (x := (some l0)) dX6_readWord_46 rfl 0 rfl ?_
    refine v_iconst (v := 1) dX6_readWord_47 (by decide) ?_
    refine v_iload_n (x := l1) dX6_readWord_48 rfl 1 rfl ?_
    obtain ⟨x19, s20, hcs20, hf⟩ := bd_of hf
    have hts20 := c_X6_fail (l := l) (D := D) (cy := cy) (ka := ka) hcs20
    refine v_callV cb_7 hk_l0 (As := [.int (1 : Int32), .int l1]) (rest := []) hts20 yb_X6_fail kw_676 kw_678 kp_20 rfl ⟨Nat.le_of_ble_eq_true rfl, Nat.le_of_ble_eq_true rfl⟩ rfl (cat_len (Nat.le_of_ble_eq_true rfl)) dX6_readWord_49 ?_
    have hk_l0 := tk_ hts20.1 hk_l0
    show v_ l D cy ka cX6_readWord RX6 5 none "readWord" 7 151 (qf_ D cy σ0 z none) σ0 z _ 52 [(0, va_rf (some l0)), (1, .int l1), (2, .int l2)] []
    exact v_vret hf dX6_readWord_52
def f_X6_readWord_b7 : Nat → TH → Nat → Int32 → Int32 → Option (Unit × TH)
  | 0, _, _, _, _ => none
  | n + 1, σ, l0, l1, l2 => if (400 : Int32) ≤ l2 then (f_X6_readWord_b33 σ l0 l1 l2) else (gt_ (kd_ σ l0 = 8) <| bd_ (f_X6_byteAt σ l0 (l1 + l2)) fun x21 s22 => bd_ (f_X6_isLetter s22 x21) fun x23 s24 => if x23 = 0 then (f_X6_readWord_b33 s24 l0 l1 l2) else (lt_ (l2 + 1) fun x25 => (f_X6_readWord_b7 n) s24 l0 l1 x25))
set_option maxHeartbeats 4000000 in
set_option maxRecDepth 100000 in
theorem t_X6_readWord_b7 {l : Launch} {D : va_G} {cy : Nat → ClassId} {ka : Nat → Nat} {σ0 z : TH} {r : Unit}  : ∀ (n : Nat) (σ : TH) (l0 : Nat) (l1 : Int32) (l2 : Int32), f_X6_readWord_b7 n σ l0 l1 l2 = some (r, z) → v_ l D cy ka cX6_readWord RX6 5 none "readWord" 7 151 (qf_ D cy σ0 z none) σ0 z σ 7 [(0, va_rf (some l0)), (1, .int l1), (2, .int l2)] [] := by
  intro n
  induction n with
  | zero => intro σ l0 l1 l2 hf; unfold f_X6_readWord_b7 at hf; cases hf
  | succ n ih =>
    intro σ l0 l1 l2 hf
    unfold f_X6_readWord_b7 at hf
    have hrec_7 := ih
    refine v_iload_n (x := l2) dX6_readWord_7 rfl 2 rfl ?_
    refine v_sipush (v := 400) dX6_readWord_8 (by decide) ?_
    refine v_icmp_ge (tgt := 33) hf dX6_readWord_11 (by decide) (fun hq hf => ?_) (fun hq hf => ?_)
    · refine v_sub [0, 1, 2] (L2 := [(0, va_rf (some l0)), (1, .int l1), (2, .int l2)]) rfl ?_
      exact t_X6_readWord_b33  hf
    · refine v_aload_n (x := (some l0)) dX6_readWord_14 rfl 0 rfl ?_
      refine v_iload_n (x := l1) dX6_readWord_15 rfl 1 rfl ?_
      refine v_iload_n (x := l2) dX6_readWord_16 rfl 2 rfl ?_
      refine v_iadd dX6_readWord_17 ?_
      obtain ⟨hk_l0, hf⟩ := gt_of hf
      obtain ⟨x21, s22, hcs22, hf⟩ := bd_of hf
      have hts22 := c_X6_byteAt (l := l) (D := D) (cy := cy) (ka := ka) hcs22
      refine v_callV cb_7 hk_l0 (As := [.int (l1 + l2)]) (rest := []) hts22 yb_X6_byteAt kw_668 kw_670 kp_18 rfl ⟨Nat.le_of_ble_eq_true rfl, Nat.le_of_ble_eq_true rfl⟩ rfl (cat_len (Nat.le_of_ble_eq_true rfl)) dX6_readWord_18 ?_
      have hk_l0 := tk_ hts22.1 hk_l0
      show v_ l D cy ka cX6_readWord RX6 5 none "readWord" 7 151 (qf_ D cy σ0 z none) σ0 z _ 21 [(0, va_rf (some l0)), (1, .int l1), (2, .int l2)] [.int x21]
      obtain ⟨x23, s24, hcs24, hf⟩ := bd_of hf
      have hts24 := c_X6_isLetter (l := l) (D := D) (cy := cy) (ka := ka) hcs24
      refine v_callS (As := [.int x21]) (rest := []) hts24 yb_X6_isLetter kw_700 kw_701 rfl ⟨Nat.le_of_ble_eq_true rfl, Nat.le_of_ble_eq_true rfl⟩ rfl (cat_len (Nat.le_of_ble_eq_true rfl)) dX6_readWord_21 ?_
      have hk_l0 := tk_ hts24.1 hk_l0
      show v_ l D cy ka cX6_readWord RX6 5 none "readWord" 7 151 (qf_ D cy σ0 z none) σ0 z _ 24 [(0, va_rf (some l0)), (1, .int l1), (2, .int l2)] [.int x23]
      refine v_if_eq (tgt := 33) hf dX6_readWord_24 (by decide) (fun hq hf => ?_) (fun hq hf => ?_)
      · refine v_sub [0, 1, 2] (L2 := [(0, va_rf (some l0)), (1, .int l1), (2, .int l2)]) rfl ?_
        exact t_X6_readWord_b33  hf
      · obtain ⟨x25, ex25⟩ : ∃ y : Int32, y = l2 + 1 := ⟨_, rfl⟩
        rw [lt_e, ← ex25] at hf
        refine v_iinc (v := x25) [(2, .int x25), (0, va_rf (some l0)), (1, .int l1)] dX6_readWord_27 2 rfl (by rw [ex25]; rfl) (by decide) rfl ?_
        refine v_goto (tgt := 7) dX6_readWord_30 (by decide) ?_
        refine v_sub [1, 2, 0] (L2 := [(0, va_rf (some l0)), (1, .int l1), (2, .int x25)]) rfl ?_
        exact hrec_7 _ _ _ _ hf
/-- LivesAhead$Reader.readWord()V -/
def f_X6_readWord (σ : TH) (p0 : Nat) : Option (Unit × TH) :=
  gt_ (kd_ σ p0 = 8) <| lt_ (fi_ σ 709 p0) fun x1 => f_X6_readWord_b7 fu_ σ p0 x1 (0 : Int32)
set_option maxHeartbeats 4000000 in
set_option maxRecDepth 100000 in
theorem c_X6_readWord {l : Launch} {D : va_G} {cy : Nat → ClassId} {ka : Nat → Nat} {σ z : TH} {p0 : Nat} {r : Unit} (hf : f_X6_readWord σ p0 = some (r, z)) : ct_ l D cy ka yX6_readWord 7 151 [va_rf (some p0)] σ none z := by
  unfold f_X6_readWord at hf
  refine v_start (cc := cX6_readWord) (own := RX6) (maxL := 5) (ret := none) (nm := "readWord") (by decide +kernel) kw_706 rfl rfl (by simp [lg_sl, va_rf_cat, cat_i, cat_l]) ?_
  refine v_eqL (L2 := [(0, va_rf (some p0))]) (by simp [lv_args, va_rf_cat, cat_i, cat_l]) ?_
  refine v_aload_n (x := (some p0)) dX6_readWord_0 rfl 0 rfl ?_
  obtain ⟨hk_p0, hf⟩ := gt_of hf
  refine v_geti cb_7 hk_p0 9 709 rfl (by decide) rfl (lk_n kw_86 rfl) hf dX6_readWord_1 (fun x1 hf => ?_)
  refine v_istore_n [(1, .int x1), (0, va_rf (some p0))] dX6_readWord_4 rfl (by decide) rfl ?_
  refine v_iconst (v := 0) dX6_readWord_5 (by decide) ?_
  refine v_istore_n [(2, .int (0 : Int32)), (1, .int x1), (0, va_rf (some p0))] dX6_readWord_6 rfl (by decide) rfl ?_
  refine v_sub [2, 1, 0] (L2 := [(0, va_rf (some p0)), (1, .int x1), (2, .int (0 : Int32))]) rfl ?_
  exact t_X6_readWord_b7  _ _ _ _ _ hf
theorem dX6_read_0 : decode cX6_read 0 = .ok (.aload_n 0, 1) := by decide +kernel
theorem dX6_read_1 : decode cX6_read 1 = .ok (.iload_n 1, 1) := by decide +kernel
theorem dX6_read_2 : decode cX6_read 2 = .ok (.iload_n 2, 1) := by decide +kernel
theorem dX6_read_3 : decode cX6_read 3 = .ok (.invokevirtual 76, 3) := by decide +kernel
theorem dX6_read_6 : decode cX6_read 6 = .ok (.iconst 0, 1) := by decide +kernel
theorem dX6_read_7 : decode cX6_read 7 = .ok (.istore_n 3, 1) := by decide +kernel
theorem dX6_read_8 : decode cX6_read 8 = .ok (.iload_n 3, 1) := by decide +kernel
theorem dX6_read_9 : decode cX6_read 9 = .ok (.iload_n 1, 1) := by decide +kernel
theorem dX6_read_10 : decode cX6_read 10 = .ok (.if_icmp .ge 89, 3) := by decide +kernel
theorem dX6_read_13 : decode cX6_read 13 = .ok (.aload_n 0, 1) := by decide +kernel
theorem dX6_read_14 : decode cX6_read 14 = .ok (.getfield 42, 3) := by decide +kernel
theorem dX6_read_17 : decode cX6_read 17 = .ok (.aload_n 0, 1) := by decide +kernel
theorem dX6_read_18 : decode cX6_read 18 = .ok (.getfield 39, 3) := by decide +kernel
theorem dX6_read_21 : decode cX6_read 21 = .ok (.if_icmp .ge 78, 3) := by decide +kernel
theorem dX6_read_24 : decode cX6_read 24 = .ok (.aload_n 0, 1) := by decide +kernel
theorem dX6_read_25 : decode cX6_read 25 = .ok (.getfield 19, 3) := by decide +kernel
theorem dX6_read_28 : decode cX6_read 28 = .ok (.ifCond .ne 71, 3) := by decide +kernel
theorem dX6_read_31 : decode cX6_read 31 = .ok (.aload_n 0, 1) := by decide +kernel
theorem dX6_read_32 : decode cX6_read 32 = .ok (.aload_n 0, 1) := by decide +kernel
theorem dX6_read_33 : decode cX6_read 33 = .ok (.getfield 42, 3) := by decide +kernel
theorem dX6_read_36 : decode cX6_read 36 = .ok (.invokevirtual 80, 3) := by decide +kernel
theorem dX6_read_39 : decode cX6_read 39 = .ok (.istore 4, 2) := by decide +kernel
theorem dX6_read_41 : decode cX6_read 41 = .ok (.aload_n 0, 1) := by decide +kernel
theorem dX6_read_42 : decode cX6_read 42 = .ok (.getfield 45, 3) := by decide +kernel
theorem dX6_read_45 : decode cX6_read 45 = .ok (.ifCond .ne 12, 3) := by decide +kernel
theorem dX6_read_48 : decode cX6_read 48 = .ok (.aload_n 0, 1) := by decide +kernel
theorem dX6_read_49 : decode cX6_read 49 = .ok (.iload 4, 2) := by decide +kernel
theorem dX6_read_51 : decode cX6_read 51 = .ok (.invokevirtual 84, 3) := by decide +kernel
theorem dX6_read_54 : decode cX6_read 54 = .ok (.goto 39, 3) := by decide +kernel
theorem dX6_read_57 : decode cX6_read 57 = .ok (.iload 4, 2) := by decide +kernel
theorem dX6_read_59 : decode cX6_read 59 = .ok (.invokestatic 88, 3) := by decide +kernel
theorem dX6_read_62 : decode cX6_read 62 = .ok (.ifCond .eq 10, 3) := by decide +kernel
theorem dX6_read_65 : decode cX6_read 65 = .ok (.aload_n 0, 1) := by decide +kernel
theorem dX6_read_66 : decode cX6_read 66 = .ok (.invokevirtual 92, 3) := by decide +kernel
theorem dX6_read_69 : decode cX6_read 69 = .ok (.goto 24, 3) := by decide +kernel
theorem dX6_read_72 : decode cX6_read 72 = .ok (.iload 4, 2) := by decide +kernel
theorem dX6_read_74 : decode cX6_read 74 = .ok (.invokestatic 95, 3) := by decide +kernel
theorem dX6_read_77 : decode cX6_read 77 = .ok (.ifCond .eq 10, 3) := by decide +kernel
theorem dX6_read_80 : decode cX6_read 80 = .ok (.aload_n 0, 1) := by decide +kernel
theorem dX6_read_81 : decode cX6_read 81 = .ok (.invokevirtual 98, 3) := by decide +kernel
theorem dX6_read_84 : decode cX6_read 84 = .ok (.goto 9, 3) := by decide +kernel
theorem dX6_read_87 : decode cX6_read 87 = .ok (.aload_n 0, 1) := by decide +kernel
theorem dX6_read_88 : decode cX6_read 88 = .ok (.iload 4, 2) := by decide +kernel
theorem dX6_read_90 : decode cX6_read 90 = .ok (.invokevirtual 101, 3) := by decide +kernel
theorem dX6_read_93 : decode cX6_read 93 = .ok (.iinc 3 1, 3) := by decide +kernel
theorem dX6_read_96 : decode cX6_read 96 = .ok (.goto (-88), 3) := by decide +kernel
theorem dX6_read_99 : decode cX6_read 99 = .ok (.aload_n 0, 1) := by decide +kernel
theorem dX6_read_100 : decode cX6_read 100 = .ok (.getfield 19, 3) := by decide +kernel
theorem dX6_read_103 : decode cX6_read 103 = .ok (.ifCond .ne 7, 3) := by decide +kernel
theorem dX6_read_106 : decode cX6_read 106 = .ok (.aload_n 0, 1) := by decide +kernel
theorem dX6_read_107 : decode cX6_read 107 = .ok (.invokevirtual 104, 3) := by decide +kernel
theorem dX6_read_110 : decode cX6_read 110 = .ok (.aload_n 0, 1) := by decide +kernel
theorem dX6_read_111 : decode cX6_read 111 = .ok (.iconst 0, 1) := by decide +kernel
theorem dX6_read_112 : decode cX6_read 112 = .ok (.putfield 15, 3) := by decide +kernel
theorem dX6_read_115 : decode cX6_read 115 = .ok (.aload_n 0, 1) := by decide +kernel
theorem dX6_read_116 : decode cX6_read 116 = .ok (.getfield 19, 3) := by decide +kernel
theorem dX6_read_119 : decode cX6_read 119 = .ok (.ifCond .ne 32, 3) := by decide +kernel
theorem dX6_read_122 : decode cX6_read 122 = .ok (.new 107, 3) := by decide +kernel
theorem dX6_read_125 : decode cX6_read 125 = .ok (.dup, 1) := by decide +kernel
theorem dX6_read_126 : decode cX6_read 126 = .ok (.aload_n 0, 1) := by decide +kernel
theorem dX6_read_127 : decode cX6_read 127 = .ok (.getfield 25, 3) := by decide +kernel
theorem dX6_read_130 : decode cX6_read 130 = .ok (.aload_n 0, 1) := by decide +kernel
theorem dX6_read_131 : decode cX6_read 131 = .ok (.getfield 32, 3) := by decide +kernel
theorem dX6_read_134 : decode cX6_read 134 = .ok (.invokestatic 109, 3) := by decide +kernel
theorem dX6_read_137 : decode cX6_read 137 = .ok (.aload_n 0, 1) := by decide +kernel
theorem dX6_read_138 : decode cX6_read 138 = .ok (.getfield 69, 3) := by decide +kernel
theorem dX6_read_141 : decode cX6_read 141 = .ok (.aload_n 0, 1) := by decide +kernel
theorem dX6_read_142 : decode cX6_read 142 = .ok (.getfield 63, 3) := by decide +kernel
theorem dX6_read_145 : decode cX6_read 145 = .ok (.invokespecial 115, 3) := by decide +kernel
theorem dX6_read_148 : decode cX6_read 148 = .ok (.goto 4, 3) := by decide +kernel
theorem dX6_read_151 : decode cX6_read 151 = .ok (.aconst_null, 1) := by decide +kernel
theorem dX6_read_152 : decode cX6_read 152 = .ok (.areturn, 1) := by decide +kernel
def f_X6_read_b152 (σ : TH) (t0 : Option Nat) : Option (Option Nat × TH) :=
  some (t0, σ)
set_option maxHeartbeats 4000000 in
set_option maxRecDepth 100000 in
theorem t_X6_read_b152 {l : Launch} {D : va_G} {cy : Nat → ClassId} {ka : Nat → Nat} {σ0 z : TH} {r : Option Nat}  {σ : TH} {t0 : Option Nat} (hf : f_X6_read_b152 σ t0 = some (r, z)) : v_ l D cy ka cX6_read RX6 5 (some (FieldType.object "LivesAhead$Text")) "read" 8 175 (qf_ D cy σ0 z (some (va_rf r))) σ0 z σ 152 [] [va_rf t0] := by
  unfold f_X6_read_b152 at hf
  exact v_aret (x := t0) hf (Or.inl ⟨_, rfl⟩) dX6_read_152
def f_X6_read_b110 (σ : TH) (l0 : Nat) : Option (Option Nat × TH) :=
  gt_ (kd_ σ l0 = 8) <| lt_ (si_ σ 701 l0 (0 : Int32)) fun s6 => lt_ (fi_ s6 702 l0) fun x7 => if x7 = 0 then (gt_ (kd_ s6 (nx_ s6) = 0) <| lt_ (nx_ s6) fun a8 => lt_ (nw_ s6 11 0 3) fun s9 => lt_ (fr_ s9 704 l0) fun r10 => lt_ (fi_ s9 706 l0) fun x11 => bd_ (f_J7_copyOf_59c91 s9 r10 x11) fun r12 s13 => lt_ (fi_ s13 718 l0) fun x14 => lt_ (fi_ s13 716 l0) fun x15 => bd_ (f_X9_init s13 a8 r12 x14 x15) fun x16 s17 => f_X6_read_b152 s17 (some a8)) else (f_X6_read_b152 s6 none)
set_option maxHeartbeats 4000000 in
set_option maxRecDepth 100000 in
theorem t_X6_read_b110 {l : Launch} {D : va_G} {cy : Nat → ClassId} {ka : Nat → Nat} {σ0 z : TH} {r : Option Nat}  {σ : TH} {l0 : Nat} (hf : f_X6_read_b110 σ l0 = some (r, z)) : v_ l D cy ka cX6_read RX6 5 (some (FieldType.object "LivesAhead$Text")) "read" 8 175 (qf_ D cy σ0 z (some (va_rf r))) σ0 z σ 110 [(0, va_rf (some l0))] [] := by
  unfold f_X6_read_b110 at hf
  refine v_aload_n (x := (some l0)) dX6_read_110 rfl 0 rfl ?_
  refine v_iconst (v := 0) dX6_read_111 (by decide) ?_
  obtain ⟨hk_l0, hf⟩ := gt_of hf
  refine v_puti2 cb_7 hk_l0 1 701 rfl (by decide) rfl (lk_n kw_75 rfl) (Or.inl rfl) rfl rfl hf dX6_read_112 (fun s6 hts6 hf => ?_)
  have hk_l0 := tk_ hts6 hk_l0
  refine v_aload_n (x := (some l0)) dX6_read_115 rfl 0 rfl ?_
  refine v_geti cb_7 hk_l0 2 702 rfl (by decide) rfl (lk_n kw_77 rfl) hf dX6_read_116 (fun x7 hf => ?_)
  refine v_if_ne (tgt := 151) hf dX6_read_119 (by decide) (fun hq hf => ?_) (fun hq hf => ?_)
  · refine v_new2 cb_10 df_10 kw_851 kw_852 kw_26 11 rfl hf dX6_read_122 (fun a8 s9 hts9 hk_a8 hf => ?_)
    have hk_l0 := tk_ hts9 hk_l0
    refine v_dup dX6_read_125 (va_rf_cat _) ?_
    refine v_aload_n (x := (some l0)) dX6_read_126 rfl 0 rfl ?_
    refine v_getr cb_7 hk_l0 4 704 rfl (by decide) rfl (lk_n kw_81 rfl) hf dX6_read_127 (fun r10 hf => ?_)
    refine v_aload_n (x := (some l0)) dX6_read_130 rfl 0 rfl ?_
    refine v_geti cb_7 hk_l0 6 706 rfl (by decide) rfl (lk_n kw_83 rfl) hf dX6_read_131 (fun x11 hf => ?_)
    obtain ⟨r12, s13, hcs13, hf⟩ := bd_of hf
    have hts13 := c_J7_copyOf_59c91 (l := l) (D := D) (cy := cy) (ka := ka) hcs13
    refine v_callS (As := [va_rf r10, .int x11]) (rest := [va_rf (some a8), va_rf (some a8)]) hts13 yb_J7_copyOf_59c91 kw_853 kw_854 rfl ⟨Nat.le_of_ble_eq_true rfl, Nat.le_of_ble_eq_true rfl⟩ rfl (cat_len (Nat.le_of_ble_eq_true rfl)) dX6_read_134 ?_
    have hk_l0 := tk_ hts13.1 hk_l0
    have hk_a8 := tk_ hts13.1 hk_a8
    show v_ l D cy ka cX6_read RX6 5 (some (FieldType.object "LivesAhead$Text")) "read" 8 175 (qf_ D cy σ0 z (some (va_rf r))) σ0 z _ 137 [(0, va_rf (some l0))] [va_rf r12, va_rf (some a8), va_rf (some a8)]
    refine v_aload_n (x := (some l0)) dX6_read_137 rfl 0 rfl ?_
    refine v_geti cb_7 hk_l0 18 718 rfl (by decide) rfl (lk_n kw_95 rfl) hf dX6_read_138 (fun x14 hf => ?_)
    refine v_aload_n (x := (some l0)) dX6_read_141 rfl 0 rfl ?_
    refine v_geti cb_7 hk_l0 16 716 rfl (by decide) rfl (lk_n kw_93 rfl) hf dX6_read_142 (fun x15 hf => ?_)
    obtain ⟨x16, s17, hcs17, hf⟩ := bd_of hf
    have hts17 := c_X9_init (l := l) (D := D) (cy := cy) (ka := ka) hcs17
    refine v_callI (As := [va_rf r12, .int x14, .int x15]) (rest := [va_rf (some a8)]) hts17 yb_X9_init kw_863 kw_864 rfl rfl ⟨Nat.le_of_ble_eq_true rfl, Nat.le_of_ble_eq_true rfl⟩ rfl (cat_len (Nat.le_of_ble_eq_true rfl)) dX6_read_145 ?_
    have hk_l0 := tk_ hts17.1 hk_l0
    have hk_a8 := tk_ hts17.1 hk_a8
    show v_ l D cy ka cX6_read RX6 5 (some (FieldType.object "LivesAhead$Text")) "read" 8 175 (qf_ D cy σ0 z (some (va_rf r))) σ0 z _ 148 [(0, va_rf (some l0))] [va_rf (some a8)]
    refine v_goto (tgt := 152) dX6_read_148 (by decide) ?_
    refine v_sub [] (L2 := []) rfl ?_
    exact t_X6_read_b152  hf
  · refine v_null dX6_read_151 ?_
    refine v_sub [] (L2 := []) rfl ?_
    exact t_X6_read_b152  hf
def f_X6_read_b99 (σ : TH) (l0 : Nat) : Option (Option Nat × TH) :=
  gt_ (kd_ σ l0 = 8) <| lt_ (fi_ σ 702 l0) fun x3 => if x3 = 0 then (bd_ (f_X6_finish σ l0) fun x4 s5 => f_X6_read_b110 s5 l0) else (f_X6_read_b110 σ l0)
set_option maxHeartbeats 4000000 in
set_option maxRecDepth 100000 in
theorem t_X6_read_b99 {l : Launch} {D : va_G} {cy : Nat → ClassId} {ka : Nat → Nat} {σ0 z : TH} {r : Option Nat}  {σ : TH} {l0 : Nat} (hf : f_X6_read_b99 σ l0 = some (r, z)) : v_ l D cy ka cX6_read RX6 5 (some (FieldType.object "LivesAhead$Text")) "read" 8 175 (qf_ D cy σ0 z (some (va_rf r))) σ0 z σ 99 [(0, va_rf (some l0))] [] := by
  unfold f_X6_read_b99 at hf
  refine v_aload_n (x := (some l0)) dX6_read_99 rfl 0 rfl ?_
  obtain ⟨hk_l0, hf⟩ := gt_of hf
  refine v_geti cb_7 hk_l0 2 702 rfl (by decide) rfl (lk_n kw_77 rfl) hf dX6_read_100 (fun x3 hf => ?_)
  refine v_if_ne (tgt := 110) hf dX6_read_103 (by decide) (fun hq hf => ?_) (fun hq hf => ?_)
  · refine v_aload_n (x := (some l0)) dX6_read_106 rfl 0 rfl ?_
    obtain ⟨x4, s5, hcs5, hf⟩ := bd_of hf
    have hts5 := c_X6_finish (l := l) (D := D) (cy := cy) (ka := ka) hcs5
    refine v_callV cb_7 hk_l0 (As := []) (rest := []) hts5 yb_X6_finish kw_847 kw_849 kp_45 rfl ⟨Nat.le_of_ble_eq_true rfl, Nat.le_of_ble_eq_true rfl⟩ rfl (cat_len (Nat.le_of_ble_eq_true rfl)) dX6_read_107 ?_
    have hk_l0 := tk_ hts5.1 hk_l0
    show v_ l D cy ka cX6_read RX6 5 (some (FieldType.object "LivesAhead$Text")) "read" 8 175 (qf_ D cy σ0 z (some (va_rf r))) σ0 z _ 110 [(0, va_rf (some l0))] []
    refine v_sub [0] (L2 := [(0, va_rf (some l0))]) rfl ?_
    exact t_X6_read_b110  hf
  · refine v_sub [0] (L2 := [(0, va_rf (some l0))]) rfl ?_
    exact t_X6_read_b110  hf
def f_X6_read_b93 (rec_8 : TH → Nat → Int32 → Int32 → Option (Option Nat × TH)) (σ : TH) (l0 : Nat) (l1 : Int32) (l3 : Int32) : Option (Option Nat × TH) :=
  lt_ (l3 + 1) fun x27 => rec_8 σ l0 l1 x27
set_option maxHeartbeats 4000000 in
set_option maxRecDepth 100000 in
theorem t_X6_read_b93 {l : Launch} {D : va_G} {cy : Nat → ClassId} {ka : Nat → Nat} {σ0 z : TH} {r : Option Nat} {rec_8 : TH → Nat → Int32 → Int32 → Option (Option Nat × TH)} (hrec_8 : ∀ (σ : TH) (l0 : Nat) (l1 : Int32) (l3 : Int32), rec_8 σ l0 l1 l3 = some (r, z) → v_ l D cy ka cX6_read RX6 5 (some (FieldType.object "LivesAhead$Text")) "read" 8 175 (qf_ D cy σ0 z (some (va_rf r))) σ0 z σ 8 [(0, va_rf (some l0)), (1, .int l1), (3, .int l3)] []) {σ : TH} {l0 : Nat} {l1 : Int32} {l3 : Int32} (hf : f_X6_read_b93 rec_8 σ l0 l1 l3 = some (r, z)) : v_ l D cy ka cX6_read RX6 5 (some (FieldType.object "LivesAhead$Text")) "read" 8 175 (qf_ D cy σ0 z (some (va_rf r))) σ0 z σ 93 [(0, va_rf (some l0)), (1, .int l1), (3, .int l3)] [] := by
  unfold f_X6_read_b93 at hf
  obtain ⟨x27, ex27⟩ : ∃ y : Int32, y = l3 + 1 := ⟨_, rfl⟩
  rw [lt_e, ← ex27] at hf
  refine v_iinc (v := x27) [(3, .int x27), (0, va_rf (some l0)), (1, .int l1)] dX6_read_93 2 rfl (by rw [ex27]; rfl) (by decide) rfl ?_
  refine v_goto (tgt := 8) dX6_read_96 (by decide) ?_
  refine v_sub [1, 2, 0] (L2 := [(0, va_rf (some l0)), (1, .int l1), (3, .int x27)]) rfl ?_
  exact hrec_8 _ _ _ _ hf
def f_X6_read_b8 : Nat → TH → Nat → Int32 → Int32 → Option (Option Nat × TH)
  | 0, _, _, _, _ => none
  | n + 1, σ, l0, l1, l3 => if l1 ≤ l3 then (f_X6_read_b99 σ l0) else (gt_ (kd_ σ l0 = 8) <| lt_ (fi_ σ 709 l0) fun x18 => lt_ (fi_ σ 708 l0) fun x19 => if x19 ≤ x18 then (f_X6_read_b99 σ l0) else (lt_ (fi_ σ 702 l0) fun x20 => if x20 = 0 then (lt_ (fi_ σ 709 l0) fun x21 => bd_ (f_X6_byteAt σ l0 x21) fun x22 s23 => lt_ (fi_ s23 710 l0) fun x24 => if x24 = 0 then (bd_ (f_X6_readPlain s23 l0 x22) fun x25 s26 => f_X6_read_b93 (f_X6_read_b8 n) s26 l0 l1 l3) else (bd_ (f_X6_isLetter s23 x22) fun x28 s29 => if x28 = 0 then (bd_ (f_X6_isDigit s29 x22) fun x30 s31 => if x30 = 0 then (bd_ (f_X6_readSign s31 l0 x22) fun x32 s33 => f_X6_read_b93 (f_X6_read_b8 n) s33 l0 l1 l3) else (bd_ (f_X6_readWhole s31 l0) fun x34 s35 => f_X6_read_b93 (f_X6_read_b8 n) s35 l0 l1 l3)) else (bd_ (f_X6_readWord s29 l0) fun x36 s37 => f_X6_read_b93 (f_X6_read_b8 n) s37 l0 l1 l3))) else (f_X6_read_b99 σ l0)))
set_option maxHeartbeats 4000000 in
set_option maxRecDepth 100000 in
theorem t_X6_read_b8 {l : Launch} {D : va_G} {cy : Nat → ClassId} {ka : Nat → Nat} {σ0 z : TH} {r : Option Nat}  : ∀ (n : Nat) (σ : TH) (l0 : Nat) (l1 : Int32) (l3 : Int32), f_X6_read_b8 n σ l0 l1 l3 = some (r, z) → v_ l D cy ka cX6_read RX6 5 (some (FieldType.object "LivesAhead$Text")) "read" 8 175 (qf_ D cy σ0 z (some (va_rf r))) σ0 z σ 8 [(0, va_rf (some l0)), (1, .int l1), (3, .int l3)] [] := by
  intro n
  induction n with
  | zero => intro σ l0 l1 l3 hf; unfold f_X6_read_b8 at hf; cases hf
  | succ n ih =>
    intro σ l0 l1 l3 hf
    unfold f_X6_read_b8 at hf
    have hrec_8 := ih
    refine v_iload_n (x := l3) dX6_read_8 rfl 2 rfl ?_
    refine v_iload_n (x := l1) dX6_read_9 rfl 1 rfl ?_
    refine v_icmp_ge (tgt := 99) hf dX6_read_10 (by decide) (fun hq hf => ?_) (fun hq hf => ?_)
    · refine v_sub [0] (L2 := [(0, va_rf (some l0))]) rfl ?_
      exact t_X6_read_b99  hf
    · refine v_aload_n (x := (some l0)) dX6_read_13 rfl 0 rfl ?_
      obtain ⟨hk_l0, hf⟩ := gt_of hf
      refine v_geti cb_7 hk_l0 9 709 rfl (by decide) rfl (lk_n kw_86 rfl) hf dX6_read_14 (fun x18 hf => ?_)
      refine v_aload_n (x := (some l0)) dX6_read_17 rfl 0 rfl ?_
      refine v_geti cb_7 hk_l0 8 708 rfl (by decide) rfl (lk_n kw_85 rfl) hf dX6_read_18 (fun x19 hf => ?_)
      refine v_icmp_ge (tgt := 99) hf dX6_read_21 (by decide) (fun hq hf => ?_) (fun hq hf => ?_)
      · refine v_sub [0] (L2 := [(0, va_rf (some l0))]) rfl ?_
        exact t_X6_read_b99  hf
      · refine v_aload_n (x := (some l0)) dX6_read_24 rfl 0 rfl ?_
        refine v_geti cb_7 hk_l0 2 702 rfl (by decide) rfl (lk_n kw_77 rfl) hf dX6_read_25 (fun x20 hf => ?_)
        refine v_if_ne (tgt := 99) hf dX6_read_28 (by decide) (fun hq hf => ?_) (fun hq hf => ?_)
        · refine v_aload_n (x := (some l0)) dX6_read_31 rfl 0 rfl ?_
          refine v_aload_n (x := (some l0)) dX6_read_32 rfl 0 rfl ?_
          refine v_geti cb_7 hk_l0 9 709 rfl (by decide) rfl (lk_n kw_86 rfl) hf dX6_read_33 (fun x21 hf => ?_)
          obtain ⟨x22, s23, hcs23, hf⟩ := bd_of hf
          have hts23 := c_X6_byteAt (l := l) (D := D) (cy := cy) (ka := ka) hcs23
          refine v_callV cb_7 hk_l0 (As := [.int x21]) (rest := []) hts23 yb_X6_byteAt kw_668 kw_670 kp_18 rfl ⟨Nat.le_of_ble_eq_true rfl, Nat.le_of_ble_eq_true rfl⟩ rfl (cat_len (Nat.le_of_ble_eq_true rfl)) dX6_read_36 ?_
          have hk_l0 := tk_ hts23.1 hk_l0
          show v_ l D cy ka cX6_read RX6 5 (some (FieldType.object "LivesAhead$Text")) "read" 8 175 (qf_ D cy σ0 z (some (va_rf r))) σ0 z _ 39 [(0, va_rf (some l0)), (1, .int l1), (3, .int l3)] [.int x22]
          refine v_istore [(4, .int x22), (0, va_rf (some l0)), (1, .int l1), (3, .int l3)] dX6_read_39 (by decide) rfl ?_
          refine v_aload_n (x := (some l0)) dX6_read_41 rfl 1 rfl ?_
          refine v_geti cb_7 hk_l0 10 710 rfl (by decide) rfl (lk_n kw_87 rfl) hf dX6_read_42 (fun x24 hf => ?_)
          refine v_if_ne (tgt := 57) hf dX6_read_45 (by decide) (fun hq hf => ?_) (fun hq hf => ?_)
          · refine v_aload_n (x := (some l0)) dX6_read_48 rfl 1 rfl ?_
            refine v_iload (x := x22) dX6_read_49 0 rfl ?_
            obtain ⟨x25, s26, hcs26, hf⟩ := bd_of hf
            have hts26 := c_X6_readPlain (l := l) (D := D) (cy := cy) (ka := ka) hcs26
            refine v_callV cb_7 hk_l0 (As := [.int x22]) (rest := []) hts26 yb_X6_readPlain kw_672 kw_674 kp_19 rfl ⟨Nat.le_of_ble_eq_true rfl, Nat.le_of_ble_eq_true rfl⟩ rfl (cat_len (Nat.le_of_ble_eq_true rfl)) dX6_read_51 ?_
            have hk_l0 := tk_ hts26.1 hk_l0
            show v_ l D cy ka cX6_read RX6 5 (some (FieldType.object "LivesAhead$Text")) "read" 8 175 (qf_ D cy σ0 z (some (va_rf r))) σ0 z _ 54 [(4, .int x22), (0, va_rf (some l0)), (1, .int l1), (3, .int l3)] []
            refine v_goto (tgt := 93) dX6_read_54 (by decide) ?_
            refine v_sub [1, 2, 3] (L2 := [(0, va_rf (some l0)), (1, .int l1), (3, .int l3)]) rfl ?_
            exact t_X6_read_b93 hrec_8 hf
          · refine v_iload (x := x22) dX6_read_57 0 rfl ?_
            obtain ⟨x28, s29, hcs29, hf⟩ := bd_of hf
            have hts29 := c_X6_isLetter (l := l) (D := D) (cy := cy) (ka := ka) hcs29
            refine v_callS (As := [.int x22]) (rest := []) hts29 yb_X6_isLetter kw_700 kw_701 rfl ⟨Nat.le_of_ble_eq_true rfl, Nat.le_of_ble_eq_true rfl⟩ rfl (cat_len (Nat.le_of_ble_eq_true rfl)) dX6_read_59 ?_
            have hk_l0 := tk_ hts29.1 hk_l0
            show v_ l D cy ka cX6_read RX6 5 (some (FieldType.object "LivesAhead$Text")) "read" 8 175 (qf_ D cy σ0 z (some (va_rf r))) σ0 z _ 62 [(4, .int x22), (0, va_rf (some l0)), (1, .int l1), (3, .int l3)] [.int x28]
            refine v_if_eq (tgt := 72) hf dX6_read_62 (by decide) (fun hq hf => ?_) (fun hq hf => ?_)
            · refine v_iload (x := x22) dX6_read_72 0 rfl ?_
              obtain ⟨x30, s31, hcs31, hf⟩ := bd_of hf
              have hts31 := c_X6_isDigit (l := l) (D := D) (cy := cy) (ka := ka) hcs31
              refine v_callS (As := [.int x22]) (rest := []) hts31 yb_X6_isDigit kw_707 kw_708 rfl ⟨Nat.le_of_ble_eq_true rfl, Nat.le_of_ble_eq_true rfl⟩ rfl (cat_len (Nat.le_of_ble_eq_true rfl)) dX6_read_74 ?_
              have hk_l0 := tk_ hts31.1 hk_l0
              show v_ l D cy ka cX6_read RX6 5 (some (FieldType.object "LivesAhead$Text")) "read" 8 175 (qf_ D cy σ0 z (some (va_rf r))) σ0 z _ 77 [(4, .int x22), (0, va_rf (some l0)), (1, .int l1), (3, .int l3)] [.int x30]
              refine v_if_eq (tgt := 87) hf dX6_read_77 (by decide) (fun hq hf => ?_) (fun hq hf => ?_)
              · refine v_aload_n (x := (some l0)) dX6_read_87 rfl 1 rfl ?_
                refine v_iload (x := x22) dX6_read_88 0 rfl ?_
                obtain ⟨x32, s33, hcs33, hf⟩ := bd_of hf
                have hts33 := c_X6_readSign (l := l) (D := D) (cy := cy) (ka := ka) hcs33
                refine v_callV cb_7 hk_l0 (As := [.int x22]) (rest := []) hts33 yb_X6_readSign kw_827 kw_829 kp_40 rfl ⟨Nat.le_of_ble_eq_true rfl, Nat.le_of_ble_eq_true rfl⟩ rfl (cat_len (Nat.le_of_ble_eq_true rfl)) dX6_read_90 ?_
                have hk_l0 := tk_ hts33.1 hk_l0
                show v_ l D cy ka cX6_read RX6 5 (some (FieldType.object "LivesAhead$Text")) "read" 8 175 (qf_ D cy σ0 z (some (va_rf r))) σ0 z _ 93 [(4, .int x22), (0, va_rf (some l0)), (1, .int l1), (3, .int l3)] []
                refine v_sub [1, 2, 3] (L2 := [(0, va_rf (some l0)), (1, .int l1), (3, .int l3)]) rfl ?_
                exact t_X6_read_b93 hrec_8 hf
              · refine v_aload_n (x := (some l0)) dX6_read_80 rfl 1 rfl ?_
                obtain ⟨x34, s35, hcs35, hf⟩ := bd_of hf
                have hts35 := c_X6_readWhole (l := l) (D := D) (cy := cy) (ka := ka) hcs35
                refine v_callV cb_7 hk_l0 (As := []) (rest := []) hts35 yb_X6_readWhole kw_823 kw_825 kp_39 rfl ⟨Nat.le_of_ble_eq_true rfl, Nat.le_of_ble_eq_true rfl⟩ rfl (cat_len (Nat.le_of_ble_eq_true rfl)) dX6_read_81 ?_
                have hk_l0 := tk_ hts35.1 hk_l0
                show v_ l D cy ka cX6_read RX6 5 (some (FieldType.object "LivesAhead$Text")) "read" 8 175 (qf_ D cy σ0 z (some (va_rf r))) σ0 z _ 84 [(4, .int x22), (0, va_rf (some l0)), (1, .int l1), (3, .int l3)] []
                refine v_goto (tgt := 93) dX6_read_84 (by decide) ?_
                refine v_sub [1, 2, 3] (L2 := [(0, va_rf (some l0)), (1, .int l1), (3, .int l3)]) rfl ?_
                exact t_X6_read_b93 hrec_8 hf
            · refine v_aload_n (x := (some l0)) dX6_read_65 rfl 1 rfl ?_
              obtain ⟨x36, s37, hcs37, hf⟩ := bd_of hf
              have hts37 := c_X6_readWord (l := l) (D := D) (cy := cy) (ka := ka) hcs37
              refine v_callV cb_7 hk_l0 (As := []) (rest := []) hts37 yb_X6_readWord kw_703 kw_705 kp_26 rfl ⟨Nat.le_of_ble_eq_true rfl, Nat.le_of_ble_eq_true rfl⟩ rfl (cat_len (Nat.le_of_ble_eq_true rfl)) dX6_read_66 ?_
              have hk_l0 := tk_ hts37.1 hk_l0
              show v_ l D cy ka cX6_read RX6 5 (some (FieldType.object "LivesAhead$Text")) "read" 8 175 (qf_ D cy σ0 z (some (va_rf r))) σ0 z _ 69 [(4, .int x22), (0, va_rf (some l0)), (1, .int l1), (3, .int l3)] []
              refine v_goto (tgt := 93) dX6_read_69 (by decide) ?_
              refine v_sub [1, 2, 3] (L2 := [(0, va_rf (some l0)), (1, .int l1), (3, .int l3)]) rfl ?_
              exact t_X6_read_b93 hrec_8 hf
        · refine v_sub [0] (L2 := [(0, va_rf (some l0))]) rfl ?_
          exact t_X6_read_b99  hf
/-- LivesAhead$Reader.read(IZ)LLivesAhead$Text; -/
def f_X6_read (σ : TH) (p0 : Nat) (p1 : Int32) (p2 : Int32) : Option (Option Nat × TH) :=
  gt_ (kd_ σ p0 = 8) <| bd_ (f_X6_begin σ p0 p1 p2) fun x1 s2 => f_X6_read_b8 fu_ s2 p0 p1 (0 : Int32)
set_option maxHeartbeats 4000000 in
set_option maxRecDepth 100000 in
theorem c_X6_read {l : Launch} {D : va_G} {cy : Nat → ClassId} {ka : Nat → Nat} {σ z : TH} {p0 : Nat} {p1 : Int32} {p2 : Int32} {r : Option Nat} (hf : f_X6_read σ p0 p1 p2 = some (r, z)) : ct_ l D cy ka yX6_read 8 175 [va_rf (some p0), .int p1, .int p2] σ (some (va_rf r)) z := by
  unfold f_X6_read at hf
  refine v_start (cc := cX6_read) (own := RX6) (maxL := 5) (ret := (some (FieldType.object "LivesAhead$Text"))) (nm := "read") (by decide +kernel) kw_663 rfl rfl (by simp [lg_sl, va_rf_cat, cat_i, cat_l]) ?_
  refine v_eqL (L2 := [(0, va_rf (some p0)), (1, .int p1), (2, .int p2)]) (by simp [lv_args, va_rf_cat, cat_i, cat_l]) ?_
  refine v_aload_n (x := (some p0)) dX6_read_0 rfl 0 rfl ?_
  refine v_iload_n (x := p1) dX6_read_1 rfl 1 rfl ?_
  refine v_iload_n (x := p2) dX6_read_2 rfl 2 rfl ?_
  obtain ⟨hk_p0, hf⟩ := gt_of hf
  obtain ⟨x1, s2, hcs2, hf⟩ := bd_of hf
  have hts2 := c_X6_begin (l := l) (D := D) (cy := cy) (ka := ka) hcs2
  refine v_callV cb_7 hk_p0 (As := [.int p1, .int p2]) (rest := []) hts2 yb_X6_begin kw_664 kw_666 kp_17 rfl ⟨Nat.le_of_ble_eq_true rfl, Nat.le_of_ble_eq_true rfl⟩ rfl (cat_len (Nat.le_of_ble_eq_true rfl)) dX6_read_3 ?_
  have hk_p0 := tk_ hts2.1 hk_p0
  show v_ l D cy ka cX6_read RX6 5 (some (FieldType.object "LivesAhead$Text")) "read" 8 175 (qf_ D cy σ z (some (va_rf r))) σ z _ 6 [(0, va_rf (some p0)), (1, .int p1), (2, .int p2)] []
  refine v_iconst (v := 0) dX6_read_6 (by decide) ?_
  refine v_istore_n [(3, .int (0 : Int32)), (0, va_rf (some p0)), (1, .int p1), (2, .int p2)] dX6_read_7 rfl (by decide) rfl ?_
  refine v_sub [1, 2, 0] (L2 := [(0, va_rf (some p0)), (1, .int p1), (3, .int (0 : Int32))]) rfl ?_
  exact t_X6_read_b8  _ _ _ _ _ hf
