/-! Functions over the typed heap and contracts, by wip/gen/gen.py: X0_pick X0_choose X11_chooseParagraphs X11_cut X11_edition X11_week -/
theorem dX0_pick_0 : decode cX0_pick 0 = .ok (.iload_n 1, 1) := by decide +kernel
theorem dX0_pick_1 : decode cX0_pick 1 = .ok (.bipush 14, 2) := by decide +kernel
theorem dX0_pick_3 : decode cX0_pick 3 = .ok (.if_icmp .gt 14, 3) := by decide +kernel
theorem dX0_pick_6 : decode cX0_pick 6 = .ok (.iload_n 3, 1) := by decide +kernel
theorem dX0_pick_7 : decode cX0_pick 7 = .ok (.aload_n 0, 1) := by decide +kernel
theorem dX0_pick_8 : decode cX0_pick 8 = .ok (.getfield 25, 3) := by decide +kernel
theorem dX0_pick_11 : decode cX0_pick 11 = .ok (.iload_n 1, 1) := by decide +kernel
theorem dX0_pick_12 : decode cX0_pick 12 = .ok (.iaload, 1) := by decide +kernel
theorem dX0_pick_13 : decode cX0_pick 13 = .ok (.iadd, 1) := by decide +kernel
theorem dX0_pick_14 : decode cX0_pick 14 = .ok (.goto 4, 3) := by decide +kernel
theorem dX0_pick_17 : decode cX0_pick 17 = .ok (.iconst (-1), 1) := by decide +kernel
theorem dX0_pick_18 : decode cX0_pick 18 = .ok (.istore 5, 2) := by decide +kernel
theorem dX0_pick_20 : decode cX0_pick 20 = .ok (.iload 4, 2) := by decide +kernel
theorem dX0_pick_22 : decode cX0_pick 22 = .ok (.aload_n 0, 1) := by decide +kernel
theorem dX0_pick_23 : decode cX0_pick 23 = .ok (.getfield 32, 3) := by decide +kernel
theorem dX0_pick_26 : decode cX0_pick 26 = .ok (.if_icmp .gt 30, 3) := by decide +kernel
theorem dX0_pick_29 : decode cX0_pick 29 = .ok (.iload 5, 2) := by decide +kernel
theorem dX0_pick_31 : decode cX0_pick 31 = .ok (.aload_n 0, 1) := by decide +kernel
theorem dX0_pick_32 : decode cX0_pick 32 = .ok (.getfield 41, 3) := by decide +kernel
theorem dX0_pick_35 : decode cX0_pick 35 = .ok (.if_icmp .lt 21, 3) := by decide +kernel
theorem dX0_pick_38 : decode cX0_pick 38 = .ok (.iload 5, 2) := by decide +kernel
theorem dX0_pick_40 : decode cX0_pick 40 = .ok (.aload_n 0, 1) := by decide +kernel
theorem dX0_pick_41 : decode cX0_pick 41 = .ok (.getfield 41, 3) := by decide +kernel
theorem dX0_pick_44 : decode cX0_pick 44 = .ok (.if_icmp .ne 13, 3) := by decide +kernel
theorem dX0_pick_47 : decode cX0_pick 47 = .ok (.iload 4, 2) := by decide +kernel
theorem dX0_pick_49 : decode cX0_pick 49 = .ok (.aload_n 0, 1) := by decide +kernel
theorem dX0_pick_50 : decode cX0_pick 50 = .ok (.getfield 44, 3) := by decide +kernel
theorem dX0_pick_53 : decode cX0_pick 53 = .ok (.if_icmp .lt 4, 3) := by decide +kernel
theorem dX0_pick_56 : decode cX0_pick 56 = .ok (.return_, 1) := by decide +kernel
theorem dX0_pick_57 : decode cX0_pick 57 = .ok (.iload_n 1, 1) := by decide +kernel
theorem dX0_pick_58 : decode cX0_pick 58 = .ok (.aload_n 0, 1) := by decide +kernel
theorem dX0_pick_59 : decode cX0_pick 59 = .ok (.getfield 28, 3) := by decide +kernel
theorem dX0_pick_62 : decode cX0_pick 62 = .ok (.if_icmp .ge 9, 3) := by decide +kernel
theorem dX0_pick_65 : decode cX0_pick 65 = .ok (.iload_n 1, 1) := by decide +kernel
theorem dX0_pick_66 : decode cX0_pick 66 = .ok (.bipush 14, 2) := by decide +kernel
theorem dX0_pick_68 : decode cX0_pick 68 = .ok (.if_icmp .lt 20, 3) := by decide +kernel
theorem dX0_pick_71 : decode cX0_pick 71 = .ok (.aload_n 0, 1) := by decide +kernel
theorem dX0_pick_72 : decode cX0_pick 72 = .ok (.iload_n 2, 1) := by decide +kernel
theorem dX0_pick_73 : decode cX0_pick 73 = .ok (.putfield 38, 3) := by decide +kernel
theorem dX0_pick_76 : decode cX0_pick 76 = .ok (.aload_n 0, 1) := by decide +kernel
theorem dX0_pick_77 : decode cX0_pick 77 = .ok (.iload_n 3, 1) := by decide +kernel
theorem dX0_pick_78 : decode cX0_pick 78 = .ok (.putfield 41, 3) := by decide +kernel
theorem dX0_pick_81 : decode cX0_pick 81 = .ok (.aload_n 0, 1) := by decide +kernel
theorem dX0_pick_82 : decode cX0_pick 82 = .ok (.iload 4, 2) := by decide +kernel
theorem dX0_pick_84 : decode cX0_pick 84 = .ok (.putfield 44, 3) := by decide +kernel
theorem dX0_pick_87 : decode cX0_pick 87 = .ok (.return_, 1) := by decide +kernel
theorem dX0_pick_88 : decode cX0_pick 88 = .ok (.aload_n 0, 1) := by decide +kernel
theorem dX0_pick_89 : decode cX0_pick 89 = .ok (.getfield 21, 3) := by decide +kernel
theorem dX0_pick_92 : decode cX0_pick 92 = .ok (.iload_n 1, 1) := by decide +kernel
theorem dX0_pick_93 : decode cX0_pick 93 = .ok (.baload, 1) := by decide +kernel
theorem dX0_pick_94 : decode cX0_pick 94 = .ok (.ifCond .eq 77, 3) := by decide +kernel
theorem dX0_pick_97 : decode cX0_pick 97 = .ok (.aload_n 0, 1) := by decide +kernel
theorem dX0_pick_98 : decode cX0_pick 98 = .ok (.getfield 18, 3) := by decide +kernel
theorem dX0_pick_101 : decode cX0_pick 101 = .ok (.iload_n 1, 1) := by decide +kernel
theorem dX0_pick_102 : decode cX0_pick 102 = .ok (.iaload, 1) := by decide +kernel
theorem dX0_pick_103 : decode cX0_pick 103 = .ok (.iconst (-1), 1) := by decide +kernel
theorem dX0_pick_104 : decode cX0_pick 104 = .ok (.if_icmp .eq 16, 3) := by decide +kernel
theorem dX0_pick_107 : decode cX0_pick 107 = .ok (.iload_n 2, 1) := by decide +kernel
theorem dX0_pick_108 : decode cX0_pick 108 = .ok (.iconst 1, 1) := by decide +kernel
theorem dX0_pick_109 : decode cX0_pick 109 = .ok (.aload_n 0, 1) := by decide +kernel
theorem dX0_pick_110 : decode cX0_pick 110 = .ok (.getfield 18, 3) := by decide +kernel
theorem dX0_pick_113 : decode cX0_pick 113 = .ok (.iload_n 1, 1) := by decide +kernel
theorem dX0_pick_114 : decode cX0_pick 114 = .ok (.iaload, 1) := by decide +kernel
theorem dX0_pick_115 : decode cX0_pick 115 = .ok (.ishl, 1) := by decide +kernel
theorem dX0_pick_116 : decode cX0_pick 116 = .ok (.iand, 1) := by decide +kernel
theorem dX0_pick_117 : decode cX0_pick 117 = .ok (.ifCond .eq 54, 3) := by decide +kernel
theorem dX0_pick_120 : decode cX0_pick 120 = .ok (.iload_n 2, 1) := by decide +kernel
theorem dX0_pick_121 : decode cX0_pick 121 = .ok (.ifCond .ne 12, 3) := by decide +kernel
theorem dX0_pick_124 : decode cX0_pick 124 = .ok (.aload_n 0, 1) := by decide +kernel
theorem dX0_pick_125 : decode cX0_pick 125 = .ok (.getfield 15, 3) := by decide +kernel
theorem dX0_pick_128 : decode cX0_pick 128 = .ok (.iload_n 1, 1) := by decide +kernel
theorem dX0_pick_129 : decode cX0_pick 129 = .ok (.iaload, 1) := by decide +kernel
theorem dX0_pick_130 : decode cX0_pick 130 = .ok (.goto 14, 3) := by decide +kernel
theorem dX0_pick_133 : decode cX0_pick 133 = .ok (.aload_n 0, 1) := by decide +kernel
theorem dX0_pick_134 : decode cX0_pick 134 = .ok (.getfield 15, 3) := by decide +kernel
theorem dX0_pick_137 : decode cX0_pick 137 = .ok (.iload_n 1, 1) := by decide +kernel
theorem dX0_pick_138 : decode cX0_pick 138 = .ok (.iaload, 1) := by decide +kernel
theorem dX0_pick_139 : decode cX0_pick 139 = .ok (.aload_n 0, 1) := by decide +kernel
theorem dX0_pick_140 : decode cX0_pick 140 = .ok (.getfield 35, 3) := by decide +kernel
theorem dX0_pick_143 : decode cX0_pick 143 = .ok (.iadd, 1) := by decide +kernel
theorem dX0_pick_144 : decode cX0_pick 144 = .ok (.istore 6, 2) := by decide +kernel
theorem dX0_pick_146 : decode cX0_pick 146 = .ok (.aload_n 0, 1) := by decide +kernel
theorem dX0_pick_147 : decode cX0_pick 147 = .ok (.iload_n 1, 1) := by decide +kernel
theorem dX0_pick_148 : decode cX0_pick 148 = .ok (.iconst 1, 1) := by decide +kernel
theorem dX0_pick_149 : decode cX0_pick 149 = .ok (.iadd, 1) := by decide +kernel
theorem dX0_pick_150 : decode cX0_pick 150 = .ok (.iload_n 2, 1) := by decide +kernel
theorem dX0_pick_151 : decode cX0_pick 151 = .ok (.iconst 1, 1) := by decide +kernel
theorem dX0_pick_152 : decode cX0_pick 152 = .ok (.iload_n 1, 1) := by decide +kernel
theorem dX0_pick_153 : decode cX0_pick 153 = .ok (.ishl, 1) := by decide +kernel
theorem dX0_pick_154 : decode cX0_pick 154 = .ok (.ior, 1) := by decide +kernel
theorem dX0_pick_155 : decode cX0_pick 155 = .ok (.iload_n 3, 1) := by decide +kernel
theorem dX0_pick_156 : decode cX0_pick 156 = .ok (.aload_n 0, 1) := by decide +kernel
theorem dX0_pick_157 : decode cX0_pick 157 = .ok (.getfield 9, 3) := by decide +kernel
theorem dX0_pick_160 : decode cX0_pick 160 = .ok (.iload_n 1, 1) := by decide +kernel
theorem dX0_pick_161 : decode cX0_pick 161 = .ok (.iaload, 1) := by decide +kernel
theorem dX0_pick_162 : decode cX0_pick 162 = .ok (.iadd, 1) := by decide +kernel
theorem dX0_pick_163 : decode cX0_pick 163 = .ok (.iload 4, 2) := by decide +kernel
theorem dX0_pick_165 : decode cX0_pick 165 = .ok (.iload 6, 2) := by decide +kernel
theorem dX0_pick_167 : decode cX0_pick 167 = .ok (.iadd, 1) := by decide +kernel
theorem dX0_pick_168 : decode cX0_pick 168 = .ok (.invokestatic 47, 3) := by decide +kernel
theorem dX0_pick_171 : decode cX0_pick 171 = .ok (.aload_n 0, 1) := by decide +kernel
theorem dX0_pick_172 : decode cX0_pick 172 = .ok (.iload_n 1, 1) := by decide +kernel
theorem dX0_pick_173 : decode cX0_pick 173 = .ok (.iconst 1, 1) := by decide +kernel
theorem dX0_pick_174 : decode cX0_pick 174 = .ok (.iadd, 1) := by decide +kernel
theorem dX0_pick_175 : decode cX0_pick 175 = .ok (.iload_n 2, 1) := by decide +kernel
theorem dX0_pick_176 : decode cX0_pick 176 = .ok (.iload_n 3, 1) := by decide +kernel
theorem dX0_pick_177 : decode cX0_pick 177 = .ok (.iload 4, 2) := by decide +kernel
theorem dX0_pick_179 : decode cX0_pick 179 = .ok (.invokestatic 47, 3) := by decide +kernel
theorem dX0_pick_182 : decode cX0_pick 182 = .ok (.return_, 1) := by decide +kernel
def f_X0_pick_b56 (slf : TH → Option Nat → Int32 → Int32 → Int32 → Int32 → Option (Unit × TH)) (σ : TH) : Option (Unit × TH) :=
  some ((), σ)
set_option maxHeartbeats 4000000 in
set_option maxRecDepth 100000 in
theorem t_X0_pick_b56 {l : Launch} {D : va_G} {cy : Nat → ClassId} {ka : Nat → Nat} {σ0 z : TH} {r : Unit} {slf : TH → Option Nat → Int32 → Int32 → Int32 → Int32 → Option (Unit × TH)} {fr lo fr2 lo2 : Nat} (hfl : 0 ≤ fr ∧ 0 ≤ lo ∧ fr2 + 1 ≤ fr ∧ 26 + lo2 ≤ lo) (hslf : ∀ (σ : TH) (q0 : Option Nat) (q1 : Int32) (q2 : Int32) (q3 : Int32) (q4 : Int32) (r : Unit) (z : TH), slf σ q0 q1 q2 q3 q4 = some (r, z) → ct_ l D cy ka yX0_pick fr2 lo2 [va_rf q0, .int q1, .int q2, .int q3, .int q4] σ none z)  {σ : TH}  (hf : f_X0_pick_b56 slf σ  = some (r, z)) : v_ l D cy ka cX0_pick RX0 7 none "pick" fr lo (qf_ D cy σ0 z none) σ0 z σ 56 [] [] := by
  unfold f_X0_pick_b56 at hf
  exact v_vret hf dX0_pick_56
def f_X0_pick_b71 (slf : TH → Option Nat → Int32 → Int32 → Int32 → Int32 → Option (Unit × TH)) (σ : TH) (l0 : Option Nat) (l2 : Int32) (l3 : Int32) (l4 : Int32) : Option (Unit × TH) :=
  nn_ l0 fun a8 => gt_ (kd_ σ a8 = 2) <| lt_ (si_ σ 108 a8 l2) fun s9 => lt_ (si_ s9 109 a8 l3) fun s10 => lt_ (si_ s10 110 a8 l4) fun s11 => some ((), s11)
set_option maxHeartbeats 4000000 in
set_option maxRecDepth 100000 in
theorem t_X0_pick_b71 {l : Launch} {D : va_G} {cy : Nat → ClassId} {ka : Nat → Nat} {σ0 z : TH} {r : Unit} {slf : TH → Option Nat → Int32 → Int32 → Int32 → Int32 → Option (Unit × TH)} {fr lo fr2 lo2 : Nat} (hfl : 0 ≤ fr ∧ 0 ≤ lo ∧ fr2 + 1 ≤ fr ∧ 26 + lo2 ≤ lo) (hslf : ∀ (σ : TH) (q0 : Option Nat) (q1 : Int32) (q2 : Int32) (q3 : Int32) (q4 : Int32) (r : Unit) (z : TH), slf σ q0 q1 q2 q3 q4 = some (r, z) → ct_ l D cy ka yX0_pick fr2 lo2 [va_rf q0, .int q1, .int q2, .int q3, .int q4] σ none z)  {σ : TH} {l0 : Option Nat} {l2 : Int32} {l3 : Int32} {l4 : Int32} (hf : f_X0_pick_b71 slf σ l0 l2 l3 l4 = some (r, z)) : v_ l D cy ka cX0_pick RX0 7 none "pick" fr lo (qf_ D cy σ0 z none) σ0 z σ 71 [(0, va_rf l0), (2, .int l2), (3, .int l3), (4, .int l4)] [] := by
  unfold f_X0_pick_b71 at hf
  refine v_aload_n (x := l0) dX0_pick_71 rfl 0 rfl ?_
  refine v_iload_n (x := l2) dX0_pick_72 rfl 1 rfl ?_
  obtain ⟨a8, rfl, hf⟩ := nn_of hf
  obtain ⟨hk_a8, hf⟩ := gt_of hf
  refine v_puti2 cb_1 hk_a8 8 108 rfl (by decide) rfl (lk_n kw_206 rfl) (Or.inl rfl) rfl rfl hf dX0_pick_73 (fun s9 hts9 hf => ?_)
  have hk_a8 := tk_ hts9 hk_a8
  refine v_aload_n (x := (some a8)) dX0_pick_76 rfl 0 rfl ?_
  refine v_iload_n (x := l3) dX0_pick_77 rfl 2 rfl ?_
  refine v_puti2 cb_1 hk_a8 9 109 rfl (by decide) rfl (lk_n kw_208 rfl) (Or.inl rfl) rfl rfl hf dX0_pick_78 (fun s10 hts10 hf => ?_)
  have hk_a8 := tk_ hts10 hk_a8
  refine v_aload_n (x := (some a8)) dX0_pick_81 rfl 0 rfl ?_
  refine v_iload (x := l4) dX0_pick_82 3 rfl ?_
  refine v_puti2 cb_1 hk_a8 10 110 rfl (by decide) rfl (lk_n kw_210 rfl) (Or.inl rfl) rfl rfl hf dX0_pick_84 (fun s11 hts11 hf => ?_)
  have hk_a8 := tk_ hts11 hk_a8
  exact v_vret hf dX0_pick_87
def f_X0_pick_b171 (slf : TH → Option Nat → Int32 → Int32 → Int32 → Int32 → Option (Unit × TH)) (σ : TH) (l0 : Option Nat) (l1 : Int32) (l2 : Int32) (l3 : Int32) (l4 : Int32) : Option (Unit × TH) :=
  bd_ (slf σ l0 (l1 + (1 : Int32)) l2 l3 l4) fun x15 s16 => some ((), s16)
set_option maxHeartbeats 4000000 in
set_option maxRecDepth 100000 in
theorem t_X0_pick_b171 {l : Launch} {D : va_G} {cy : Nat → ClassId} {ka : Nat → Nat} {σ0 z : TH} {r : Unit} {slf : TH → Option Nat → Int32 → Int32 → Int32 → Int32 → Option (Unit × TH)} {fr lo fr2 lo2 : Nat} (hfl : 0 ≤ fr ∧ 0 ≤ lo ∧ fr2 + 1 ≤ fr ∧ 26 + lo2 ≤ lo) (hslf : ∀ (σ : TH) (q0 : Option Nat) (q1 : Int32) (q2 : Int32) (q3 : Int32) (q4 : Int32) (r : Unit) (z : TH), slf σ q0 q1 q2 q3 q4 = some (r, z) → ct_ l D cy ka yX0_pick fr2 lo2 [va_rf q0, .int q1, .int q2, .int q3, .int q4] σ none z)  {σ : TH} {l0 : Option Nat} {l1 : Int32} {l2 : Int32} {l3 : Int32} {l4 : Int32} (hf : f_X0_pick_b171 slf σ l0 l1 l2 l3 l4 = some (r, z)) : v_ l D cy ka cX0_pick RX0 7 none "pick" fr lo (qf_ D cy σ0 z none) σ0 z σ 171 [(0, va_rf l0), (1, .int l1), (2, .int l2), (3, .int l3), (4, .int l4)] [] := by
  unfold f_X0_pick_b171 at hf
  refine v_aload_n (x := l0) dX0_pick_171 rfl 0 rfl ?_
  refine v_iload_n (x := l1) dX0_pick_172 rfl 1 rfl ?_
  refine v_iconst (v := 1) dX0_pick_173 (by decide) ?_
  refine v_iadd dX0_pick_174 ?_
  refine v_iload_n (x := l2) dX0_pick_175 rfl 2 rfl ?_
  refine v_iload_n (x := l3) dX0_pick_176 rfl 3 rfl ?_
  refine v_iload (x := l4) dX0_pick_177 4 rfl ?_
  obtain ⟨x15, s16, hcs16, hf⟩ := bd_of hf
  have hts16 := hslf σ l0 (l1 + (1 : Int32)) l2 l3 l4 _ _ hcs16
  refine v_callS (As := [va_rf l0, .int (l1 + (1 : Int32)), .int l2, .int l3, .int l4]) (rest := []) hts16 yb_X0_pick kw_973 kw_974 rfl ⟨by omega, by omega⟩ rfl (cat_len (Nat.le_of_ble_eq_true rfl)) dX0_pick_179 ?_
  show v_ l D cy ka cX0_pick RX0 7 none "pick" fr lo (qf_ D cy σ0 z none) σ0 z _ 182 [(0, va_rf l0), (1, .int l1), (2, .int l2), (3, .int l3), (4, .int l4)] []
  exact v_vret hf dX0_pick_182
def f_X0_pick_b144 (slf : TH → Option Nat → Int32 → Int32 → Int32 → Int32 → Option (Unit × TH)) (σ : TH) (l0 : Option Nat) (l1 : Int32) (l2 : Int32) (l3 : Int32) (l4 : Int32) (t0 : Int32) : Option (Unit × TH) :=
  nn_ l0 fun a24 => gt_ (kd_ σ a24 = 2) <| lt_ (fr_ σ 100 a24) fun r25 => nn_ r25 fun a26 => gt_ (kd_ σ a26 = 20) <| gt_ (¬ (l1 < 0 ∨ ln_ σ a26 ≤ l1.toNatClampNeg)) <| lt_ (ai_ σ a26 l1.toNatClampNeg) fun x27 => bd_ (slf σ (some a24) (l1 + (1 : Int32)) (l2 ||| ((1 : Int32) <<< (l1 &&& 31))) (l3 + x27) (l4 + t0)) fun x28 s29 => f_X0_pick_b171 slf s29 (some a24) l1 l2 l3 l4
set_option maxHeartbeats 4000000 in
set_option maxRecDepth 100000 in
theorem t_X0_pick_b144 {l : Launch} {D : va_G} {cy : Nat → ClassId} {ka : Nat → Nat} {σ0 z : TH} {r : Unit} {slf : TH → Option Nat → Int32 → Int32 → Int32 → Int32 → Option (Unit × TH)} {fr lo fr2 lo2 : Nat} (hfl : 0 ≤ fr ∧ 0 ≤ lo ∧ fr2 + 1 ≤ fr ∧ 26 + lo2 ≤ lo) (hslf : ∀ (σ : TH) (q0 : Option Nat) (q1 : Int32) (q2 : Int32) (q3 : Int32) (q4 : Int32) (r : Unit) (z : TH), slf σ q0 q1 q2 q3 q4 = some (r, z) → ct_ l D cy ka yX0_pick fr2 lo2 [va_rf q0, .int q1, .int q2, .int q3, .int q4] σ none z)  {σ : TH} {l0 : Option Nat} {l1 : Int32} {l2 : Int32} {l3 : Int32} {l4 : Int32} {t0 : Int32} (hf : f_X0_pick_b144 slf σ l0 l1 l2 l3 l4 t0 = some (r, z)) : v_ l D cy ka cX0_pick RX0 7 none "pick" fr lo (qf_ D cy σ0 z none) σ0 z σ 144 [(0, va_rf l0), (1, .int l1), (2, .int l2), (3, .int l3), (4, .int l4)] [.int t0] := by
  unfold f_X0_pick_b144 at hf
  refine v_istore [(6, .int t0), (0, va_rf l0), (1, .int l1), (2, .int l2), (3, .int l3), (4, .int l4)] dX0_pick_144 (by decide) rfl ?_
  refine v_aload_n (x := l0) dX0_pick_146 rfl 1 rfl ?_
  refine v_iload_n (x := l1) dX0_pick_147 rfl 2 rfl ?_
  refine v_iconst (v := 1) dX0_pick_148 (by decide) ?_
  refine v_iadd dX0_pick_149 ?_
  refine v_iload_n (x := l2) dX0_pick_150 rfl 3 rfl ?_
  refine v_iconst (v := 1) dX0_pick_151 (by decide) ?_
  refine v_iload_n (x := l1) dX0_pick_152 rfl 2 rfl ?_
  refine v_ishl dX0_pick_153 ?_
  refine v_ior dX0_pick_154 ?_
  refine v_iload_n (x := l3) dX0_pick_155 rfl 4 rfl ?_
  refine v_aload_n (x := l0) dX0_pick_156 rfl 1 rfl ?_
  obtain ⟨a24, rfl, hf⟩ := nn_of hf
  obtain ⟨hk_a24, hf⟩ := gt_of hf
  refine v_getr cb_1 hk_a24 0 100 rfl (by decide) rfl (lk_n kw_198 rfl) hf dX0_pick_157 (fun r25 hf => ?_)
  refine v_iload_n (x := l1) dX0_pick_160 rfl 2 rfl ?_
  obtain ⟨a26, rfl, hf⟩ := nn_of hf
  obtain ⟨hk_a26, hf⟩ := gt_of hf
  refine v_iald hk_a26 hf dX0_pick_161 (fun x27 hf => ?_)
  refine v_iadd dX0_pick_162 ?_
  refine v_iload (x := l4) dX0_pick_163 5 rfl ?_
  refine v_iload (x := t0) dX0_pick_165 0 rfl ?_
  refine v_iadd dX0_pick_167 ?_
  obtain ⟨x28, s29, hcs29, hf⟩ := bd_of hf
  have hts29 := hslf σ (some a24) (l1 + (1 : Int32)) (l2 ||| ((1 : Int32) <<< (l1 &&& 31))) (l3 + x27) (l4 + t0) _ _ hcs29
  refine v_callS (As := [va_rf (some a24), .int (l1 + (1 : Int32)), .int (l2 ||| ((1 : Int32) <<< (l1 &&& 31))), .int (l3 + x27), .int (l4 + t0)]) (rest := []) hts29 yb_X0_pick kw_973 kw_974 rfl ⟨by omega, by omega⟩ rfl (cat_len (Nat.le_of_ble_eq_true rfl)) dX0_pick_168 ?_
  have hk_a24 := tk_ hts29.1 hk_a24
  show v_ l D cy ka cX0_pick RX0 7 none "pick" fr lo (qf_ D cy σ0 z none) σ0 z _ 171 [(6, .int t0), (0, va_rf (some a24)), (1, .int l1), (2, .int l2), (3, .int l3), (4, .int l4)] []
  refine v_sub [1, 2, 3, 4, 5] (L2 := [(0, va_rf (some a24)), (1, .int l1), (2, .int l2), (3, .int l3), (4, .int l4)]) rfl ?_
  exact t_X0_pick_b171 hfl hslf  hf
def f_X0_pick_b120 (slf : TH → Option Nat → Int32 → Int32 → Int32 → Int32 → Option (Unit × TH)) (σ : TH) (l0 : Option Nat) (l1 : Int32) (l2 : Int32) (l3 : Int32) (l4 : Int32) : Option (Unit × TH) :=
  if l2 = 0 then (nn_ l0 fun a20 => gt_ (kd_ σ a20 = 2) <| lt_ (fr_ σ 101 a20) fun r21 => nn_ r21 fun a22 => gt_ (kd_ σ a22 = 20) <| gt_ (¬ (l1 < 0 ∨ ln_ σ a22 ≤ l1.toNatClampNeg)) <| lt_ (ai_ σ a22 l1.toNatClampNeg) fun x23 => f_X0_pick_b144 slf σ (some a20) l1 l2 l3 l4 x23) else (nn_ l0 fun a30 => gt_ (kd_ σ a30 = 2) <| lt_ (fr_ σ 101 a30) fun r31 => nn_ r31 fun a32 => gt_ (kd_ σ a32 = 20) <| gt_ (¬ (l1 < 0 ∨ ln_ σ a32 ≤ l1.toNatClampNeg)) <| lt_ (ai_ σ a32 l1.toNatClampNeg) fun x33 => lt_ (fi_ σ 107 a30) fun x34 => f_X0_pick_b144 slf σ (some a30) l1 l2 l3 l4 (x33 + x34))
set_option maxHeartbeats 4000000 in
set_option maxRecDepth 100000 in
theorem t_X0_pick_b120 {l : Launch} {D : va_G} {cy : Nat → ClassId} {ka : Nat → Nat} {σ0 z : TH} {r : Unit} {slf : TH → Option Nat → Int32 → Int32 → Int32 → Int32 → Option (Unit × TH)} {fr lo fr2 lo2 : Nat} (hfl : 0 ≤ fr ∧ 0 ≤ lo ∧ fr2 + 1 ≤ fr ∧ 26 + lo2 ≤ lo) (hslf : ∀ (σ : TH) (q0 : Option Nat) (q1 : Int32) (q2 : Int32) (q3 : Int32) (q4 : Int32) (r : Unit) (z : TH), slf σ q0 q1 q2 q3 q4 = some (r, z) → ct_ l D cy ka yX0_pick fr2 lo2 [va_rf q0, .int q1, .int q2, .int q3, .int q4] σ none z)  {σ : TH} {l0 : Option Nat} {l1 : Int32} {l2 : Int32} {l3 : Int32} {l4 : Int32} (hf : f_X0_pick_b120 slf σ l0 l1 l2 l3 l4 = some (r, z)) : v_ l D cy ka cX0_pick RX0 7 none "pick" fr lo (qf_ D cy σ0 z none) σ0 z σ 120 [(0, va_rf l0), (1, .int l1), (2, .int l2), (3, .int l3), (4, .int l4)] [] := by
  unfold f_X0_pick_b120 at hf
  refine v_iload_n (x := l2) dX0_pick_120 rfl 2 rfl ?_
  refine v_if_ne (tgt := 133) hf dX0_pick_121 (by decide) (fun hq hf => ?_) (fun hq hf => ?_)
  · refine v_aload_n (x := l0) dX0_pick_124 rfl 0 rfl ?_
    obtain ⟨a20, rfl, hf⟩ := nn_of hf
    obtain ⟨hk_a20, hf⟩ := gt_of hf
    refine v_getr cb_1 hk_a20 1 101 rfl (by decide) rfl (lk_n kw_199 rfl) hf dX0_pick_125 (fun r21 hf => ?_)
    refine v_iload_n (x := l1) dX0_pick_128 rfl 1 rfl ?_
    obtain ⟨a22, rfl, hf⟩ := nn_of hf
    obtain ⟨hk_a22, hf⟩ := gt_of hf
    refine v_iald hk_a22 hf dX0_pick_129 (fun x23 hf => ?_)
    refine v_goto (tgt := 144) dX0_pick_130 (by decide) ?_
    refine v_sub [0, 1, 2, 3, 4] (L2 := [(0, va_rf (some a20)), (1, .int l1), (2, .int l2), (3, .int l3), (4, .int l4)]) rfl ?_
    exact t_X0_pick_b144 hfl hslf  hf
  · refine v_aload_n (x := l0) dX0_pick_133 rfl 0 rfl ?_
    obtain ⟨a30, rfl, hf⟩ := nn_of hf
    obtain ⟨hk_a30, hf⟩ := gt_of hf
    refine v_getr cb_1 hk_a30 1 101 rfl (by decide) rfl (lk_n kw_199 rfl) hf dX0_pick_134 (fun r31 hf => ?_)
    refine v_iload_n (x := l1) dX0_pick_137 rfl 1 rfl ?_
    obtain ⟨a32, rfl, hf⟩ := nn_of hf
    obtain ⟨hk_a32, hf⟩ := gt_of hf
    refine v_iald hk_a32 hf dX0_pick_138 (fun x33 hf => ?_)
    refine v_aload_n (x := (some a30)) dX0_pick_139 rfl 0 rfl ?_
    refine v_geti cb_1 hk_a30 7 107 rfl (by decide) rfl (lk_n kw_205 rfl) hf dX0_pick_140 (fun x34 hf => ?_)
    refine v_iadd dX0_pick_143 ?_
    refine v_sub [0, 1, 2, 3, 4] (L2 := [(0, va_rf (some a30)), (1, .int l1), (2, .int l2), (3, .int l3), (4, .int l4)]) rfl ?_
    exact t_X0_pick_b144 hfl hslf  hf
def f_X0_pick_b57 (slf : TH → Option Nat → Int32 → Int32 → Int32 → Int32 → Option (Unit × TH)) (σ : TH) (l0 : Option Nat) (l1 : Int32) (l2 : Int32) (l3 : Int32) (l4 : Int32) : Option (Unit × TH) :=
  nn_ l0 fun a6 => gt_ (kd_ σ a6 = 2) <| lt_ (fi_ σ 105 a6) fun x7 => if x7 ≤ l1 then (f_X0_pick_b71 slf σ (some a6) l2 l3 l4) else (if l1 < (14 : Int32) then (lt_ (fr_ σ 103 a6) fun r12 => nn_ r12 fun a13 => gt_ (kd_ σ a13 = 22) <| gt_ (¬ (l1 < 0 ∨ ln_ σ a13 ≤ l1.toNatClampNeg)) <| lt_ (ai_ σ a13 l1.toNatClampNeg) fun x14 => if x14 = 0 then (f_X0_pick_b171 slf σ (some a6) l1 l2 l3 l4) else (lt_ (fr_ σ 102 a6) fun r17 => nn_ r17 fun a18 => gt_ (kd_ σ a18 = 20) <| gt_ (¬ (l1 < 0 ∨ ln_ σ a18 ≤ l1.toNatClampNeg)) <| lt_ (ai_ σ a18 l1.toNatClampNeg) fun x19 => if x19 = (-1 : Int32) then (f_X0_pick_b120 slf σ (some a6) l1 l2 l3 l4) else (lt_ (fr_ σ 102 a6) fun r35 => nn_ r35 fun a36 => gt_ (kd_ σ a36 = 20) <| gt_ (¬ (l1 < 0 ∨ ln_ σ a36 ≤ l1.toNatClampNeg)) <| lt_ (ai_ σ a36 l1.toNatClampNeg) fun x37 => if (l2 &&& ((1 : Int32) <<< (x37 &&& 31))) = 0 then (f_X0_pick_b171 slf σ (some a6) l1 l2 l3 l4) else (f_X0_pick_b120 slf σ (some a6) l1 l2 l3 l4)))) else (f_X0_pick_b71 slf σ (some a6) l2 l3 l4))
set_option maxHeartbeats 4000000 in
set_option maxRecDepth 100000 in
theorem t_X0_pick_b57 {l : Launch} {D : va_G} {cy : Nat → ClassId} {ka : Nat → Nat} {σ0 z : TH} {r : Unit} {slf : TH → Option Nat → Int32 → Int32 → Int32 → Int32 → Option (Unit × TH)} {fr lo fr2 lo2 : Nat} (hfl : 0 ≤ fr ∧ 0 ≤ lo ∧ fr2 + 1 ≤ fr ∧ 26 + lo2 ≤ lo) (hslf : ∀ (σ : TH) (q0 : Option Nat) (q1 : Int32) (q2 : Int32) (q3 : Int32) (q4 : Int32) (r : Unit) (z : TH), slf σ q0 q1 q2 q3 q4 = some (r, z) → ct_ l D cy ka yX0_pick fr2 lo2 [va_rf q0, .int q1, .int q2, .int q3, .int q4] σ none z)  {σ : TH} {l0 : Option Nat} {l1 : Int32} {l2 : Int32} {l3 : Int32} {l4 : Int32} (hf : f_X0_pick_b57 slf σ l0 l1 l2 l3 l4 = some (r, z)) : v_ l D cy ka cX0_pick RX0 7 none "pick" fr lo (qf_ D cy σ0 z none) σ0 z σ 57 [(0, va_rf l0), (1, .int l1), (2, .int l2), (3, .int l3), (4, .int l4)] [] := by
  unfold f_X0_pick_b57 at hf
  refine v_iload_n (x := l1) dX0_pick_57 rfl 1 rfl ?_
  refine v_aload_n (x := l0) dX0_pick_58 rfl 0 rfl ?_
  obtain ⟨a6, rfl, hf⟩ := nn_of hf
  obtain ⟨hk_a6, hf⟩ := gt_of hf
  refine v_geti cb_1 hk_a6 5 105 rfl (by decide) rfl (lk_n kw_203 rfl) hf dX0_pick_59 (fun x7 hf => ?_)
  refine v_icmp_ge (tgt := 71) hf dX0_pick_62 (by decide) (fun hq hf => ?_) (fun hq hf => ?_)
  · refine v_sub [0, 2, 3, 4] (L2 := [(0, va_rf (some a6)), (2, .int l2), (3, .int l3), (4, .int l4)]) rfl ?_
    exact t_X0_pick_b71 hfl hslf  hf
  · refine v_iload_n (x := l1) dX0_pick_65 rfl 1 rfl ?_
    refine v_bipush (v := 14) dX0_pick_66 (by decide) ?_
    refine v_icmp_lt (tgt := 88) hf dX0_pick_68 (by decide) (fun hq hf => ?_) (fun hq hf => ?_)
    · refine v_aload_n (x := (some a6)) dX0_pick_88 rfl 0 rfl ?_
      refine v_getr cb_1 hk_a6 3 103 rfl (by decide) rfl (lk_n kw_201 rfl) hf dX0_pick_89 (fun r12 hf => ?_)
      refine v_iload_n (x := l1) dX0_pick_92 rfl 1 rfl ?_
      obtain ⟨a13, rfl, hf⟩ := nn_of hf
      obtain ⟨hk_a13, hf⟩ := gt_of hf
      refine v_zald hk_a13 hf dX0_pick_93 (fun x14 hf => ?_)
      refine v_if_eq (tgt := 171) hf dX0_pick_94 (by decide) (fun hq hf => ?_) (fun hq hf => ?_)
      · refine v_sub [0, 1, 2, 3, 4] (L2 := [(0, va_rf (some a6)), (1, .int l1), (2, .int l2), (3, .int l3), (4, .int l4)]) rfl ?_
        exact t_X0_pick_b171 hfl hslf  hf
      · refine v_aload_n (x := (some a6)) dX0_pick_97 rfl 0 rfl ?_
        refine v_getr cb_1 hk_a6 2 102 rfl (by decide) rfl (lk_n kw_200 rfl) hf dX0_pick_98 (fun r17 hf => ?_)
        refine v_iload_n (x := l1) dX0_pick_101 rfl 1 rfl ?_
        obtain ⟨a18, rfl, hf⟩ := nn_of hf
        obtain ⟨hk_a18, hf⟩ := gt_of hf
        refine v_iald hk_a18 hf dX0_pick_102 (fun x19 hf => ?_)
        refine v_iconst (v := (-1)) dX0_pick_103 (by decide) ?_
        refine v_icmp_eq (tgt := 120) hf dX0_pick_104 (by decide) (fun hq hf => ?_) (fun hq hf => ?_)
        · refine v_sub [0, 1, 2, 3, 4] (L2 := [(0, va_rf (some a6)), (1, .int l1), (2, .int l2), (3, .int l3), (4, .int l4)]) rfl ?_
          exact t_X0_pick_b120 hfl hslf  hf
        · refine v_iload_n (x := l2) dX0_pick_107 rfl 2 rfl ?_
          refine v_iconst (v := 1) dX0_pick_108 (by decide) ?_
          refine v_aload_n (x := (some a6)) dX0_pick_109 rfl 0 rfl ?_
          refine v_getr cb_1 hk_a6 2 102 rfl (by decide) rfl (lk_n kw_200 rfl) hf dX0_pick_110 (fun r35 hf => ?_)
          refine v_iload_n (x := l1) dX0_pick_113 rfl 1 rfl ?_
          obtain ⟨a36, rfl, hf⟩ := nn_of hf
          obtain ⟨hk_a36, hf⟩ := gt_of hf
          refine v_iald hk_a36 hf dX0_pick_114 (fun x37 hf => ?_)
          refine v_ishl dX0_pick_115 ?_
          refine v_iand dX0_pick_116 ?_
          refine v_if_eq (tgt := 171) hf dX0_pick_117 (by decide) (fun hq hf => ?_) (fun hq hf => ?_)
          · refine v_sub [0, 1, 2, 3, 4] (L2 := [(0, va_rf (some a6)), (1, .int l1), (2, .int l2), (3, .int l3), (4, .int l4)]) rfl ?_
            exact t_X0_pick_b171 hfl hslf  hf
          · refine v_sub [0, 1, 2, 3, 4] (L2 := [(0, va_rf (some a6)), (1, .int l1), (2, .int l2), (3, .int l3), (4, .int l4)]) rfl ?_
            exact t_X0_pick_b120 hfl hslf  hf
    · refine v_sub [0, 2, 3, 4] (L2 := [(0, va_rf (some a6)), (2, .int l2), (3, .int l3), (4, .int l4)]) rfl ?_
      exact t_X0_pick_b71 hfl hslf  hf
def f_X0_pick_b18 (slf : TH → Option Nat → Int32 → Int32 → Int32 → Int32 → Option (Unit × TH)) (σ : TH) (l0 : Option Nat) (l1 : Int32) (l2 : Int32) (l3 : Int32) (l4 : Int32) (t0 : Int32) : Option (Unit × TH) :=
  nn_ l0 fun a1 => gt_ (kd_ σ a1 = 2) <| lt_ (fi_ σ 106 a1) fun x2 => if x2 < l4 then (f_X0_pick_b56 slf σ ) else (lt_ (fi_ σ 109 a1) fun x3 => if t0 < x3 then (f_X0_pick_b56 slf σ ) else (lt_ (fi_ σ 109 a1) fun x4 => if t0 = x4 then (lt_ (fi_ σ 110 a1) fun x5 => if l4 < x5 then (f_X0_pick_b57 slf σ (some a1) l1 l2 l3 l4) else (f_X0_pick_b56 slf σ )) else (f_X0_pick_b57 slf σ (some a1) l1 l2 l3 l4)))
set_option maxHeartbeats 4000000 in
set_option maxRecDepth 100000 in
theorem t_X0_pick_b18 {l : Launch} {D : va_G} {cy : Nat → ClassId} {ka : Nat → Nat} {σ0 z : TH} {r : Unit} {slf : TH → Option Nat → Int32 → Int32 → Int32 → Int32 → Option (Unit × TH)} {fr lo fr2 lo2 : Nat} (hfl : 0 ≤ fr ∧ 0 ≤ lo ∧ fr2 + 1 ≤ fr ∧ 26 + lo2 ≤ lo) (hslf : ∀ (σ : TH) (q0 : Option Nat) (q1 : Int32) (q2 : Int32) (q3 : Int32) (q4 : Int32) (r : Unit) (z : TH), slf σ q0 q1 q2 q3 q4 = some (r, z) → ct_ l D cy ka yX0_pick fr2 lo2 [va_rf q0, .int q1, .int q2, .int q3, .int q4] σ none z)  {σ : TH} {l0 : Option Nat} {l1 : Int32} {l2 : Int32} {l3 : Int32} {l4 : Int32} {t0 : Int32} (hf : f_X0_pick_b18 slf σ l0 l1 l2 l3 l4 t0 = some (r, z)) : v_ l D cy ka cX0_pick RX0 7 none "pick" fr lo (qf_ D cy σ0 z none) σ0 z σ 18 [(0, va_rf l0), (1, .int l1), (2, .int l2), (3, .int l3), (4, .int l4)] [.int t0] := by
  unfold f_X0_pick_b18 at hf
  refine v_istore [(5, .int t0), (0, va_rf l0), (1, .int l1), (2, .int l2), (3, .int l3), (4, .int l4)] dX0_pick_18 (by decide) rfl ?_
  refine v_iload (x := l4) dX0_pick_20 5 rfl ?_
  refine v_aload_n (x := l0) dX0_pick_22 rfl 1 rfl ?_
  obtain ⟨a1, rfl, hf⟩ := nn_of hf
  obtain ⟨hk_a1, hf⟩ := gt_of hf
  refine v_geti cb_1 hk_a1 6 106 rfl (by decide) rfl (lk_n kw_204 rfl) hf dX0_pick_23 (fun x2 hf => ?_)
  refine v_icmp_gt (tgt := 56) hf dX0_pick_26 (by decide) (fun hq hf => ?_) (fun hq hf => ?_)
  · refine v_sub [] (L2 := []) rfl ?_
    exact t_X0_pick_b56 hfl hslf  hf
  · refine v_iload (x := t0) dX0_pick_29 0 rfl ?_
    refine v_aload_n (x := (some a1)) dX0_pick_31 rfl 1 rfl ?_
    refine v_geti cb_1 hk_a1 9 109 rfl (by decide) rfl (lk_n kw_208 rfl) hf dX0_pick_32 (fun x3 hf => ?_)
    refine v_icmp_lt (tgt := 56) hf dX0_pick_35 (by decide) (fun hq hf => ?_) (fun hq hf => ?_)
    · refine v_sub [] (L2 := []) rfl ?_
      exact t_X0_pick_b56 hfl hslf  hf
    · refine v_iload (x := t0) dX0_pick_38 0 rfl ?_
      refine v_aload_n (x := (some a1)) dX0_pick_40 rfl 1 rfl ?_
      refine v_geti cb_1 hk_a1 9 109 rfl (by decide) rfl (lk_n kw_208 rfl) hf dX0_pick_41 (fun x4 hf => ?_)
      refine v_icmp_ne (tgt := 57) hf dX0_pick_44 (by decide) (fun hq hf => ?_) (fun hq hf => ?_)
      · refine v_iload (x := l4) dX0_pick_47 5 rfl ?_
        refine v_aload_n (x := (some a1)) dX0_pick_49 rfl 1 rfl ?_
        refine v_geti cb_1 hk_a1 10 110 rfl (by decide) rfl (lk_n kw_210 rfl) hf dX0_pick_50 (fun x5 hf => ?_)
        refine v_icmp_lt (tgt := 57) hf dX0_pick_53 (by decide) (fun hq hf => ?_) (fun hq hf => ?_)
        · refine v_sub [1, 2, 3, 4, 5] (L2 := [(0, va_rf (some a1)), (1, .int l1), (2, .int l2), (3, .int l3), (4, .int l4)]) rfl ?_
          exact t_X0_pick_b57 hfl hslf  hf
        · refine v_sub [] (L2 := []) rfl ?_
          exact t_X0_pick_b56 hfl hslf  hf
      · refine v_sub [1, 2, 3, 4, 5] (L2 := [(0, va_rf (some a1)), (1, .int l1), (2, .int l2), (3, .int l3), (4, .int l4)]) rfl ?_
        exact t_X0_pick_b57 hfl hslf  hf
/-- LivesAhead$Chooser.pick(LLivesAhead$Chooser;IIII)V: its body, over itself -/
def g_X0_pick (slf : TH → Option Nat → Int32 → Int32 → Int32 → Int32 → Option (Unit × TH)) (σ : TH) (p0 : Option Nat) (p1 : Int32) (p2 : Int32) (p3 : Int32) (p4 : Int32) : Option (Unit × TH) :=
  if (14 : Int32) < p1 then (f_X0_pick_b18 slf σ p0 p1 p2 p3 p4 (-1 : Int32)) else (nn_ p0 fun a38 => gt_ (kd_ σ a38 = 2) <| lt_ (fr_ σ 104 a38) fun r39 => nn_ r39 fun a40 => gt_ (kd_ σ a40 = 20) <| gt_ (¬ (p1 < 0 ∨ ln_ σ a40 ≤ p1.toNatClampNeg)) <| lt_ (ai_ σ a40 p1.toNatClampNeg) fun x41 => f_X0_pick_b18 slf σ (some a38) p1 p2 p3 p4 (p3 + x41))
set_option maxHeartbeats 4000000 in
set_option maxRecDepth 100000 in
theorem e_X0_pick {l : Launch} {D : va_G} {cy : Nat → ClassId} {ka : Nat → Nat} {σ z : TH} {p0 : Option Nat} {p1 : Int32} {p2 : Int32} {p3 : Int32} {p4 : Int32} {r : Unit} {slf : TH → Option Nat → Int32 → Int32 → Int32 → Int32 → Option (Unit × TH)} {fr lo fr2 lo2 : Nat} (hfl : 0 ≤ fr ∧ 0 ≤ lo ∧ fr2 + 1 ≤ fr ∧ 26 + lo2 ≤ lo) (hslf : ∀ (σ : TH) (q0 : Option Nat) (q1 : Int32) (q2 : Int32) (q3 : Int32) (q4 : Int32) (r : Unit) (z : TH), slf σ q0 q1 q2 q3 q4 = some (r, z) → ct_ l D cy ka yX0_pick fr2 lo2 [va_rf q0, .int q1, .int q2, .int q3, .int q4] σ none z) (hf : g_X0_pick slf σ p0 p1 p2 p3 p4 = some (r, z)) : ct_ l D cy ka yX0_pick fr lo [va_rf p0, .int p1, .int p2, .int p3, .int p4] σ none z := by
  unfold g_X0_pick at hf
  refine v_start (cc := cX0_pick) (own := RX0) (maxL := 7) (ret := none) (nm := "pick") (by decide +kernel) kw_975 rfl rfl (by simp [lg_sl, va_rf_cat, cat_i, cat_l]) ?_
  refine v_eqL (L2 := [(0, va_rf p0), (1, .int p1), (2, .int p2), (3, .int p3), (4, .int p4)]) (by simp [lv_args, va_rf_cat, cat_i, cat_l]) ?_
  refine v_iload_n (x := p1) dX0_pick_0 rfl 1 rfl ?_
  refine v_bipush (v := 14) dX0_pick_1 (by decide) ?_
  refine v_icmp_gt (tgt := 17) hf dX0_pick_3 (by decide) (fun hq hf => ?_) (fun hq hf => ?_)
  · refine v_iconst (v := (-1)) dX0_pick_17 (by decide) ?_
    refine v_sub [0, 1, 2, 3, 4] (L2 := [(0, va_rf p0), (1, .int p1), (2, .int p2), (3, .int p3), (4, .int p4)]) rfl ?_
    exact t_X0_pick_b18 hfl hslf  hf
  · refine v_iload_n (x := p3) dX0_pick_6 rfl 3 rfl ?_
    refine v_aload_n (x := p0) dX0_pick_7 rfl 0 rfl ?_
    obtain ⟨a38, rfl, hf⟩ := nn_of hf
    obtain ⟨hk_a38, hf⟩ := gt_of hf
    refine v_getr cb_1 hk_a38 4 104 rfl (by decide) rfl (lk_n kw_202 rfl) hf dX0_pick_8 (fun r39 hf => ?_)
    refine v_iload_n (x := p1) dX0_pick_11 rfl 1 rfl ?_
    obtain ⟨a40, rfl, hf⟩ := nn_of hf
    obtain ⟨hk_a40, hf⟩ := gt_of hf
    refine v_iald hk_a40 hf dX0_pick_12 (fun x41 hf => ?_)
    refine v_iadd dX0_pick_13 ?_
    refine v_goto (tgt := 18) dX0_pick_14 (by decide) ?_
    refine v_sub [0, 1, 2, 3, 4] (L2 := [(0, va_rf (some a38)), (1, .int p1), (2, .int p2), (3, .int p3), (4, .int p4)]) rfl ?_
    exact t_X0_pick_b18 hfl hslf  hf
def f_X0_pick : Nat → TH → Option Nat → Int32 → Int32 → Int32 → Int32 → Option (Unit × TH)
  | 0, _, _, _, _, _, _ => none
  | d + 1, σ, p0, p1, p2, p3, p4 => g_X0_pick (f_X0_pick d) σ p0 p1 p2 p3 p4
theorem c_X0_pick {l : Launch} {D : va_G} {cy : Nat → ClassId} {ka : Nat → Nat} : ∀ (d : Nat) {σ z : TH} {p0 : Option Nat} {p1 : Int32} {p2 : Int32} {p3 : Int32} {p4 : Int32} {r : Unit}, f_X0_pick d σ p0 p1 p2 p3 p4 = some (r, z) → ct_ l D cy ka yX0_pick (0 + 1 * d) (0 + 26 * d) [va_rf p0, .int p1, .int p2, .int p3, .int p4] σ none z := by
  intro d
  induction d with
  | zero => intro σ z p0 p1 p2 p3 p4 r hf; unfold f_X0_pick at hf; cases hf
  | succ d ih =>
    intro σ z p0 p1 p2 p3 p4 r hf
    unfold f_X0_pick at hf
    exact e_X0_pick (fr2 := 0 + 1 * d) (lo2 := 0 + 26 * d) ⟨by omega, by omega, by omega, by omega⟩ (fun _ _ _ _ _ _ _ _ h => ih h) hf
theorem dX0_choose_0 : decode cX0_choose 0 = .ok (.aload_n 0, 1) := by decide +kernel
theorem dX0_choose_1 : decode cX0_choose 1 = .ok (.getfield 25, 3) := by decide +kernel
theorem dX0_choose_4 : decode cX0_choose 4 = .ok (.aload_n 0, 1) := by decide +kernel
theorem dX0_choose_5 : decode cX0_choose 5 = .ok (.getfield 28, 3) := by decide +kernel
theorem dX0_choose_8 : decode cX0_choose 8 = .ok (.iconst 0, 1) := by decide +kernel
theorem dX0_choose_9 : decode cX0_choose 9 = .ok (.iastore, 1) := by decide +kernel
theorem dX0_choose_10 : decode cX0_choose 10 = .ok (.aload_n 0, 1) := by decide +kernel
theorem dX0_choose_11 : decode cX0_choose 11 = .ok (.getfield 28, 3) := by decide +kernel
theorem dX0_choose_14 : decode cX0_choose 14 = .ok (.iconst 1, 1) := by decide +kernel
theorem dX0_choose_15 : decode cX0_choose 15 = .ok (.isub, 1) := by decide +kernel
theorem dX0_choose_16 : decode cX0_choose 16 = .ok (.istore_n 1, 1) := by decide +kernel
theorem dX0_choose_17 : decode cX0_choose 17 = .ok (.iload_n 1, 1) := by decide +kernel
theorem dX0_choose_18 : decode cX0_choose 18 = .ok (.ifCond .lt 43, 3) := by decide +kernel
theorem dX0_choose_21 : decode cX0_choose 21 = .ok (.aload_n 0, 1) := by decide +kernel
theorem dX0_choose_22 : decode cX0_choose 22 = .ok (.getfield 25, 3) := by decide +kernel
theorem dX0_choose_25 : decode cX0_choose 25 = .ok (.iload_n 1, 1) := by decide +kernel
theorem dX0_choose_26 : decode cX0_choose 26 = .ok (.aload_n 0, 1) := by decide +kernel
theorem dX0_choose_27 : decode cX0_choose 27 = .ok (.getfield 25, 3) := by decide +kernel
theorem dX0_choose_30 : decode cX0_choose 30 = .ok (.iload_n 1, 1) := by decide +kernel
theorem dX0_choose_31 : decode cX0_choose 31 = .ok (.iconst 1, 1) := by decide +kernel
theorem dX0_choose_32 : decode cX0_choose 32 = .ok (.iadd, 1) := by decide +kernel
theorem dX0_choose_33 : decode cX0_choose 33 = .ok (.iaload, 1) := by decide +kernel
theorem dX0_choose_34 : decode cX0_choose 34 = .ok (.aload_n 0, 1) := by decide +kernel
theorem dX0_choose_35 : decode cX0_choose 35 = .ok (.getfield 21, 3) := by decide +kernel
theorem dX0_choose_38 : decode cX0_choose 38 = .ok (.iload_n 1, 1) := by decide +kernel
theorem dX0_choose_39 : decode cX0_choose 39 = .ok (.baload, 1) := by decide +kernel
theorem dX0_choose_40 : decode cX0_choose 40 = .ok (.ifCond .eq 12, 3) := by decide +kernel
theorem dX0_choose_43 : decode cX0_choose 43 = .ok (.aload_n 0, 1) := by decide +kernel
theorem dX0_choose_44 : decode cX0_choose 44 = .ok (.getfield 9, 3) := by decide +kernel
theorem dX0_choose_47 : decode cX0_choose 47 = .ok (.iload_n 1, 1) := by decide +kernel
theorem dX0_choose_48 : decode cX0_choose 48 = .ok (.iaload, 1) := by decide +kernel
theorem dX0_choose_49 : decode cX0_choose 49 = .ok (.goto 4, 3) := by decide +kernel
theorem dX0_choose_52 : decode cX0_choose 52 = .ok (.iconst 0, 1) := by decide +kernel
theorem dX0_choose_53 : decode cX0_choose 53 = .ok (.iadd, 1) := by decide +kernel
theorem dX0_choose_54 : decode cX0_choose 54 = .ok (.iastore, 1) := by decide +kernel
theorem dX0_choose_55 : decode cX0_choose 55 = .ok (.iinc 1 (-1), 3) := by decide +kernel
theorem dX0_choose_58 : decode cX0_choose 58 = .ok (.goto (-41), 3) := by decide +kernel
theorem dX0_choose_61 : decode cX0_choose 61 = .ok (.aload_n 0, 1) := by decide +kernel
theorem dX0_choose_62 : decode cX0_choose 62 = .ok (.iconst 0, 1) := by decide +kernel
theorem dX0_choose_63 : decode cX0_choose 63 = .ok (.putfield 38, 3) := by decide +kernel
theorem dX0_choose_66 : decode cX0_choose 66 = .ok (.aload_n 0, 1) := by decide +kernel
theorem dX0_choose_67 : decode cX0_choose 67 = .ok (.iconst (-1), 1) := by decide +kernel
theorem dX0_choose_68 : decode cX0_choose 68 = .ok (.putfield 41, 3) := by decide +kernel
theorem dX0_choose_71 : decode cX0_choose 71 = .ok (.aload_n 0, 1) := by decide +kernel
theorem dX0_choose_72 : decode cX0_choose 72 = .ok (.aload_n 0, 1) := by decide +kernel
theorem dX0_choose_73 : decode cX0_choose 73 = .ok (.getfield 32, 3) := by decide +kernel
theorem dX0_choose_76 : decode cX0_choose 76 = .ok (.iconst 1, 1) := by decide +kernel
theorem dX0_choose_77 : decode cX0_choose 77 = .ok (.iadd, 1) := by decide +kernel
theorem dX0_choose_78 : decode cX0_choose 78 = .ok (.putfield 44, 3) := by decide +kernel
theorem dX0_choose_81 : decode cX0_choose 81 = .ok (.aload_n 0, 1) := by decide +kernel
theorem dX0_choose_82 : decode cX0_choose 82 = .ok (.iconst 0, 1) := by decide +kernel
theorem dX0_choose_83 : decode cX0_choose 83 = .ok (.iconst 0, 1) := by decide +kernel
theorem dX0_choose_84 : decode cX0_choose 84 = .ok (.iconst 0, 1) := by decide +kernel
theorem dX0_choose_85 : decode cX0_choose 85 = .ok (.iconst 0, 1) := by decide +kernel
theorem dX0_choose_86 : decode cX0_choose 86 = .ok (.invokestatic 47, 3) := by decide +kernel
theorem dX0_choose_89 : decode cX0_choose 89 = .ok (.return_, 1) := by decide +kernel
def f_X0_choose_b53 (rec_17 : TH → Nat → Int32 → Option (Unit × TH)) (σ : TH) (l0 : Nat) (l1 : Int32) (t0 : Int32) (t1 : Int32) (t2 : Int32) (t3 : Option Nat) : Option (Unit × TH) :=
  nn_ t3 fun a20 => gt_ (kd_ σ a20 = 20) <| gt_ (¬ (t2 < 0 ∨ ln_ σ a20 ≤ t2.toNatClampNeg)) <| lt_ (sa_ σ a20 t2.toNatClampNeg (t1 + t0)) fun s21 => lt_ (l1 + (-1)) fun x22 => rec_17 s21 l0 x22
set_option maxHeartbeats 4000000 in
set_option maxRecDepth 100000 in
theorem t_X0_choose_b53 {l : Launch} {D : va_G} {cy : Nat → ClassId} {ka : Nat → Nat} {σ0 z : TH} {r : Unit} {rec_17 : TH → Nat → Int32 → Option (Unit × TH)} (hrec_17 : ∀ (σ : TH) (l0 : Nat) (l1 : Int32), rec_17 σ l0 l1 = some (r, z) → v_ l D cy ka cX0_choose RX0 2 none "choose" 21 546 (qf_ D cy σ0 z none) σ0 z σ 17 [(0, va_rf (some l0)), (1, .int l1)] []) {σ : TH} {l0 : Nat} {l1 : Int32} {t0 : Int32} {t1 : Int32} {t2 : Int32} {t3 : Option Nat} (hf : f_X0_choose_b53 rec_17 σ l0 l1 t0 t1 t2 t3 = some (r, z)) : v_ l D cy ka cX0_choose RX0 2 none "choose" 21 546 (qf_ D cy σ0 z none) σ0 z σ 53 [(0, va_rf (some l0)), (1, .int l1)] [.int t0, .int t1, .int t2, va_rf t3] := by
  unfold f_X0_choose_b53 at hf
  refine v_iadd dX0_choose_53 ?_
  obtain ⟨a20, rfl, hf⟩ := nn_of hf
  obtain ⟨hk_a20, hf⟩ := gt_of hf
  refine v_iast2 hk_a20 hf dX0_choose_54 (fun s21 hts21 hf => ?_)
  obtain ⟨x22, ex22⟩ : ∃ y : Int32, y = l1 + (-1) := ⟨_, rfl⟩
  rw [lt_e, ← ex22] at hf
  refine v_iinc (v := x22) [(1, .int x22), (0, va_rf (some l0))] dX0_choose_55 1 rfl (by rw [ex22]; rfl) (by decide) rfl ?_
  refine v_goto (tgt := 17) dX0_choose_58 (by decide) ?_
  refine v_sub [1, 0] (L2 := [(0, va_rf (some l0)), (1, .int x22)]) rfl ?_
  exact hrec_17 _ _ _ hf
def f_X0_choose_b17 : Nat → TH → Nat → Int32 → Option (Unit × TH)
  | 0, _, _, _ => none
  | n + 1, σ, l0, l1 => if l1 < 0 then (gt_ (kd_ σ l0 = 2) <| lt_ (si_ σ 108 l0 (0 : Int32)) fun s7 => lt_ (si_ s7 109 l0 (-1 : Int32)) fun s8 => lt_ (fi_ s8 106 l0) fun x9 => lt_ (si_ s8 110 l0 (x9 + (1 : Int32))) fun s10 => bd_ (f_X0_pick 20 s10 (some l0) (0 : Int32) (0 : Int32) (0 : Int32) (0 : Int32)) fun x11 s12 => some ((), s12)) else (gt_ (kd_ σ l0 = 2) <| lt_ (fr_ σ 104 l0) fun r13 => lt_ (fr_ σ 104 l0) fun r14 => nn_ r14 fun a15 => gt_ (kd_ σ a15 = 20) <| gt_ (¬ ((l1 + (1 : Int32)) < 0 ∨ ln_ σ a15 ≤ (l1 + (1 : Int32) : Int32).toNatClampNeg)) <| lt_ (ai_ σ a15 ((l1 + (1 : Int32) : Int32).toNatClampNeg)) fun x16 => lt_ (fr_ σ 103 l0) fun r17 => nn_ r17 fun a18 => gt_ (kd_ σ a18 = 22) <| gt_ (¬ (l1 < 0 ∨ ln_ σ a18 ≤ l1.toNatClampNeg)) <| lt_ (ai_ σ a18 l1.toNatClampNeg) fun x19 => if x19 = 0 then (f_X0_choose_b53 (f_X0_choose_b17 n) σ l0 l1 (0 : Int32) x16 l1 r13) else (lt_ (fr_ σ 100 l0) fun r23 => nn_ r23 fun a24 => gt_ (kd_ σ a24 = 20) <| gt_ (¬ (l1 < 0 ∨ ln_ σ a24 ≤ l1.toNatClampNeg)) <| lt_ (ai_ σ a24 l1.toNatClampNeg) fun x25 => f_X0_choose_b53 (f_X0_choose_b17 n) σ l0 l1 x25 x16 l1 r13))
set_option maxHeartbeats 4000000 in
set_option maxRecDepth 100000 in
theorem t_X0_choose_b17 {l : Launch} {D : va_G} {cy : Nat → ClassId} {ka : Nat → Nat} {σ0 z : TH} {r : Unit}  : ∀ (n : Nat) (σ : TH) (l0 : Nat) (l1 : Int32), f_X0_choose_b17 n σ l0 l1 = some (r, z) → v_ l D cy ka cX0_choose RX0 2 none "choose" 21 546 (qf_ D cy σ0 z none) σ0 z σ 17 [(0, va_rf (some l0)), (1, .int l1)] [] := by
  intro n
  induction n with
  | zero => intro σ l0 l1 hf; unfold f_X0_choose_b17 at hf; cases hf
  | succ n ih =>
    intro σ l0 l1 hf
    unfold f_X0_choose_b17 at hf
    have hrec_17 := ih
    refine v_iload_n (x := l1) dX0_choose_17 rfl 1 rfl ?_
    refine v_if_lt (tgt := 61) hf dX0_choose_18 (by decide) (fun hq hf => ?_) (fun hq hf => ?_)
    · refine v_aload_n (x := (some l0)) dX0_choose_61 rfl 0 rfl ?_
      refine v_iconst (v := 0) dX0_choose_62 (by decide) ?_
      obtain ⟨hk_l0, hf⟩ := gt_of hf
      refine v_puti2 cb_1 hk_l0 8 108 rfl (by decide) rfl (lk_n kw_206 rfl) (Or.inl rfl) rfl rfl hf dX0_choose_63 (fun s7 hts7 hf => ?_)
      have hk_l0 := tk_ hts7 hk_l0
      refine v_aload_n (x := (some l0)) dX0_choose_66 rfl 0 rfl ?_
      refine v_iconst (v := (-1)) dX0_choose_67 (by decide) ?_
      refine v_puti2 cb_1 hk_l0 9 109 rfl (by decide) rfl (lk_n kw_208 rfl) (Or.inl rfl) rfl rfl hf dX0_choose_68 (fun s8 hts8 hf => ?_)
      have hk_l0 := tk_ hts8 hk_l0
      refine v_aload_n (x := (some l0)) dX0_choose_71 rfl 0 rfl ?_
      refine v_aload_n (x := (some l0)) dX0_choose_72 rfl 0 rfl ?_
      refine v_geti cb_1 hk_l0 6 106 rfl (by decide) rfl (lk_n kw_204 rfl) hf dX0_choose_73 (fun x9 hf => ?_)
      refine v_iconst (v := 1) dX0_choose_76 (by decide) ?_
      refine v_iadd dX0_choose_77 ?_
      refine v_puti2 cb_1 hk_l0 10 110 rfl (by decide) rfl (lk_n kw_210 rfl) (Or.inl rfl) rfl rfl hf dX0_choose_78 (fun s10 hts10 hf => ?_)
      have hk_l0 := tk_ hts10 hk_l0
      refine v_aload_n (x := (some l0)) dX0_choose_81 rfl 0 rfl ?_
      refine v_iconst (v := 0) dX0_choose_82 (by decide) ?_
      refine v_iconst (v := 0) dX0_choose_83 (by decide) ?_
      refine v_iconst (v := 0) dX0_choose_84 (by decide) ?_
      refine v_iconst (v := 0) dX0_choose_85 (by decide) ?_
      obtain ⟨x11, s12, hcs12, hf⟩ := bd_of hf
      have hts12 := c_X0_pick (l := l) (D := D) (cy := cy) (ka := ka) 20 hcs12
      refine v_callS (As := [va_rf (some l0), .int (0 : Int32), .int (0 : Int32), .int (0 : Int32), .int (0 : Int32)]) (rest := []) hts12 yb_X0_pick kw_973 kw_974 rfl ⟨Nat.le_of_ble_eq_true rfl, Nat.le_of_ble_eq_true rfl⟩ rfl (cat_len (Nat.le_of_ble_eq_true rfl)) dX0_choose_86 ?_
      have hk_l0 := tk_ hts12.1 hk_l0
      show v_ l D cy ka cX0_choose RX0 2 none "choose" 21 546 (qf_ D cy σ0 z none) σ0 z _ 89 [(0, va_rf (some l0)), (1, .int l1)] []
      exact v_vret hf dX0_choose_89
    · refine v_aload_n (x := (some l0)) dX0_choose_21 rfl 0 rfl ?_
      obtain ⟨hk_l0, hf⟩ := gt_of hf
      refine v_getr cb_1 hk_l0 4 104 rfl (by decide) rfl (lk_n kw_202 rfl) hf dX0_choose_22 (fun r13 hf => ?_)
      refine v_iload_n (x := l1) dX0_choose_25 rfl 1 rfl ?_
      refine v_aload_n (x := (some l0)) dX0_choose_26 rfl 0 rfl ?_
      refine v_getr cb_1 hk_l0 4 104 rfl (by decide) rfl (lk_n kw_202 rfl) hf dX0_choose_27 (fun r14 hf => ?_)
      refine v_iload_n (x := l1) dX0_choose_30 rfl 1 rfl ?_
      refine v_iconst (v := 1) dX0_choose_31 (by decide) ?_
      refine v_iadd dX0_choose_32 ?_
      obtain ⟨a15, rfl, hf⟩ := nn_of hf
      obtain ⟨hk_a15, hf⟩ := gt_of hf
      refine v_iald hk_a15 hf dX0_choose_33 (fun x16 hf => ?_)
      refine v_aload_n (x := (some l0)) dX0_choose_34 rfl 0 rfl ?_
      refine v_getr cb_1 hk_l0 3 103 rfl (by decide) rfl (lk_n kw_201 rfl) hf dX0_choose_35 (fun r17 hf => ?_)
      refine v_iload_n (x := l1) dX0_choose_38 rfl 1 rfl ?_
      obtain ⟨a18, rfl, hf⟩ := nn_of hf
      obtain ⟨hk_a18, hf⟩ := gt_of hf
      refine v_zald hk_a18 hf dX0_choose_39 (fun x19 hf => ?_)
      refine v_if_eq (tgt := 52) hf dX0_choose_40 (by decide) (fun hq hf => ?_) (fun hq hf => ?_)
      · refine v_iconst (v := 0) dX0_choose_52 (by decide) ?_
        refine v_sub [0, 1] (L2 := [(0, va_rf (some l0)), (1, .int l1)]) rfl ?_
        exact t_X0_choose_b53 hrec_17 hf
      · refine v_aload_n (x := (some l0)) dX0_choose_43 rfl 0 rfl ?_
        refine v_getr cb_1 hk_l0 0 100 rfl (by decide) rfl (lk_n kw_198 rfl) hf dX0_choose_44 (fun r23 hf => ?_)
        refine v_iload_n (x := l1) dX0_choose_47 rfl 1 rfl ?_
        obtain ⟨a24, rfl, hf⟩ := nn_of hf
        obtain ⟨hk_a24, hf⟩ := gt_of hf
        refine v_iald hk_a24 hf dX0_choose_48 (fun x25 hf => ?_)
        refine v_goto (tgt := 53) dX0_choose_49 (by decide) ?_
        refine v_sub [0, 1] (L2 := [(0, va_rf (some l0)), (1, .int l1)]) rfl ?_
        exact t_X0_choose_b53 hrec_17 hf
/-- LivesAhead$Chooser.choose()V -/
def f_X0_choose (σ : TH) (p0 : Nat) : Option (Unit × TH) :=
  gt_ (kd_ σ p0 = 2) <| lt_ (fr_ σ 104 p0) fun r1 => lt_ (fi_ σ 105 p0) fun x2 => nn_ r1 fun a3 => gt_ (kd_ σ a3 = 20) <| gt_ (¬ (x2 < 0 ∨ ln_ σ a3 ≤ x2.toNatClampNeg)) <| lt_ (sa_ σ a3 x2.toNatClampNeg (0 : Int32)) fun s4 => lt_ (fi_ s4 105 p0) fun x5 => lt_ (x5 - (1 : Int32)) fun x6 => f_X0_choose_b17 fu_ s4 p0 x6
set_option maxHeartbeats 4000000 in
set_option maxRecDepth 100000 in
theorem c_X0_choose {l : Launch} {D : va_G} {cy : Nat → ClassId} {ka : Nat → Nat} {σ z : TH} {p0 : Nat} {r : Unit} (hf : f_X0_choose σ p0 = some (r, z)) : ct_ l D cy ka yX0_choose 21 546 [va_rf (some p0)] σ none z := by
  unfold f_X0_choose at hf
  refine v_start (cc := cX0_choose) (own := RX0) (maxL := 2) (ret := none) (nm := "choose") (by decide +kernel) kw_972 rfl rfl (by simp [lg_sl, va_rf_cat, cat_i, cat_l]) ?_
  refine v_eqL (L2 := [(0, va_rf (some p0))]) (by simp [lv_args, va_rf_cat, cat_i, cat_l]) ?_
  refine v_aload_n (x := (some p0)) dX0_choose_0 rfl 0 rfl ?_
  obtain ⟨hk_p0, hf⟩ := gt_of hf
  refine v_getr cb_1 hk_p0 4 104 rfl (by decide) rfl (lk_n kw_202 rfl) hf dX0_choose_1 (fun r1 hf => ?_)
  refine v_aload_n (x := (some p0)) dX0_choose_4 rfl 0 rfl ?_
  refine v_geti cb_1 hk_p0 5 105 rfl (by decide) rfl (lk_n kw_203 rfl) hf dX0_choose_5 (fun x2 hf => ?_)
  refine v_iconst (v := 0) dX0_choose_8 (by decide) ?_
  obtain ⟨a3, rfl, hf⟩ := nn_of hf
  obtain ⟨hk_a3, hf⟩ := gt_of hf
  refine v_iast2 hk_a3 hf dX0_choose_9 (fun s4 hts4 hf => ?_)
  have hk_p0 := tk_ hts4 hk_p0
  refine v_aload_n (x := (some p0)) dX0_choose_10 rfl 0 rfl ?_
  refine v_geti cb_1 hk_p0 5 105 rfl (by decide) rfl (lk_n kw_203 rfl) hf dX0_choose_11 (fun x5 hf => ?_)
  refine v_iconst (v := 1) dX0_choose_14 (by decide) ?_
  refine v_isub dX0_choose_15 ?_
  obtain ⟨x6, ex6⟩ : ∃ y : Int32, y = x5 - (1 : Int32) := ⟨_, rfl⟩
  rw [lt_e, ← ex6] at hf
  rw [← ex6]
  refine v_istore_n [(1, .int x6), (0, va_rf (some p0))] dX0_choose_16 rfl (by decide) rfl ?_
  refine v_sub [1, 0] (L2 := [(0, va_rf (some p0)), (1, .int x6)]) rfl ?_
  exact t_X0_choose_b17  _ _ _ _ hf
theorem dX11_chooseParagraphs_0 : decode cX11_chooseParagraphs 0 = .ok (.iload_n 3, 1) := by decide +kernel
theorem dX11_chooseParagraphs_1 : decode cX11_chooseParagraphs 1 = .ok (.ifCond .eq 11, 3) := by decide +kernel
theorem dX11_chooseParagraphs_4 : decode cX11_chooseParagraphs 4 = .ok (.aload_n 0, 1) := by decide +kernel
theorem dX11_chooseParagraphs_5 : decode cX11_chooseParagraphs 5 = .ok (.aload_n 1, 1) := by decide +kernel
theorem dX11_chooseParagraphs_6 : decode cX11_chooseParagraphs 6 = .ok (.invokevirtual 287, 3) := by decide +kernel
theorem dX11_chooseParagraphs_9 : decode cX11_chooseParagraphs 9 = .ok (.goto 4, 3) := by decide +kernel
theorem dX11_chooseParagraphs_12 : decode cX11_chooseParagraphs 12 = .ok (.iconst 0, 1) := by decide +kernel
theorem dX11_chooseParagraphs_13 : decode cX11_chooseParagraphs 13 = .ok (.istore 4, 2) := by decide +kernel
theorem dX11_chooseParagraphs_15 : decode cX11_chooseParagraphs 15 = .ok (.aload_n 0, 1) := by decide +kernel
theorem dX11_chooseParagraphs_16 : decode cX11_chooseParagraphs 16 = .ok (.aload_n 1, 1) := by decide +kernel
theorem dX11_chooseParagraphs_17 : decode cX11_chooseParagraphs 17 = .ok (.invokevirtual 293, 3) := by decide +kernel
theorem dX11_chooseParagraphs_20 : decode cX11_chooseParagraphs 20 = .ok (.aload_n 0, 1) := by decide +kernel
theorem dX11_chooseParagraphs_21 : decode cX11_chooseParagraphs 21 = .ok (.getfield 55, 3) := by decide +kernel
theorem dX11_chooseParagraphs_24 : decode cX11_chooseParagraphs 24 = .ok (.iload_n 2, 1) := by decide +kernel
theorem dX11_chooseParagraphs_25 : decode cX11_chooseParagraphs 25 = .ok (.iconst 1, 1) := by decide +kernel
theorem dX11_chooseParagraphs_26 : decode cX11_chooseParagraphs 26 = .ok (.invokevirtual 437, 3) := by decide +kernel
theorem dX11_chooseParagraphs_29 : decode cX11_chooseParagraphs 29 = .ok (.iconst 0, 1) := by decide +kernel
theorem dX11_chooseParagraphs_30 : decode cX11_chooseParagraphs 30 = .ok (.istore 5, 2) := by decide +kernel
theorem dX11_chooseParagraphs_32 : decode cX11_chooseParagraphs 32 = .ok (.iload 5, 2) := by decide +kernel
theorem dX11_chooseParagraphs_34 : decode cX11_chooseParagraphs 34 = .ok (.aload_n 1, 1) := by decide +kernel
theorem dX11_chooseParagraphs_35 : decode cX11_chooseParagraphs 35 = .ok (.getfield 179, 3) := by decide +kernel
theorem dX11_chooseParagraphs_38 : decode cX11_chooseParagraphs 38 = .ok (.if_icmp .ge 88, 3) := by decide +kernel
theorem dX11_chooseParagraphs_41 : decode cX11_chooseParagraphs 41 = .ok (.iload 5, 2) := by decide +kernel
theorem dX11_chooseParagraphs_43 : decode cX11_chooseParagraphs 43 = .ok (.bipush 14, 2) := by decide +kernel
theorem dX11_chooseParagraphs_45 : decode cX11_chooseParagraphs 45 = .ok (.if_icmp .ge 81, 3) := by decide +kernel
theorem dX11_chooseParagraphs_48 : decode cX11_chooseParagraphs 48 = .ok (.aload_n 1, 1) := by decide +kernel
theorem dX11_chooseParagraphs_49 : decode cX11_chooseParagraphs 49 = .ok (.getfield 258, 3) := by decide +kernel
theorem dX11_chooseParagraphs_52 : decode cX11_chooseParagraphs 52 = .ok (.iload 5, 2) := by decide +kernel
theorem dX11_chooseParagraphs_54 : decode cX11_chooseParagraphs 54 = .ok (.aaload, 1) := by decide +kernel
theorem dX11_chooseParagraphs_55 : decode cX11_chooseParagraphs 55 = .ok (.astore 6, 2) := by decide +kernel
theorem dX11_chooseParagraphs_57 : decode cX11_chooseParagraphs 57 = .ok (.aload 6, 2) := by decide +kernel
theorem dX11_chooseParagraphs_59 : decode cX11_chooseParagraphs 59 = .ok (.ifnull 61, 3) := by decide +kernel
theorem dX11_chooseParagraphs_62 : decode cX11_chooseParagraphs 62 = .ok (.aload_n 0, 1) := by decide +kernel
theorem dX11_chooseParagraphs_63 : decode cX11_chooseParagraphs 63 = .ok (.getfield 48, 3) := by decide +kernel
theorem dX11_chooseParagraphs_66 : decode cX11_chooseParagraphs 66 = .ok (.aload 6, 2) := by decide +kernel
theorem dX11_chooseParagraphs_68 : decode cX11_chooseParagraphs 68 = .ok (.getfield 297, 3) := by decide +kernel
theorem dX11_chooseParagraphs_71 : decode cX11_chooseParagraphs 71 = .ok (.iconst 0, 1) := by decide +kernel
theorem dX11_chooseParagraphs_72 : decode cX11_chooseParagraphs 72 = .ok (.invokevirtual 300, 3) := by decide +kernel
theorem dX11_chooseParagraphs_75 : decode cX11_chooseParagraphs 75 = .ok (.pop, 1) := by decide +kernel
theorem dX11_chooseParagraphs_76 : decode cX11_chooseParagraphs 76 = .ok (.aload_n 0, 1) := by decide +kernel
theorem dX11_chooseParagraphs_77 : decode cX11_chooseParagraphs 77 = .ok (.getfield 55, 3) := by decide +kernel
theorem dX11_chooseParagraphs_80 : decode cX11_chooseParagraphs 80 = .ok (.aload_n 1, 1) := by decide +kernel
theorem dX11_chooseParagraphs_81 : decode cX11_chooseParagraphs 81 = .ok (.getfield 262, 3) := by decide +kernel
theorem dX11_chooseParagraphs_84 : decode cX11_chooseParagraphs 84 = .ok (.iload 5, 2) := by decide +kernel
theorem dX11_chooseParagraphs_86 : decode cX11_chooseParagraphs 86 = .ok (.iaload, 1) := by decide +kernel
theorem dX11_chooseParagraphs_87 : decode cX11_chooseParagraphs 87 = .ok (.aload_n 0, 1) := by decide +kernel
theorem dX11_chooseParagraphs_88 : decode cX11_chooseParagraphs 88 = .ok (.getfield 48, 3) := by decide +kernel
theorem dX11_chooseParagraphs_91 : decode cX11_chooseParagraphs 91 = .ok (.getfield 304, 3) := by decide +kernel
theorem dX11_chooseParagraphs_94 : decode cX11_chooseParagraphs 94 = .ok (.aload_n 1, 1) := by decide +kernel
theorem dX11_chooseParagraphs_95 : decode cX11_chooseParagraphs 95 = .ok (.getfield 265, 3) := by decide +kernel
theorem dX11_chooseParagraphs_98 : decode cX11_chooseParagraphs 98 = .ok (.iload 5, 2) := by decide +kernel
theorem dX11_chooseParagraphs_100 : decode cX11_chooseParagraphs 100 = .ok (.iaload, 1) := by decide +kernel
theorem dX11_chooseParagraphs_101 : decode cX11_chooseParagraphs 101 = .ok (.aload 6, 2) := by decide +kernel
theorem dX11_chooseParagraphs_103 : decode cX11_chooseParagraphs 103 = .ok (.getfield 282, 3) := by decide +kernel
theorem dX11_chooseParagraphs_106 : decode cX11_chooseParagraphs 106 = .ok (.iload 4, 2) := by decide +kernel
theorem dX11_chooseParagraphs_108 : decode cX11_chooseParagraphs 108 = .ok (.iand, 1) := by decide +kernel
theorem dX11_chooseParagraphs_109 : decode cX11_chooseParagraphs 109 = .ok (.ifCond .ne 7, 3) := by decide +kernel
theorem dX11_chooseParagraphs_112 : decode cX11_chooseParagraphs 112 = .ok (.iconst 1, 1) := by decide +kernel
theorem dX11_chooseParagraphs_113 : decode cX11_chooseParagraphs 113 = .ok (.goto 4, 3) := by decide +kernel
theorem dX11_chooseParagraphs_116 : decode cX11_chooseParagraphs 116 = .ok (.iconst 0, 1) := by decide +kernel
theorem dX11_chooseParagraphs_117 : decode cX11_chooseParagraphs 117 = .ok (.invokevirtual 446, 3) := by decide +kernel
theorem dX11_chooseParagraphs_120 : decode cX11_chooseParagraphs 120 = .ok (.iinc 5 1, 3) := by decide +kernel
theorem dX11_chooseParagraphs_123 : decode cX11_chooseParagraphs 123 = .ok (.goto (-91), 3) := by decide +kernel
theorem dX11_chooseParagraphs_126 : decode cX11_chooseParagraphs 126 = .ok (.aload_n 0, 1) := by decide +kernel
theorem dX11_chooseParagraphs_127 : decode cX11_chooseParagraphs 127 = .ok (.getfield 55, 3) := by decide +kernel
theorem dX11_chooseParagraphs_130 : decode cX11_chooseParagraphs 130 = .ok (.invokevirtual 450, 3) := by decide +kernel
theorem dX11_chooseParagraphs_133 : decode cX11_chooseParagraphs 133 = .ok (.return_, 1) := by decide +kernel
def f_X11_chooseParagraphs_b126 (σ : TH) (l0 : Nat) : Option (Unit × TH) :=
  gt_ (kd_ σ l0 = 13) <| lt_ (fr_ σ 1210 l0) fun r9 => nn_ r9 fun a10 => gt_ (kd_ σ a10 = 2) <| bd_ (f_X0_choose σ a10) fun x11 s12 => some ((), s12)
set_option maxHeartbeats 4000000 in
set_option maxRecDepth 100000 in
theorem t_X11_chooseParagraphs_b126 {l : Launch} {D : va_G} {cy : Nat → ClassId} {ka : Nat → Nat} {σ0 z : TH} {r : Unit}  {σ : TH} {l0 : Nat} (hf : f_X11_chooseParagraphs_b126 σ l0 = some (r, z)) : v_ l D cy ka cX11_chooseParagraphs RX11 7 none "chooseParagraphs" 22 567 (qf_ D cy σ0 z none) σ0 z σ 126 [(0, va_rf (some l0))] [] := by
  unfold f_X11_chooseParagraphs_b126 at hf
  refine v_aload_n (x := (some l0)) dX11_chooseParagraphs_126 rfl 0 rfl ?_
  obtain ⟨hk_l0, hf⟩ := gt_of hf
  refine v_getr cb_12 hk_l0 10 1210 rfl (by decide) rfl (lk_n kw_249 rfl) hf dX11_chooseParagraphs_127 (fun r9 hf => ?_)
  obtain ⟨a10, rfl, hf⟩ := nn_of hf
  obtain ⟨hk_a10, hf⟩ := gt_of hf
  obtain ⟨x11, s12, hcs12, hf⟩ := bd_of hf
  have hts12 := c_X0_choose (l := l) (D := D) (cy := cy) (ka := ka) hcs12
  refine v_callV cb_1 hk_a10 (As := []) (rest := []) hts12 yb_X0_choose kw_969 kw_970 kw_971 rfl ⟨Nat.le_of_ble_eq_true rfl, Nat.le_of_ble_eq_true rfl⟩ rfl (cat_len (Nat.le_of_ble_eq_true rfl)) dX11_chooseParagraphs_130 ?_
  have hk_l0 := tk_ hts12.1 hk_l0
  show v_ l D cy ka cX11_chooseParagraphs RX11 7 none "chooseParagraphs" 22 567 (qf_ D cy σ0 z none) σ0 z _ 133 [(0, va_rf (some l0))] []
  exact v_vret hf dX11_chooseParagraphs_133
def f_X11_chooseParagraphs_b120 (rec_32 : TH → Nat → Option Nat → Int32 → Int32 → Option (Unit × TH)) (σ : TH) (l0 : Nat) (l1 : Option Nat) (l4 : Int32) (l5 : Int32) : Option (Unit × TH) :=
  lt_ (l5 + 1) fun x17 => rec_32 σ l0 l1 l4 x17
set_option maxHeartbeats 4000000 in
set_option maxRecDepth 100000 in
theorem t_X11_chooseParagraphs_b120 {l : Launch} {D : va_G} {cy : Nat → ClassId} {ka : Nat → Nat} {σ0 z : TH} {r : Unit} {rec_32 : TH → Nat → Option Nat → Int32 → Int32 → Option (Unit × TH)} (hrec_32 : ∀ (σ : TH) (l0 : Nat) (l1 : Option Nat) (l4 : Int32) (l5 : Int32), rec_32 σ l0 l1 l4 l5 = some (r, z) → v_ l D cy ka cX11_chooseParagraphs RX11 7 none "chooseParagraphs" 22 567 (qf_ D cy σ0 z none) σ0 z σ 32 [(0, va_rf (some l0)), (1, va_rf l1), (4, .int l4), (5, .int l5)] []) {σ : TH} {l0 : Nat} {l1 : Option Nat} {l4 : Int32} {l5 : Int32} (hf : f_X11_chooseParagraphs_b120 rec_32 σ l0 l1 l4 l5 = some (r, z)) : v_ l D cy ka cX11_chooseParagraphs RX11 7 none "chooseParagraphs" 22 567 (qf_ D cy σ0 z none) σ0 z σ 120 [(0, va_rf (some l0)), (1, va_rf l1), (4, .int l4), (5, .int l5)] [] := by
  unfold f_X11_chooseParagraphs_b120 at hf
  obtain ⟨x17, ex17⟩ : ∃ y : Int32, y = l5 + 1 := ⟨_, rfl⟩
  rw [lt_e, ← ex17] at hf
  refine v_iinc (v := x17) [(5, .int x17), (0, va_rf (some l0)), (1, va_rf l1), (4, .int l4)] dX11_chooseParagraphs_120 3 rfl (by rw [ex17]; rfl) (by decide) rfl ?_
  refine v_goto (tgt := 32) dX11_chooseParagraphs_123 (by decide) ?_
  refine v_sub [1, 2, 3, 0] (L2 := [(0, va_rf (some l0)), (1, va_rf l1), (4, .int l4), (5, .int x17)]) rfl ?_
  exact hrec_32 _ _ _ _ _ hf
def f_X11_chooseParagraphs_b117 (rec_32 : TH → Nat → Option Nat → Int32 → Int32 → Option (Unit × TH)) (σ : TH) (l0 : Nat) (l1 : Option Nat) (l4 : Int32) (l5 : Int32) (t0 : Int32) (t1 : Int32) (t2 : Int32) (t3 : Int32) (t4 : Option Nat) : Option (Unit × TH) :=
  nn_ t4 fun a34 => gt_ (kd_ σ a34 = 2) <| bd_ (f_X0_offer σ a34 t3 t2 t1 t0) fun x35 s36 => f_X11_chooseParagraphs_b120 rec_32 s36 l0 l1 l4 l5
set_option maxHeartbeats 4000000 in
set_option maxRecDepth 100000 in
theorem t_X11_chooseParagraphs_b117 {l : Launch} {D : va_G} {cy : Nat → ClassId} {ka : Nat → Nat} {σ0 z : TH} {r : Unit} {rec_32 : TH → Nat → Option Nat → Int32 → Int32 → Option (Unit × TH)} (hrec_32 : ∀ (σ : TH) (l0 : Nat) (l1 : Option Nat) (l4 : Int32) (l5 : Int32), rec_32 σ l0 l1 l4 l5 = some (r, z) → v_ l D cy ka cX11_chooseParagraphs RX11 7 none "chooseParagraphs" 22 567 (qf_ D cy σ0 z none) σ0 z σ 32 [(0, va_rf (some l0)), (1, va_rf l1), (4, .int l4), (5, .int l5)] []) {σ : TH} {l0 : Nat} {l1 : Option Nat} {l4 : Int32} {l5 : Int32} {t0 : Int32} {t1 : Int32} {t2 : Int32} {t3 : Int32} {t4 : Option Nat} (hf : f_X11_chooseParagraphs_b117 rec_32 σ l0 l1 l4 l5 t0 t1 t2 t3 t4 = some (r, z)) : v_ l D cy ka cX11_chooseParagraphs RX11 7 none "chooseParagraphs" 22 567 (qf_ D cy σ0 z none) σ0 z σ 117 [(0, va_rf (some l0)), (1, va_rf l1), (4, .int l4), (5, .int l5)] [.int t0, .int t1, .int t2, .int t3, va_rf t4] := by
  unfold f_X11_chooseParagraphs_b117 at hf
  obtain ⟨a34, rfl, hf⟩ := nn_of hf
  obtain ⟨hk_a34, hf⟩ := gt_of hf
  obtain ⟨x35, s36, hcs36, hf⟩ := bd_of hf
  have hts36 := c_X0_offer (l := l) (D := D) (cy := cy) (ka := ka) hcs36
  refine v_callV cb_1 hk_a34 (As := [.int t3, .int t2, .int t1, .int t0]) (rest := []) hts36 yb_X0_offer kw_965 kw_966 kw_967 rfl ⟨Nat.le_of_ble_eq_true rfl, Nat.le_of_ble_eq_true rfl⟩ rfl (cat_len (Nat.le_of_ble_eq_true rfl)) dX11_chooseParagraphs_117 ?_
  show v_ l D cy ka cX11_chooseParagraphs RX11 7 none "chooseParagraphs" 22 567 (qf_ D cy σ0 z none) σ0 z _ 120 [(0, va_rf (some l0)), (1, va_rf l1), (4, .int l4), (5, .int l5)] []
  refine v_sub [0, 1, 2, 3] (L2 := [(0, va_rf (some l0)), (1, va_rf l1), (4, .int l4), (5, .int l5)]) rfl ?_
  exact t_X11_chooseParagraphs_b120 hrec_32 hf
def f_X11_chooseParagraphs_b32 : Nat → TH → Nat → Option Nat → Int32 → Int32 → Option (Unit × TH)
  | 0, _, _, _, _, _ => none
  | n + 1, σ, l0, l1, l4, l5 => nn_ l1 fun a7 => gt_ (kd_ σ a7 = 4) <| lt_ (fi_ σ 313 a7) fun x8 => if x8 ≤ l5 then (f_X11_chooseParagraphs_b126 σ l0) else (if (14 : Int32) ≤ l5 then (f_X11_chooseParagraphs_b126 σ l0) else (lt_ (fr_ σ 310 a7) fun r13 => nn_ r13 fun a14 => gt_ (kd_ σ a14 = 26) <| gt_ (¬ (l5 < 0 ∨ ln_ σ a14 ≤ l5.toNatClampNeg)) <| lt_ (ar_ σ a14 l5.toNatClampNeg) fun r15 => oc_ r15 (f_X11_chooseParagraphs_b120 (f_X11_chooseParagraphs_b32 n) σ l0 (some a7) l4 l5) (fun a16 => gt_ (kd_ σ l0 = 13) <| lt_ (fr_ σ 1209 l0) fun r18 => gt_ (kd_ σ a16 = 11) <| lt_ (fr_ σ 1000 a16) fun r19 => nn_ r18 fun a20 => gt_ (kd_ σ a20 = 6) <| bd_ (f_X4_run σ a20 r19 (0 : Int32)) fun x21 s22 => lt_ (fr_ s22 1210 l0) fun r23 => lt_ (fr_ s22 311 a7) fun r24 => nn_ r24 fun a25 => gt_ (kd_ s22 a25 = 20) <| gt_ (¬ (l5 < 0 ∨ ln_ s22 a25 ≤ l5.toNatClampNeg)) <| lt_ (ai_ s22 a25 l5.toNatClampNeg) fun x26 => lt_ (fr_ s22 1209 l0) fun r27 => nn_ r27 fun a28 => gt_ (kd_ s22 a28 = 6) <| lt_ (fi_ s22 505 a28) fun x29 => lt_ (fr_ s22 312 a7) fun r30 => nn_ r30 fun a31 => gt_ (kd_ s22 a31 = 20) <| gt_ (¬ (l5 < 0 ∨ ln_ s22 a31 ≤ l5.toNatClampNeg)) <| lt_ (ai_ s22 a31 l5.toNatClampNeg) fun x32 => lt_ (fi_ s22 1001 a16) fun x33 => if (x33 &&& l4) = 0 then (f_X11_chooseParagraphs_b117 (f_X11_chooseParagraphs_b32 n) s22 l0 (some a7) l4 l5 (1 : Int32) x32 x29 x26 r23) else (f_X11_chooseParagraphs_b117 (f_X11_chooseParagraphs_b32 n) s22 l0 (some a7) l4 l5 (0 : Int32) x32 x29 x26 r23))))
set_option maxHeartbeats 4000000 in
set_option maxRecDepth 100000 in
theorem t_X11_chooseParagraphs_b32 {l : Launch} {D : va_G} {cy : Nat → ClassId} {ka : Nat → Nat} {σ0 z : TH} {r : Unit}  : ∀ (n : Nat) (σ : TH) (l0 : Nat) (l1 : Option Nat) (l4 : Int32) (l5 : Int32), f_X11_chooseParagraphs_b32 n σ l0 l1 l4 l5 = some (r, z) → v_ l D cy ka cX11_chooseParagraphs RX11 7 none "chooseParagraphs" 22 567 (qf_ D cy σ0 z none) σ0 z σ 32 [(0, va_rf (some l0)), (1, va_rf l1), (4, .int l4), (5, .int l5)] [] := by
  intro n
  induction n with
  | zero => intro σ l0 l1 l4 l5 hf; unfold f_X11_chooseParagraphs_b32 at hf; cases hf
  | succ n ih =>
    intro σ l0 l1 l4 l5 hf
    unfold f_X11_chooseParagraphs_b32 at hf
    have hrec_32 := ih
    refine v_iload (x := l5) dX11_chooseParagraphs_32 3 rfl ?_
    refine v_aload_n (x := l1) dX11_chooseParagraphs_34 rfl 1 rfl ?_
    obtain ⟨a7, rfl, hf⟩ := nn_of hf
    obtain ⟨hk_a7, hf⟩ := gt_of hf
    refine v_geti cb_3 hk_a7 13 313 rfl (by decide) rfl (lk_n kw_492 rfl) hf dX11_chooseParagraphs_35 (fun x8 hf => ?_)
    refine v_icmp_ge (tgt := 126) hf dX11_chooseParagraphs_38 (by decide) (fun hq hf => ?_) (fun hq hf => ?_)
    · refine v_sub [0] (L2 := [(0, va_rf (some l0))]) rfl ?_
      exact t_X11_chooseParagraphs_b126  hf
    · refine v_iload (x := l5) dX11_chooseParagraphs_41 3 rfl ?_
      refine v_bipush (v := 14) dX11_chooseParagraphs_43 (by decide) ?_
      refine v_icmp_ge (tgt := 126) hf dX11_chooseParagraphs_45 (by decide) (fun hq hf => ?_) (fun hq hf => ?_)
      · refine v_sub [0] (L2 := [(0, va_rf (some l0))]) rfl ?_
        exact t_X11_chooseParagraphs_b126  hf
      · refine v_aload_n (x := (some a7)) dX11_chooseParagraphs_48 rfl 1 rfl ?_
        refine v_getr cb_3 hk_a7 10 310 rfl (by decide) rfl (lk_n kw_486 rfl) hf dX11_chooseParagraphs_49 (fun r13 hf => ?_)
        refine v_iload (x := l5) dX11_chooseParagraphs_52 3 rfl ?_
        obtain ⟨a14, rfl, hf⟩ := nn_of hf
        obtain ⟨hk_a14, hf⟩ := gt_of hf
        refine v_aald 25 6 RX9 hk_a14 (by decide) rfl hf dX11_chooseParagraphs_54 (fun r15 hf => ?_)
        refine v_astore [(6, va_rf r15), (0, va_rf (some l0)), (1, va_rf (some a7)), (4, .int l4), (5, .int l5)] dX11_chooseParagraphs_55 (by decide) rfl ?_
        refine v_aload (x := r15) dX11_chooseParagraphs_57 0 rfl ?_
        refine v_ifnull2 (tgt := 120) hf dX11_chooseParagraphs_59 (by decide) (fun e9 hf9 => ?_) (fun a16 e9 hf9 => ?_)
        · subst e9
          replace hf := hf9
          clear hf9
          refine v_sub [1, 2, 3, 4] (L2 := [(0, va_rf (some l0)), (1, va_rf (some a7)), (4, .int l4), (5, .int l5)]) rfl ?_
          exact t_X11_chooseParagraphs_b120 hrec_32 hf
        · subst e9
          replace hf := hf9
          clear hf9
          refine v_aload_n (x := (some l0)) dX11_chooseParagraphs_62 rfl 1 rfl ?_
          obtain ⟨hk_l0, hf⟩ := gt_of hf
          refine v_getr cb_12 hk_l0 9 1209 rfl (by decide) rfl (lk_n kw_248 rfl) hf dX11_chooseParagraphs_63 (fun r18 hf => ?_)
          refine v_aload (x := (some a16)) dX11_chooseParagraphs_66 0 rfl ?_
          obtain ⟨hk_a16, hf⟩ := gt_of hf
          refine v_getr cb_10 hk_a16 0 1000 rfl (by decide) rfl (lk_n kw_868 rfl) hf dX11_chooseParagraphs_68 (fun r19 hf => ?_)
          refine v_iconst (v := 0) dX11_chooseParagraphs_71 (by decide) ?_
          obtain ⟨a20, rfl, hf⟩ := nn_of hf
          obtain ⟨hk_a20, hf⟩ := gt_of hf
          obtain ⟨x21, s22, hcs22, hf⟩ := bd_of hf
          have hts22 := c_X4_run (l := l) (D := D) (cy := cy) (ka := ka) hcs22
          refine v_callV cb_5 hk_a20 (As := [va_rf r19, .int (0 : Int32)]) (rest := []) hts22 yb_X4_run kw_907 kw_908 kw_909 rfl ⟨Nat.le_of_ble_eq_true rfl, Nat.le_of_ble_eq_true rfl⟩ rfl (cat_len (Nat.le_of_ble_eq_true rfl)) dX11_chooseParagraphs_72 ?_
          have hk_a7 := tk_ hts22.1 hk_a7
          have hk_l0 := tk_ hts22.1 hk_l0
          have hk_a16 := tk_ hts22.1 hk_a16
          show v_ l D cy ka cX11_chooseParagraphs RX11 7 none "chooseParagraphs" 22 567 (qf_ D cy σ0 z none) σ0 z _ 75 [(6, va_rf (some a16)), (0, va_rf (some l0)), (1, va_rf (some a7)), (4, .int l4), (5, .int l5)] [.int x21]
          refine v_pop dX11_chooseParagraphs_75 rfl ?_
          refine v_aload_n (x := (some l0)) dX11_chooseParagraphs_76 rfl 1 rfl ?_
          refine v_getr cb_12 hk_l0 10 1210 rfl (by decide) rfl (lk_n kw_249 rfl) hf dX11_chooseParagraphs_77 (fun r23 hf => ?_)
          refine v_aload_n (x := (some a7)) dX11_chooseParagraphs_80 rfl 2 rfl ?_
          refine v_getr cb_3 hk_a7 11 311 rfl (by decide) rfl (lk_n kw_488 rfl) hf dX11_chooseParagraphs_81 (fun r24 hf => ?_)
          refine v_iload (x := l5) dX11_chooseParagraphs_84 4 rfl ?_
          obtain ⟨a25, rfl, hf⟩ := nn_of hf
          obtain ⟨hk_a25, hf⟩ := gt_of hf
          refine v_iald hk_a25 hf dX11_chooseParagraphs_86 (fun x26 hf => ?_)
          refine v_aload_n (x := (some l0)) dX11_chooseParagraphs_87 rfl 1 rfl ?_
          refine v_getr cb_12 hk_l0 9 1209 rfl (by decide) rfl (lk_n kw_248 rfl) hf dX11_chooseParagraphs_88 (fun r27 hf => ?_)
          obtain ⟨a28, rfl, hf⟩ := nn_of hf
          obtain ⟨hk_a28, hf⟩ := gt_of hf
          refine v_geti cb_5 hk_a28 5 505 rfl (by decide) rfl (lk_n kw_154 rfl) hf dX11_chooseParagraphs_91 (fun x29 hf => ?_)
          refine v_aload_n (x := (some a7)) dX11_chooseParagraphs_94 rfl 2 rfl ?_
          refine v_getr cb_3 hk_a7 12 312 rfl (by decide) rfl (lk_n kw_490 rfl) hf dX11_chooseParagraphs_95 (fun r30 hf => ?_)
          refine v_iload (x := l5) dX11_chooseParagraphs_98 4 rfl ?_
          obtain ⟨a31, rfl, hf⟩ := nn_of hf
          obtain ⟨hk_a31, hf⟩ := gt_of hf
          refine v_iald hk_a31 hf dX11_chooseParagraphs_100 (fun x32 hf => ?_)
          refine v_aload (x := (some a16)) dX11_chooseParagraphs_101 0 rfl ?_
          refine v_geti cb_10 hk_a16 1 1001 rfl (by decide) rfl (lk_n kw_870 rfl) hf dX11_chooseParagraphs_103 (fun x33 hf => ?_)
          refine v_iload (x := l4) dX11_chooseParagraphs_106 3 rfl ?_
          refine v_iand dX11_chooseParagraphs_108 ?_
          refine v_if_ne (tgt := 116) hf dX11_chooseParagraphs_109 (by decide) (fun hq hf => ?_) (fun hq hf => ?_)
          · refine v_iconst (v := 1) dX11_chooseParagraphs_112 (by decide) ?_
            refine v_goto (tgt := 117) dX11_chooseParagraphs_113 (by decide) ?_
            refine v_sub [1, 2, 3, 4] (L2 := [(0, va_rf (some l0)), (1, va_rf (some a7)), (4, .int l4), (5, .int l5)]) rfl ?_
            exact t_X11_chooseParagraphs_b117 hrec_32 hf
          · refine v_iconst (v := 0) dX11_chooseParagraphs_116 (by decide) ?_
            refine v_sub [1, 2, 3, 4] (L2 := [(0, va_rf (some l0)), (1, va_rf (some a7)), (4, .int l4), (5, .int l5)]) rfl ?_
            exact t_X11_chooseParagraphs_b117 hrec_32 hf
def f_X11_chooseParagraphs_b13 (σ : TH) (l0 : Nat) (l1 : Option Nat) (l2 : Int32) (t0 : Int32) : Option (Unit × TH) :=
  gt_ (kd_ σ l0 = 13) <| bd_ (f_X11_fillPrinter σ l0 l1) fun x1 s2 => lt_ (fr_ s2 1210 l0) fun r3 => nn_ r3 fun a4 => gt_ (kd_ s2 a4 = 2) <| bd_ (f_X0_begin s2 a4 l2 (1 : Int32)) fun x5 s6 => f_X11_chooseParagraphs_b32 fu_ s6 l0 l1 t0 (0 : Int32)
set_option maxHeartbeats 4000000 in
set_option maxRecDepth 100000 in
theorem t_X11_chooseParagraphs_b13 {l : Launch} {D : va_G} {cy : Nat → ClassId} {ka : Nat → Nat} {σ0 z : TH} {r : Unit}  {σ : TH} {l0 : Nat} {l1 : Option Nat} {l2 : Int32} {t0 : Int32} (hf : f_X11_chooseParagraphs_b13 σ l0 l1 l2 t0 = some (r, z)) : v_ l D cy ka cX11_chooseParagraphs RX11 7 none "chooseParagraphs" 22 567 (qf_ D cy σ0 z none) σ0 z σ 13 [(0, va_rf (some l0)), (1, va_rf l1), (2, .int l2)] [.int t0] := by
  unfold f_X11_chooseParagraphs_b13 at hf
  refine v_istore [(4, .int t0), (0, va_rf (some l0)), (1, va_rf l1), (2, .int l2)] dX11_chooseParagraphs_13 (by decide) rfl ?_
  refine v_aload_n (x := (some l0)) dX11_chooseParagraphs_15 rfl 1 rfl ?_
  refine v_aload_n (x := l1) dX11_chooseParagraphs_16 rfl 2 rfl ?_
  obtain ⟨hk_l0, hf⟩ := gt_of hf
  obtain ⟨x1, s2, hcs2, hf⟩ := bd_of hf
  have hts2 := c_X11_fillPrinter (l := l) (D := D) (cy := cy) (ka := ka) hcs2
  refine v_callV cb_12 hk_l0 (As := [va_rf l1]) (rest := []) hts2 yb_X11_fillPrinter kw_903 kw_905 kp_47 rfl ⟨Nat.le_of_ble_eq_true rfl, Nat.le_of_ble_eq_true rfl⟩ rfl (cat_len (Nat.le_of_ble_eq_true rfl)) dX11_chooseParagraphs_17 ?_
  have hk_l0 := tk_ hts2.1 hk_l0
  show v_ l D cy ka cX11_chooseParagraphs RX11 7 none "chooseParagraphs" 22 567 (qf_ D cy σ0 z none) σ0 z _ 20 [(4, .int t0), (0, va_rf (some l0)), (1, va_rf l1), (2, .int l2)] []
  refine v_aload_n (x := (some l0)) dX11_chooseParagraphs_20 rfl 1 rfl ?_
  refine v_getr cb_12 hk_l0 10 1210 rfl (by decide) rfl (lk_n kw_249 rfl) hf dX11_chooseParagraphs_21 (fun r3 hf => ?_)
  refine v_iload_n (x := l2) dX11_chooseParagraphs_24 rfl 3 rfl ?_
  refine v_iconst (v := 1) dX11_chooseParagraphs_25 (by decide) ?_
  obtain ⟨a4, rfl, hf⟩ := nn_of hf
  obtain ⟨hk_a4, hf⟩ := gt_of hf
  obtain ⟨x5, s6, hcs6, hf⟩ := bd_of hf
  have hts6 := c_X0_begin (l := l) (D := D) (cy := cy) (ka := ka) hcs6
  refine v_callV cb_1 hk_a4 (As := [.int l2, .int (1 : Int32)]) (rest := []) hts6 yb_X0_begin kw_961 kw_962 kw_963 rfl ⟨Nat.le_of_ble_eq_true rfl, Nat.le_of_ble_eq_true rfl⟩ rfl (cat_len (Nat.le_of_ble_eq_true rfl)) dX11_chooseParagraphs_26 ?_
  have hk_l0 := tk_ hts6.1 hk_l0
  show v_ l D cy ka cX11_chooseParagraphs RX11 7 none "chooseParagraphs" 22 567 (qf_ D cy σ0 z none) σ0 z _ 29 [(4, .int t0), (0, va_rf (some l0)), (1, va_rf l1), (2, .int l2)] []
  refine v_iconst (v := 0) dX11_chooseParagraphs_29 (by decide) ?_
  refine v_istore [(5, .int (0 : Int32)), (4, .int t0), (0, va_rf (some l0)), (1, va_rf l1), (2, .int l2)] dX11_chooseParagraphs_30 (by decide) rfl ?_
  refine v_sub [2, 3, 1, 0] (L2 := [(0, va_rf (some l0)), (1, va_rf l1), (4, .int t0), (5, .int (0 : Int32))]) rfl ?_
  exact t_X11_chooseParagraphs_b32  _ _ _ _ _ _ hf
/-- LivesAhead.chooseParagraphs(LLivesAhead$Person;IZ)V -/
def f_X11_chooseParagraphs (σ : TH) (p0 : Nat) (p1 : Option Nat) (p2 : Int32) (p3 : Int32) : Option (Unit × TH) :=
  if p3 = 0 then (f_X11_chooseParagraphs_b13 σ p0 p1 p2 (0 : Int32)) else (gt_ (kd_ σ p0 = 13) <| bd_ (f_X11_unsureKinds σ p0 p1) fun x37 s38 => f_X11_chooseParagraphs_b13 s38 p0 p1 p2 x37)
set_option maxHeartbeats 4000000 in
set_option maxRecDepth 100000 in
theorem c_X11_chooseParagraphs {l : Launch} {D : va_G} {cy : Nat → ClassId} {ka : Nat → Nat} {σ z : TH} {p0 : Nat} {p1 : Option Nat} {p2 : Int32} {p3 : Int32} {r : Unit} (hf : f_X11_chooseParagraphs σ p0 p1 p2 p3 = some (r, z)) : ct_ l D cy ka yX11_chooseParagraphs 22 567 [va_rf (some p0), va_rf p1, .int p2, .int p3] σ none z := by
  unfold f_X11_chooseParagraphs at hf
  refine v_start (cc := cX11_chooseParagraphs) (own := RX11) (maxL := 7) (ret := none) (nm := "chooseParagraphs") (by decide +kernel) kw_960 rfl rfl (by simp [lg_sl, va_rf_cat, cat_i, cat_l]) ?_
  refine v_eqL (L2 := [(0, va_rf (some p0)), (1, va_rf p1), (2, .int p2), (3, .int p3)]) (by simp [lv_args, va_rf_cat, cat_i, cat_l]) ?_
  refine v_iload_n (x := p3) dX11_chooseParagraphs_0 rfl 3 rfl ?_
  refine v_if_eq (tgt := 12) hf dX11_chooseParagraphs_1 (by decide) (fun hq hf => ?_) (fun hq hf => ?_)
  · refine v_iconst (v := 0) dX11_chooseParagraphs_12 (by decide) ?_
    refine v_sub [0, 1, 2] (L2 := [(0, va_rf (some p0)), (1, va_rf p1), (2, .int p2)]) rfl ?_
    exact t_X11_chooseParagraphs_b13  hf
  · refine v_aload_n (x := (some p0)) dX11_chooseParagraphs_4 rfl 0 rfl ?_
    refine v_aload_n (x := p1) dX11_chooseParagraphs_5 rfl 1 rfl ?_
    obtain ⟨hk_p0, hf⟩ := gt_of hf
    obtain ⟨x37, s38, hcs38, hf⟩ := bd_of hf
    have hts38 := c_X11_unsureKinds (l := l) (D := D) (cy := cy) (ka := ka) hcs38
    refine v_callV cb_12 hk_p0 (As := [va_rf p1]) (rest := []) hts38 yb_X11_unsureKinds kw_945 kw_947 kp_55 rfl ⟨Nat.le_of_ble_eq_true rfl, Nat.le_of_ble_eq_true rfl⟩ rfl (cat_len (Nat.le_of_ble_eq_true rfl)) dX11_chooseParagraphs_6 ?_
    have hk_p0 := tk_ hts38.1 hk_p0
    show v_ l D cy ka cX11_chooseParagraphs RX11 7 none "chooseParagraphs" 22 567 (qf_ D cy σ z none) σ z _ 9 [(0, va_rf (some p0)), (1, va_rf p1), (2, .int p2), (3, .int p3)] [.int x37]
    refine v_goto (tgt := 13) dX11_chooseParagraphs_9 (by decide) ?_
    refine v_sub [0, 1, 2] (L2 := [(0, va_rf (some p0)), (1, va_rf p1), (2, .int p2)]) rfl ?_
    exact t_X11_chooseParagraphs_b13  hf
theorem dX11_cut_0 : decode cX11_cut 0 = .ok (.aload_n 0, 1) := by decide +kernel
theorem dX11_cut_1 : decode cX11_cut 1 = .ok (.iload_n 1, 1) := by decide +kernel
theorem dX11_cut_2 : decode cX11_cut 2 = .ok (.invokevirtual 149, 3) := by decide +kernel
theorem dX11_cut_5 : decode cX11_cut 5 = .ok (.astore 4, 2) := by decide +kernel
theorem dX11_cut_7 : decode cX11_cut 7 = .ok (.aload 4, 2) := by decide +kernel
theorem dX11_cut_9 : decode cX11_cut 9 = .ok (.ifnonnull 9, 3) := by decide +kernel
theorem dX11_cut_12 : decode cX11_cut 12 = .ok (.aload_n 0, 1) := by decide +kernel
theorem dX11_cut_13 : decode cX11_cut 13 = .ok (.iconst 1, 1) := by decide +kernel
theorem dX11_cut_14 : decode cX11_cut 14 = .ok (.invokevirtual 97, 3) := by decide +kernel
theorem dX11_cut_17 : decode cX11_cut 17 = .ok (.ireturn, 1) := by decide +kernel
theorem dX11_cut_18 : decode cX11_cut 18 = .ok (.iload_n 2, 1) := by decide +kernel
theorem dX11_cut_19 : decode cX11_cut 19 = .ok (.iconst 0, 1) := by decide +kernel
theorem dX11_cut_20 : decode cX11_cut 20 = .ok (.sipush 4000, 3) := by decide +kernel
theorem dX11_cut_23 : decode cX11_cut 23 = .ok (.invokestatic 93, 3) := by decide +kernel
theorem dX11_cut_26 : decode cX11_cut 26 = .ok (.ifCond .ne 9, 3) := by decide +kernel
theorem dX11_cut_29 : decode cX11_cut 29 = .ok (.aload_n 0, 1) := by decide +kernel
theorem dX11_cut_30 : decode cX11_cut 30 = .ok (.iconst 2, 1) := by decide +kernel
theorem dX11_cut_31 : decode cX11_cut 31 = .ok (.invokevirtual 97, 3) := by decide +kernel
theorem dX11_cut_34 : decode cX11_cut 34 = .ok (.ireturn, 1) := by decide +kernel
theorem dX11_cut_35 : decode cX11_cut 35 = .ok (.aload_n 0, 1) := by decide +kernel
theorem dX11_cut_36 : decode cX11_cut 36 = .ok (.aload 4, 2) := by decide +kernel
theorem dX11_cut_38 : decode cX11_cut 38 = .ok (.iload_n 2, 1) := by decide +kernel
theorem dX11_cut_39 : decode cX11_cut 39 = .ok (.iload_n 3, 1) := by decide +kernel
theorem dX11_cut_40 : decode cX11_cut 40 = .ok (.invokevirtual 314, 3) := by decide +kernel
theorem dX11_cut_43 : decode cX11_cut 43 = .ok (.aload_n 0, 1) := by decide +kernel
theorem dX11_cut_44 : decode cX11_cut 44 = .ok (.aload_n 0, 1) := by decide +kernel
theorem dX11_cut_45 : decode cX11_cut 45 = .ok (.getfield 55, 3) := by decide +kernel
theorem dX11_cut_48 : decode cX11_cut 48 = .ok (.getfield 318, 3) := by decide +kernel
theorem dX11_cut_51 : decode cX11_cut 51 = .ok (.putfield 75, 3) := by decide +kernel
theorem dX11_cut_54 : decode cX11_cut 54 = .ok (.aload_n 0, 1) := by decide +kernel
theorem dX11_cut_55 : decode cX11_cut 55 = .ok (.aload_n 0, 1) := by decide +kernel
theorem dX11_cut_56 : decode cX11_cut 56 = .ok (.getfield 55, 3) := by decide +kernel
theorem dX11_cut_59 : decode cX11_cut 59 = .ok (.getfield 321, 3) := by decide +kernel
theorem dX11_cut_62 : decode cX11_cut 62 = .ok (.putfield 78, 3) := by decide +kernel
theorem dX11_cut_65 : decode cX11_cut 65 = .ok (.aload_n 0, 1) := by decide +kernel
theorem dX11_cut_66 : decode cX11_cut 66 = .ok (.aload_n 0, 1) := by decide +kernel
theorem dX11_cut_67 : decode cX11_cut 67 = .ok (.getfield 55, 3) := by decide +kernel
theorem dX11_cut_70 : decode cX11_cut 70 = .ok (.getfield 324, 3) := by decide +kernel
theorem dX11_cut_73 : decode cX11_cut 73 = .ok (.invokevirtual 114, 3) := by decide +kernel
theorem dX11_cut_76 : decode cX11_cut 76 = .ok (.ireturn, 1) := by decide +kernel
/-- LivesAhead.cut(IIZ)I -/
def f_X11_cut (σ : TH) (p0 : Nat) (p1 : Int32) (p2 : Int32) (p3 : Int32) : Option (Int32 × TH) :=
  gt_ (kd_ σ p0 = 13) <| bd_ (f_X11_personAt σ p0 p1) fun r1 s2 => oc_ r1 (bd_ (f_X11_refused s2 p0 (1 : Int32)) fun x4 s5 => some (x4, s5)) (fun a3 => bd_ (f_X11_within s2 p2 (0 : Int32) (4000 : Int32)) fun x6 s7 => if x6 = 0 then (bd_ (f_X11_refused s7 p0 (2 : Int32)) fun x8 s9 => some (x8, s9)) else (bd_ (f_X11_chooseParagraphs s7 p0 (some a3) p2 p3) fun x10 s11 => lt_ (fr_ s11 1210 p0) fun r12 => nn_ r12 fun a13 => gt_ (kd_ s11 a13 = 2) <| lt_ (fi_ s11 108 a13) fun x14 => lt_ (si_ s11 1216 p0 x14) fun s15 => lt_ (fr_ s15 1210 p0) fun r16 => nn_ r16 fun a17 => gt_ (kd_ s15 a17 = 2) <| lt_ (fi_ s15 110 a17) fun x18 => lt_ (si_ s15 1217 p0 x18) fun s19 => lt_ (fr_ s19 1210 p0) fun r20 => nn_ r20 fun a21 => gt_ (kd_ s19 a21 = 2) <| lt_ (fi_ s19 109 a21) fun x22 => bd_ (f_X11_granted s19 p0 x22) fun x23 s24 => some (x23, s24)))
set_option maxHeartbeats 4000000 in
set_option maxRecDepth 100000 in
theorem c_X11_cut {l : Launch} {D : va_G} {cy : Nat → ClassId} {ka : Nat → Nat} {σ z : TH} {p0 : Nat} {p1 : Int32} {p2 : Int32} {p3 : Int32} {r : Int32} (hf : f_X11_cut σ p0 p1 p2 p3 = some (r, z)) : ct_ l D cy ka yX11_cut 23 593 [va_rf (some p0), .int p1, .int p2, .int p3] σ (some (.int r)) z := by
  unfold f_X11_cut at hf
  refine v_start (cc := cX11_cut) (own := RX11) (maxL := 5) (ret := (some FieldType.int)) (nm := "cut") (by decide +kernel) kw_956 rfl rfl (by simp [lg_sl, va_rf_cat, cat_i, cat_l]) ?_
  refine v_eqL (L2 := [(0, va_rf (some p0)), (1, .int p1), (2, .int p2), (3, .int p3)]) (by simp [lv_args, va_rf_cat, cat_i, cat_l]) ?_
  refine v_aload_n (x := (some p0)) dX11_cut_0 rfl 0 rfl ?_
  refine v_iload_n (x := p1) dX11_cut_1 rfl 1 rfl ?_
  obtain ⟨hk_p0, hf⟩ := gt_of hf
  obtain ⟨r1, s2, hcs2, hf⟩ := bd_of hf
  have hts2 := c_X11_personAt (l := l) (D := D) (cy := cy) (ka := ka) hcs2
  refine v_callV cb_12 hk_p0 (As := [.int p1]) (rest := []) hts2 yb_X11_personAt kw_526 kw_528 kp_11 rfl ⟨Nat.le_of_ble_eq_true rfl, Nat.le_of_ble_eq_true rfl⟩ rfl (cat_len (Nat.le_of_ble_eq_true rfl)) dX11_cut_2 ?_
  have hk_p0 := tk_ hts2.1 hk_p0
  show v_ l D cy ka cX11_cut RX11 5 (some FieldType.int) "cut" 23 593 (qf_ D cy σ z (some (.int r))) σ z _ 5 [(0, va_rf (some p0)), (1, .int p1), (2, .int p2), (3, .int p3)] [va_rf r1]
  refine v_astore [(4, va_rf r1), (0, va_rf (some p0)), (1, .int p1), (2, .int p2), (3, .int p3)] dX11_cut_5 (by decide) rfl ?_
  refine v_aload (x := r1) dX11_cut_7 0 rfl ?_
  refine v_ifnonnull2 (tgt := 18) hf dX11_cut_9 (by decide) (fun e9 hf9 => ?_) (fun a3 e9 hf9 => ?_)
  · subst e9
    replace hf := hf9
    clear hf9
    refine v_aload_n (x := (some p0)) dX11_cut_12 rfl 1 rfl ?_
    refine v_iconst (v := 1) dX11_cut_13 (by decide) ?_
    obtain ⟨x4, s5, hcs5, hf⟩ := bd_of hf
    have hts5 := c_X11_refused (l := l) (D := D) (cy := cy) (ka := ka) hcs5
    refine v_callV cb_12 hk_p0 (As := [.int (1 : Int32)]) (rest := []) hts5 yb_X11_refused kw_307 kw_309 kp_0 rfl ⟨Nat.le_of_ble_eq_true rfl, Nat.le_of_ble_eq_true rfl⟩ rfl (cat_len (Nat.le_of_ble_eq_true rfl)) dX11_cut_14 ?_
    have hk_p0 := tk_ hts5.1 hk_p0
    show v_ l D cy ka cX11_cut RX11 5 (some FieldType.int) "cut" 23 593 (qf_ D cy σ z (some (.int r))) σ z _ 17 [(4, va_rf none), (0, va_rf (some p0)), (1, .int p1), (2, .int p2), (3, .int p3)] [.int x4]
    exact v_iret hf dX11_cut_17
  · subst e9
    replace hf := hf9
    clear hf9
    refine v_iload_n (x := p2) dX11_cut_18 rfl 3 rfl ?_
    refine v_iconst (v := 0) dX11_cut_19 (by decide) ?_
    refine v_sipush (v := 4000) dX11_cut_20 (by decide) ?_
    obtain ⟨x6, s7, hcs7, hf⟩ := bd_of hf
    have hts7 := c_X11_within (l := l) (D := D) (cy := cy) (ka := ka) hcs7
    refine v_callS (As := [.int p2, .int (0 : Int32), .int (4000 : Int32)]) (rest := []) hts7 yb_X11_within kw_304 kw_305 rfl ⟨Nat.le_of_ble_eq_true rfl, Nat.le_of_ble_eq_true rfl⟩ rfl (cat_len (Nat.le_of_ble_eq_true rfl)) dX11_cut_23 ?_
    have hk_p0 := tk_ hts7.1 hk_p0
    show v_ l D cy ka cX11_cut RX11 5 (some FieldType.int) "cut" 23 593 (qf_ D cy σ z (some (.int r))) σ z _ 26 [(4, va_rf (some a3)), (0, va_rf (some p0)), (1, .int p1), (2, .int p2), (3, .int p3)] [.int x6]
    refine v_if_ne (tgt := 35) hf dX11_cut_26 (by decide) (fun hq hf => ?_) (fun hq hf => ?_)
    · refine v_aload_n (x := (some p0)) dX11_cut_29 rfl 1 rfl ?_
      refine v_iconst (v := 2) dX11_cut_30 (by decide) ?_
      obtain ⟨x8, s9, hcs9, hf⟩ := bd_of hf
      have hts9 := c_X11_refused (l := l) (D := D) (cy := cy) (ka := ka) hcs9
      refine v_callV cb_12 hk_p0 (As := [.int (2 : Int32)]) (rest := []) hts9 yb_X11_refused kw_307 kw_309 kp_0 rfl ⟨Nat.le_of_ble_eq_true rfl, Nat.le_of_ble_eq_true rfl⟩ rfl (cat_len (Nat.le_of_ble_eq_true rfl)) dX11_cut_31 ?_
      have hk_p0 := tk_ hts9.1 hk_p0
      show v_ l D cy ka cX11_cut RX11 5 (some FieldType.int) "cut" 23 593 (qf_ D cy σ z (some (.int r))) σ z _ 34 [(4, va_rf (some a3)), (0, va_rf (some p0)), (1, .int p1), (2, .int p2), (3, .int p3)] [.int x8]
      exact v_iret hf dX11_cut_34
    · refine v_aload_n (x := (some p0)) dX11_cut_35 rfl 1 rfl ?_
      refine v_aload (x := (some a3)) dX11_cut_36 0 rfl ?_
      refine v_iload_n (x := p2) dX11_cut_38 rfl 3 rfl ?_
      refine v_iload_n (x := p3) dX11_cut_39 rfl 4 rfl ?_
      obtain ⟨x10, s11, hcs11, hf⟩ := bd_of hf
      have hts11 := c_X11_chooseParagraphs (l := l) (D := D) (cy := cy) (ka := ka) hcs11
      refine v_callV cb_12 hk_p0 (As := [va_rf (some a3), .int p2, .int p3]) (rest := []) hts11 yb_X11_chooseParagraphs kw_957 kw_959 kp_56 rfl ⟨Nat.le_of_ble_eq_true rfl, Nat.le_of_ble_eq_true rfl⟩ rfl (cat_len (Nat.le_of_ble_eq_true rfl)) dX11_cut_40 ?_
      have hk_p0 := tk_ hts11.1 hk_p0
      show v_ l D cy ka cX11_cut RX11 5 (some FieldType.int) "cut" 23 593 (qf_ D cy σ z (some (.int r))) σ z _ 43 [(4, va_rf (some a3)), (0, va_rf (some p0)), (1, .int p1), (2, .int p2), (3, .int p3)] []
      refine v_aload_n (x := (some p0)) dX11_cut_43 rfl 1 rfl ?_
      refine v_aload_n (x := (some p0)) dX11_cut_44 rfl 1 rfl ?_
      refine v_getr cb_12 hk_p0 10 1210 rfl (by decide) rfl (lk_n kw_249 rfl) hf dX11_cut_45 (fun r12 hf => ?_)
      obtain ⟨a13, rfl, hf⟩ := nn_of hf
      obtain ⟨hk_a13, hf⟩ := gt_of hf
      refine v_geti cb_1 hk_a13 8 108 rfl (by decide) rfl (lk_n kw_207 rfl) hf dX11_cut_48 (fun x14 hf => ?_)
      refine v_puti2 cb_12 hk_p0 16 1216 rfl (by decide) rfl (lk_n kw_255 rfl) (Or.inl rfl) rfl rfl hf dX11_cut_51 (fun s15 hts15 hf => ?_)
      have hk_p0 := tk_ hts15 hk_p0
      refine v_aload_n (x := (some p0)) dX11_cut_54 rfl 1 rfl ?_
      refine v_aload_n (x := (some p0)) dX11_cut_55 rfl 1 rfl ?_
      refine v_getr cb_12 hk_p0 10 1210 rfl (by decide) rfl (lk_n kw_249 rfl) hf dX11_cut_56 (fun r16 hf => ?_)
      obtain ⟨a17, rfl, hf⟩ := nn_of hf
      obtain ⟨hk_a17, hf⟩ := gt_of hf
      refine v_geti cb_1 hk_a17 10 110 rfl (by decide) rfl (lk_n kw_211 rfl) hf dX11_cut_59 (fun x18 hf => ?_)
      refine v_puti2 cb_12 hk_p0 17 1217 rfl (by decide) rfl (lk_n kw_256 rfl) (Or.inl rfl) rfl rfl hf dX11_cut_62 (fun s19 hts19 hf => ?_)
      have hk_p0 := tk_ hts19 hk_p0
      refine v_aload_n (x := (some p0)) dX11_cut_65 rfl 1 rfl ?_
      refine v_aload_n (x := (some p0)) dX11_cut_66 rfl 1 rfl ?_
      refine v_getr cb_12 hk_p0 10 1210 rfl (by decide) rfl (lk_n kw_249 rfl) hf dX11_cut_67 (fun r20 hf => ?_)
      obtain ⟨a21, rfl, hf⟩ := nn_of hf
      obtain ⟨hk_a21, hf⟩ := gt_of hf
      refine v_geti cb_1 hk_a21 9 109 rfl (by decide) rfl (lk_n kw_209 rfl) hf dX11_cut_70 (fun x22 hf => ?_)
      obtain ⟨x23, s24, hcs24, hf⟩ := bd_of hf
      have hts24 := c_X11_granted (l := l) (D := D) (cy := cy) (ka := ka) hcs24
      refine v_callV cb_12 hk_p0 (As := [.int x22]) (rest := []) hts24 yb_X11_granted kw_395 kw_397 kp_4 rfl ⟨Nat.le_of_ble_eq_true rfl, Nat.le_of_ble_eq_true rfl⟩ rfl (cat_len (Nat.le_of_ble_eq_true rfl)) dX11_cut_73 ?_
      have hk_p0 := tk_ hts24.1 hk_p0
      show v_ l D cy ka cX11_cut RX11 5 (some FieldType.int) "cut" 23 593 (qf_ D cy σ z (some (.int r))) σ z _ 76 [(4, va_rf (some a3)), (0, va_rf (some p0)), (1, .int p1), (2, .int p2), (3, .int p3)] [.int x23]
      exact v_iret hf dX11_cut_76
theorem dX11_edition_0 : decode cX11_edition 0 = .ok (.aload_n 0, 1) := by decide +kernel
theorem dX11_edition_1 : decode cX11_edition 1 = .ok (.iload_n 1, 1) := by decide +kernel
theorem dX11_edition_2 : decode cX11_edition 2 = .ok (.invokevirtual 149, 3) := by decide +kernel
theorem dX11_edition_5 : decode cX11_edition 5 = .ok (.astore 4, 2) := by decide +kernel
theorem dX11_edition_7 : decode cX11_edition 7 = .ok (.aload 4, 2) := by decide +kernel
theorem dX11_edition_9 : decode cX11_edition 9 = .ok (.ifnonnull 9, 3) := by decide +kernel
theorem dX11_edition_12 : decode cX11_edition 12 = .ok (.aload_n 0, 1) := by decide +kernel
theorem dX11_edition_13 : decode cX11_edition 13 = .ok (.iconst 1, 1) := by decide +kernel
theorem dX11_edition_14 : decode cX11_edition 14 = .ok (.invokevirtual 97, 3) := by decide +kernel
theorem dX11_edition_17 : decode cX11_edition 17 = .ok (.ireturn, 1) := by decide +kernel
theorem dX11_edition_18 : decode cX11_edition 18 = .ok (.iload_n 2, 1) := by decide +kernel
theorem dX11_edition_19 : decode cX11_edition 19 = .ok (.iconst 1, 1) := by decide +kernel
theorem dX11_edition_20 : decode cX11_edition 20 = .ok (.sipush 4000, 3) := by decide +kernel
theorem dX11_edition_23 : decode cX11_edition 23 = .ok (.invokestatic 93, 3) := by decide +kernel
theorem dX11_edition_26 : decode cX11_edition 26 = .ok (.ifCond .ne 9, 3) := by decide +kernel
theorem dX11_edition_29 : decode cX11_edition 29 = .ok (.aload_n 0, 1) := by decide +kernel
theorem dX11_edition_30 : decode cX11_edition 30 = .ok (.iconst 2, 1) := by decide +kernel
theorem dX11_edition_31 : decode cX11_edition 31 = .ok (.invokevirtual 97, 3) := by decide +kernel
theorem dX11_edition_34 : decode cX11_edition 34 = .ok (.ireturn, 1) := by decide +kernel
theorem dX11_edition_35 : decode cX11_edition 35 = .ok (.aload 4, 2) := by decide +kernel
theorem dX11_edition_37 : decode cX11_edition 37 = .ok (.invokevirtual 166, 3) := by decide +kernel
theorem dX11_edition_40 : decode cX11_edition 40 = .ok (.ifCond .eq 15, 3) := by decide +kernel
theorem dX11_edition_43 : decode cX11_edition 43 = .ok (.aload_n 0, 1) := by decide +kernel
theorem dX11_edition_44 : decode cX11_edition 44 = .ok (.getfield 66, 3) := by decide +kernel
theorem dX11_edition_47 : decode cX11_edition 47 = .ok (.aload 4, 2) := by decide +kernel
theorem dX11_edition_49 : decode cX11_edition 49 = .ok (.getfield 378, 3) := by decide +kernel
theorem dX11_edition_52 : decode cX11_edition 52 = .ok (.if_icmp .ge 9, 3) := by decide +kernel
theorem dX11_edition_55 : decode cX11_edition 55 = .ok (.aload_n 0, 1) := by decide +kernel
theorem dX11_edition_56 : decode cX11_edition 56 = .ok (.iconst 5, 1) := by decide +kernel
theorem dX11_edition_57 : decode cX11_edition 57 = .ok (.invokevirtual 97, 3) := by decide +kernel
theorem dX11_edition_60 : decode cX11_edition 60 = .ok (.ireturn, 1) := by decide +kernel
theorem dX11_edition_61 : decode cX11_edition 61 = .ok (.aload_n 0, 1) := by decide +kernel
theorem dX11_edition_62 : decode cX11_edition 62 = .ok (.getfield 31, 3) := by decide +kernel
theorem dX11_edition_65 : decode cX11_edition 65 = .ok (.invokevirtual 101, 3) := by decide +kernel
theorem dX11_edition_68 : decode cX11_edition 68 = .ok (.bipush 80, 2) := by decide +kernel
theorem dX11_edition_70 : decode cX11_edition 70 = .ok (.if_icmp .lt 9, 3) := by decide +kernel
theorem dX11_edition_73 : decode cX11_edition 73 = .ok (.aload_n 0, 1) := by decide +kernel
theorem dX11_edition_74 : decode cX11_edition 74 = .ok (.iconst 3, 1) := by decide +kernel
theorem dX11_edition_75 : decode cX11_edition 75 = .ok (.invokevirtual 97, 3) := by decide +kernel
theorem dX11_edition_78 : decode cX11_edition 78 = .ok (.ireturn, 1) := by decide +kernel
theorem dX11_edition_79 : decode cX11_edition 79 = .ok (.new 381, 3) := by decide +kernel
theorem dX11_edition_82 : decode cX11_edition 82 = .ok (.dup, 1) := by decide +kernel
theorem dX11_edition_83 : decode cX11_edition 83 = .ok (.iload_n 1, 1) := by decide +kernel
theorem dX11_edition_84 : decode cX11_edition 84 = .ok (.aload_n 0, 1) := by decide +kernel
theorem dX11_edition_85 : decode cX11_edition 85 = .ok (.invokevirtual 188, 3) := by decide +kernel
theorem dX11_edition_88 : decode cX11_edition 88 = .ok (.invokespecial 383, 3) := by decide +kernel
theorem dX11_edition_91 : decode cX11_edition 91 = .ok (.astore 5, 2) := by decide +kernel
theorem dX11_edition_93 : decode cX11_edition 93 = .ok (.aload_n 0, 1) := by decide +kernel
theorem dX11_edition_94 : decode cX11_edition 94 = .ok (.aload 5, 2) := by decide +kernel
theorem dX11_edition_96 : decode cX11_edition 96 = .ok (.iload_n 2, 1) := by decide +kernel
theorem dX11_edition_97 : decode cX11_edition 97 = .ok (.invokevirtual 384, 3) := by decide +kernel
theorem dX11_edition_100 : decode cX11_edition 100 = .ok (.aload_n 0, 1) := by decide +kernel
theorem dX11_edition_101 : decode cX11_edition 101 = .ok (.aload 5, 2) := by decide +kernel
theorem dX11_edition_103 : decode cX11_edition 103 = .ok (.iload_n 2, 1) := by decide +kernel
theorem dX11_edition_104 : decode cX11_edition 104 = .ok (.invokevirtual 388, 3) := by decide +kernel
theorem dX11_edition_107 : decode cX11_edition 107 = .ok (.aload_n 0, 1) := by decide +kernel
theorem dX11_edition_108 : decode cX11_edition 108 = .ok (.aload 4, 2) := by decide +kernel
theorem dX11_edition_110 : decode cX11_edition 110 = .ok (.iload_n 2, 1) := by decide +kernel
theorem dX11_edition_111 : decode cX11_edition 111 = .ok (.aload 5, 2) := by decide +kernel
theorem dX11_edition_113 : decode cX11_edition 113 = .ok (.getfield 391, 3) := by decide +kernel
theorem dX11_edition_116 : decode cX11_edition 116 = .ok (.isub, 1) := by decide +kernel
theorem dX11_edition_117 : decode cX11_edition 117 = .ok (.iload_n 3, 1) := by decide +kernel
theorem dX11_edition_118 : decode cX11_edition 118 = .ok (.invokevirtual 314, 3) := by decide +kernel
theorem dX11_edition_121 : decode cX11_edition 121 = .ok (.aload 5, 2) := by decide +kernel
theorem dX11_edition_123 : decode cX11_edition 123 = .ok (.aload_n 0, 1) := by decide +kernel
theorem dX11_edition_124 : decode cX11_edition 124 = .ok (.getfield 55, 3) := by decide +kernel
theorem dX11_edition_127 : decode cX11_edition 127 = .ok (.getfield 318, 3) := by decide +kernel
theorem dX11_edition_130 : decode cX11_edition 130 = .ok (.putfield 392, 3) := by decide +kernel
theorem dX11_edition_133 : decode cX11_edition 133 = .ok (.aload 5, 2) := by decide +kernel
theorem dX11_edition_135 : decode cX11_edition 135 = .ok (.dup, 1) := by decide +kernel
theorem dX11_edition_136 : decode cX11_edition 136 = .ok (.getfield 391, 3) := by decide +kernel
theorem dX11_edition_139 : decode cX11_edition 139 = .ok (.aload_n 0, 1) := by decide +kernel
theorem dX11_edition_140 : decode cX11_edition 140 = .ok (.getfield 55, 3) := by decide +kernel
theorem dX11_edition_143 : decode cX11_edition 143 = .ok (.getfield 321, 3) := by decide +kernel
theorem dX11_edition_146 : decode cX11_edition 146 = .ok (.iadd, 1) := by decide +kernel
theorem dX11_edition_147 : decode cX11_edition 147 = .ok (.putfield 391, 3) := by decide +kernel
theorem dX11_edition_150 : decode cX11_edition 150 = .ok (.aload 5, 2) := by decide +kernel
theorem dX11_edition_152 : decode cX11_edition 152 = .ok (.aload 4, 2) := by decide +kernel
theorem dX11_edition_154 : decode cX11_edition 154 = .ok (.invokestatic 393, 3) := by decide +kernel
theorem dX11_edition_157 : decode cX11_edition 157 = .ok (.aload_n 0, 1) := by decide +kernel
theorem dX11_edition_158 : decode cX11_edition 158 = .ok (.getfield 31, 3) := by decide +kernel
theorem dX11_edition_161 : decode cX11_edition 161 = .ok (.aload 5, 2) := by decide +kernel
theorem dX11_edition_163 : decode cX11_edition 163 = .ok (.invokevirtual 110, 3) := by decide +kernel
theorem dX11_edition_166 : decode cX11_edition 166 = .ok (.pop, 1) := by decide +kernel
theorem dX11_edition_167 : decode cX11_edition 167 = .ok (.aload_n 0, 1) := by decide +kernel
theorem dX11_edition_168 : decode cX11_edition 168 = .ok (.aload_n 0, 1) := by decide +kernel
theorem dX11_edition_169 : decode cX11_edition 169 = .ok (.getfield 31, 3) := by decide +kernel
theorem dX11_edition_172 : decode cX11_edition 172 = .ok (.invokevirtual 101, 3) := by decide +kernel
theorem dX11_edition_175 : decode cX11_edition 175 = .ok (.iconst 1, 1) := by decide +kernel
theorem dX11_edition_176 : decode cX11_edition 176 = .ok (.isub, 1) := by decide +kernel
theorem dX11_edition_177 : decode cX11_edition 177 = .ok (.invokevirtual 114, 3) := by decide +kernel
theorem dX11_edition_180 : decode cX11_edition 180 = .ok (.ireturn, 1) := by decide +kernel
def f_X11_edition_b55 (ka : Nat → Nat) (σ : TH) (l0 : Nat) : Option (Int32 × TH) :=
  gt_ (kd_ σ l0 = 13) <| bd_ (f_X11_refused σ l0 (5 : Int32)) fun x12 s13 => some (x12, s13)
set_option maxHeartbeats 4000000 in
set_option maxRecDepth 100000 in
theorem t_X11_edition_b55 {l : Launch} {D : va_G} {cy : Nat → ClassId} {ka : Nat → Nat} {σ0 z : TH} {r : Int32}  {σ : TH} {l0 : Nat} (hf : f_X11_edition_b55 ka σ l0 = some (r, z)) : v_ l D cy ka cX11_edition RX11 6 (some FieldType.int) "edition" 23 593 (qf_ D cy σ0 z (some (.int r))) σ0 z σ 55 [(0, va_rf (some l0))] [] := by
  unfold f_X11_edition_b55 at hf
  refine v_aload_n (x := (some l0)) dX11_edition_55 rfl 0 rfl ?_
  refine v_iconst (v := 5) dX11_edition_56 (by decide) ?_
  obtain ⟨hk_l0, hf⟩ := gt_of hf
  obtain ⟨x12, s13, hcs13, hf⟩ := bd_of hf
  have hts13 := c_X11_refused (l := l) (D := D) (cy := cy) (ka := ka) hcs13
  refine v_callV cb_12 hk_l0 (As := [.int (5 : Int32)]) (rest := []) hts13 yb_X11_refused kw_307 kw_309 kp_0 rfl ⟨Nat.le_of_ble_eq_true rfl, Nat.le_of_ble_eq_true rfl⟩ rfl (cat_len (Nat.le_of_ble_eq_true rfl)) dX11_edition_57 ?_
  have hk_l0 := tk_ hts13.1 hk_l0
  show v_ l D cy ka cX11_edition RX11 6 (some FieldType.int) "edition" 23 593 (qf_ D cy σ0 z (some (.int r))) σ0 z _ 60 [(0, va_rf (some l0))] [.int x12]
  exact v_iret hf dX11_edition_60
/-- LivesAhead.edition(IIZ)I -/
def f_X11_edition (ka : Nat → Nat) (σ : TH) (p0 : Nat) (p1 : Int32) (p2 : Int32) (p3 : Int32) : Option (Int32 × TH) :=
  gt_ (kd_ σ p0 = 13) <| bd_ (f_X11_personAt σ p0 p1) fun r1 s2 => oc_ r1 (bd_ (f_X11_refused s2 p0 (1 : Int32)) fun x4 s5 => some (x4, s5)) (fun a3 => bd_ (f_X11_within s2 p2 (1 : Int32) (4000 : Int32)) fun x6 s7 => if x6 = 0 then (bd_ (f_X11_refused s7 p0 (2 : Int32)) fun x8 s9 => some (x8, s9)) else (gt_ (kd_ s7 a3 = 4) <| bd_ (f_X2_isDead s7 a3) fun x10 s11 => if x10 = 0 then (f_X11_edition_b55 ka s11 p0) else (lt_ (fi_ s11 1213 p0) fun x14 => lt_ (fi_ s11 307 a3) fun x15 => if x15 ≤ x14 then (lt_ (fr_ s11 1206 p0) fun r16 => nn_ r16 fun a17 => gt_ (kd_ s11 a17 = 1) <| bd_ (f_Jx4a65c_size_8abf5 s11 a17) fun x18 s19 => if x18 < (80 : Int32) then (gt_ (kd_ s19 (nx_ s19) = 0) <| lt_ (nx_ s19) fun a20 => lt_ (nw_ s19 3 0 10) fun s21 => bd_ (f_X11_today s21 p0) fun x22 s23 => bd_ (f_X1_init s23 a20 p1 x22) fun x24 s25 => bd_ (f_X11_layPicture s25 p0 (some a20) p2) fun x26 s27 => bd_ (f_X11_layQuotes s27 p0 (some a20) p2) fun x28 s29 => lt_ (fi_ s29 202 a20) fun x30 => bd_ (f_X11_chooseParagraphs s29 p0 (some a3) (p2 - x30) p3) fun x31 s32 => lt_ (fr_ s32 1210 p0) fun r33 => nn_ r33 fun a34 => gt_ (kd_ s32 a34 = 2) <| lt_ (fi_ s32 108 a34) fun x35 => lt_ (si_ s32 203 a20 x35) fun s36 => lt_ (fi_ s36 202 a20) fun x37 => lt_ (fr_ s36 1210 p0) fun r38 => nn_ r38 fun a39 => gt_ (kd_ s36 a39 = 2) <| lt_ (fi_ s36 110 a39) fun x40 => lt_ (si_ s36 202 a20 (x37 + x40)) fun s41 => bd_ (f_X11_layFacts s41 (some a20) (some a3)) fun x42 s43 => lt_ (fr_ s43 1206 p0) fun r44 => nn_ r44 fun a45 => gt_ (kd_ s43 a45 = 1) <| bd_ (f_Jx4a65c_add_9ea2d ka s43 a45 (some a20)) fun x46 s47 => lt_ (fr_ s47 1206 p0) fun r48 => nn_ r48 fun a49 => gt_ (kd_ s47 a49 = 1) <| bd_ (f_Jx4a65c_size_8abf5 s47 a49) fun x50 s51 => bd_ (f_X11_granted s51 p0 (x50 - (1 : Int32))) fun x52 s53 => some (x52, s53)) else (bd_ (f_X11_refused s19 p0 (3 : Int32)) fun x54 s55 => some (x54, s55))) else (f_X11_edition_b55 ka s11 p0))))
set_option maxHeartbeats 4000000 in
set_option maxRecDepth 100000 in
theorem c_X11_edition {l : Launch} {D : va_G} {cy : Nat → ClassId} {ka : Nat → Nat} {σ z : TH} {p0 : Nat} {p1 : Int32} {p2 : Int32} {p3 : Int32} {r : Int32} (hf : f_X11_edition ka σ p0 p1 p2 p3 = some (r, z)) : ct_ l D cy ka yX11_edition 23 593 [va_rf (some p0), .int p1, .int p2, .int p3] σ (some (.int r)) z := by
  unfold f_X11_edition at hf
  refine v_start (cc := cX11_edition) (own := RX11) (maxL := 6) (ret := (some FieldType.int)) (nm := "edition") (by decide +kernel) kw_1171 rfl rfl (by simp [lg_sl, va_rf_cat, cat_i, cat_l]) ?_
  refine v_eqL (L2 := [(0, va_rf (some p0)), (1, .int p1), (2, .int p2), (3, .int p3)]) (by simp [lv_args, va_rf_cat, cat_i, cat_l]) ?_
  refine v_aload_n (x := (some p0)) dX11_edition_0 rfl 0 rfl ?_
  refine v_iload_n (x := p1) dX11_edition_1 rfl 1 rfl ?_
  obtain ⟨hk_p0, hf⟩ := gt_of hf
  obtain ⟨r1, s2, hcs2, hf⟩ := bd_of hf
  have hts2 := c_X11_personAt (l := l) (D := D) (cy := cy) (ka := ka) hcs2
  refine v_callV cb_12 hk_p0 (As := [.int p1]) (rest := []) hts2 yb_X11_personAt kw_526 kw_528 kp_11 rfl ⟨Nat.le_of_ble_eq_true rfl, Nat.le_of_ble_eq_true rfl⟩ rfl (cat_len (Nat.le_of_ble_eq_true rfl)) dX11_edition_2 ?_
  have hk_p0 := tk_ hts2.1 hk_p0
  show v_ l D cy ka cX11_edition RX11 6 (some FieldType.int) "edition" 23 593 (qf_ D cy σ z (some (.int r))) σ z _ 5 [(0, va_rf (some p0)), (1, .int p1), (2, .int p2), (3, .int p3)] [va_rf r1]
  refine v_astore [(4, va_rf r1), (0, va_rf (some p0)), (1, .int p1), (2, .int p2), (3, .int p3)] dX11_edition_5 (by decide) rfl ?_
  refine v_aload (x := r1) dX11_edition_7 0 rfl ?_
  refine v_ifnonnull2 (tgt := 18) hf dX11_edition_9 (by decide) (fun e9 hf9 => ?_) (fun a3 e9 hf9 => ?_)
  · subst e9
    replace hf := hf9
    clear hf9
    refine v_aload_n (x := (some p0)) dX11_edition_12 rfl 1 rfl ?_
    refine v_iconst (v := 1) dX11_edition_13 (by decide) ?_
    obtain ⟨x4, s5, hcs5, hf⟩ := bd_of hf
    have hts5 := c_X11_refused (l := l) (D := D) (cy := cy) (ka := ka) hcs5
    refine v_callV cb_12 hk_p0 (As := [.int (1 : Int32)]) (rest := []) hts5 yb_X11_refused kw_307 kw_309 kp_0 rfl ⟨Nat.le_of_ble_eq_true rfl, Nat.le_of_ble_eq_true rfl⟩ rfl (cat_len (Nat.le_of_ble_eq_true rfl)) dX11_edition_14 ?_
    have hk_p0 := tk_ hts5.1 hk_p0
    show v_ l D cy ka cX11_edition RX11 6 (some FieldType.int) "edition" 23 593 (qf_ D cy σ z (some (.int r))) σ z _ 17 [(4, va_rf none), (0, va_rf (some p0)), (1, .int p1), (2, .int p2), (3, .int p3)] [.int x4]
    exact v_iret hf dX11_edition_17
  · subst e9
    replace hf := hf9
    clear hf9
    refine v_iload_n (x := p2) dX11_edition_18 rfl 3 rfl ?_
    refine v_iconst (v := 1) dX11_edition_19 (by decide) ?_
    refine v_sipush (v := 4000) dX11_edition_20 (by decide) ?_
    obtain ⟨x6, s7, hcs7, hf⟩ := bd_of hf
    have hts7 := c_X11_within (l := l) (D := D) (cy := cy) (ka := ka) hcs7
    refine v_callS (As := [.int p2, .int (1 : Int32), .int (4000 : Int32)]) (rest := []) hts7 yb_X11_within kw_304 kw_305 rfl ⟨Nat.le_of_ble_eq_true rfl, Nat.le_of_ble_eq_true rfl⟩ rfl (cat_len (Nat.le_of_ble_eq_true rfl)) dX11_edition_23 ?_
    have hk_p0 := tk_ hts7.1 hk_p0
    show v_ l D cy ka cX11_edition RX11 6 (some FieldType.int) "edition" 23 593 (qf_ D cy σ z (some (.int r))) σ z _ 26 [(4, va_rf (some a3)), (0, va_rf (some p0)), (1, .int p1), (2, .int p2), (3, .int p3)] [.int x6]
    refine v_if_ne (tgt := 35) hf dX11_edition_26 (by decide) (fun hq hf => ?_) (fun hq hf => ?_)
    · refine v_aload_n (x := (some p0)) dX11_edition_29 rfl 1 rfl ?_
      refine v_iconst (v := 2) dX11_edition_30 (by decide) ?_
      obtain ⟨x8, s9, hcs9, hf⟩ := bd_of hf
      have hts9 := c_X11_refused (l := l) (D := D) (cy := cy) (ka := ka) hcs9
      refine v_callV cb_12 hk_p0 (As := [.int (2 : Int32)]) (rest := []) hts9 yb_X11_refused kw_307 kw_309 kp_0 rfl ⟨Nat.le_of_ble_eq_true rfl, Nat.le_of_ble_eq_true rfl⟩ rfl (cat_len (Nat.le_of_ble_eq_true rfl)) dX11_edition_31 ?_
      have hk_p0 := tk_ hts9.1 hk_p0
      show v_ l D cy ka cX11_edition RX11 6 (some FieldType.int) "edition" 23 593 (qf_ D cy σ z (some (.int r))) σ z _ 34 [(4, va_rf (some a3)), (0, va_rf (some p0)), (1, .int p1), (2, .int p2), (3, .int p3)] [.int x8]
      exact v_iret hf dX11_edition_34
    · refine v_aload (x := (some a3)) dX11_edition_35 0 rfl ?_
      obtain ⟨hk_a3, hf⟩ := gt_of hf
      obtain ⟨x10, s11, hcs11, hf⟩ := bd_of hf
      have hts11 := c_X2_isDead (l := l) (D := D) (cy := cy) (ka := ka) hcs11
      refine v_callV cb_3 hk_a3 (As := []) (rest := []) hts11 yb_X2_isDead kw_534 kw_535 kw_536 rfl ⟨Nat.le_of_ble_eq_true rfl, Nat.le_of_ble_eq_true rfl⟩ rfl (cat_len (Nat.le_of_ble_eq_true rfl)) dX11_edition_37 ?_
      have hk_p0 := tk_ hts11.1 hk_p0
      have hk_a3 := tk_ hts11.1 hk_a3
      show v_ l D cy ka cX11_edition RX11 6 (some FieldType.int) "edition" 23 593 (qf_ D cy σ z (some (.int r))) σ z _ 40 [(4, va_rf (some a3)), (0, va_rf (some p0)), (1, .int p1), (2, .int p2), (3, .int p3)] [.int x10]
      refine v_if_eq (tgt := 55) hf dX11_edition_40 (by decide) (fun hq hf => ?_) (fun hq hf => ?_)
      · refine v_sub [1] (L2 := [(0, va_rf (some p0))]) rfl ?_
        exact t_X11_edition_b55  hf
      · refine v_aload_n (x := (some p0)) dX11_edition_43 rfl 1 rfl ?_
        refine v_geti cb_12 hk_p0 13 1213 rfl (by decide) rfl (lk_n kw_252 rfl) hf dX11_edition_44 (fun x14 hf => ?_)
        refine v_aload (x := (some a3)) dX11_edition_47 0 rfl ?_
        refine v_geti cb_3 hk_a3 7 307 rfl (by decide) rfl (lk_n kw_479 rfl) hf dX11_edition_49 (fun x15 hf => ?_)
        refine v_icmp_ge (tgt := 61) hf dX11_edition_52 (by decide) (fun hq hf => ?_) (fun hq hf => ?_)
        · refine v_aload_n (x := (some p0)) dX11_edition_61 rfl 1 rfl ?_
          refine v_getr cb_12 hk_p0 6 1206 rfl (by decide) rfl (lk_n kw_245 rfl) hf dX11_edition_62 (fun r16 hf => ?_)
          obtain ⟨a17, rfl, hf⟩ := nn_of hf
          obtain ⟨hk_a17, hf⟩ := gt_of hf
          obtain ⟨x18, s19, hcs19, hf⟩ := bd_of hf
          have hts19 := c_Jx4a65c_size_8abf5 (l := l) (D := D) (cy := cy) (ka := ka) hcs19
          refine v_callV cb_0 hk_a17 (As := []) (rest := []) hts19 yb_Jx4a65c_size_8abf5 kw_311 kw_312 kw_313 rfl ⟨Nat.le_of_ble_eq_true rfl, Nat.le_of_ble_eq_true rfl⟩ rfl (cat_len (Nat.le_of_ble_eq_true rfl)) dX11_edition_65 ?_
          have hk_p0 := tk_ hts19.1 hk_p0
          have hk_a3 := tk_ hts19.1 hk_a3
          show v_ l D cy ka cX11_edition RX11 6 (some FieldType.int) "edition" 23 593 (qf_ D cy σ z (some (.int r))) σ z _ 68 [(4, va_rf (some a3)), (0, va_rf (some p0)), (1, .int p1), (2, .int p2), (3, .int p3)] [.int x18]
          refine v_bipush (v := 80) dX11_edition_68 (by decide) ?_
          refine v_icmp_lt (tgt := 79) hf dX11_edition_70 (by decide) (fun hq hf => ?_) (fun hq hf => ?_)
          · refine v_new2 cb_2 df_2 kw_1172 kw_1173 kw_32 3 rfl hf dX11_edition_79 (fun a20 s21 hts21 hk_a20 hf => ?_)
            have hk_p0 := tk_ hts21 hk_p0
            have hk_a3 := tk_ hts21 hk_a3
            refine v_dup dX11_edition_82 (va_rf_cat _) ?_
            refine v_iload_n (x := p1) dX11_edition_83 rfl 2 rfl ?_
            refine v_aload_n (x := (some p0)) dX11_edition_84 rfl 1 rfl ?_
            obtain ⟨x22, s23, hcs23, hf⟩ := bd_of hf
            have hts23 := c_X11_today (l := l) (D := D) (cy := cy) (ka := ka) hcs23
            refine v_callV cb_12 hk_p0 (As := []) (rest := [.int p1, va_rf (some a20), va_rf (some a20)]) hts23 yb_X11_today kw_538 kw_540 kp_13 rfl ⟨Nat.le_of_ble_eq_true rfl, Nat.le_of_ble_eq_true rfl⟩ rfl (cat_len (Nat.le_of_ble_eq_true rfl)) dX11_edition_85 ?_
            have hk_p0 := tk_ hts23.1 hk_p0
            have hk_a3 := tk_ hts23.1 hk_a3
            have hk_a20 := tk_ hts23.1 hk_a20
            show v_ l D cy ka cX11_edition RX11 6 (some FieldType.int) "edition" 23 593 (qf_ D cy σ z (some (.int r))) σ z _ 88 [(4, va_rf (some a3)), (0, va_rf (some p0)), (1, .int p1), (2, .int p2), (3, .int p3)] [.int x22, .int p1, va_rf (some a20), va_rf (some a20)]
            obtain ⟨x24, s25, hcs25, hf⟩ := bd_of hf
            have hts25 := c_X1_init (l := l) (D := D) (cy := cy) (ka := ka) hcs25
            refine v_callI (As := [.int p1, .int x22]) (rest := [va_rf (some a20)]) hts25 yb_X1_init kw_1174 kw_1175 rfl rfl ⟨Nat.le_of_ble_eq_true rfl, Nat.le_of_ble_eq_true rfl⟩ rfl (cat_len (Nat.le_of_ble_eq_true rfl)) dX11_edition_88 ?_
            have hk_p0 := tk_ hts25.1 hk_p0
            have hk_a3 := tk_ hts25.1 hk_a3
            have hk_a20 := tk_ hts25.1 hk_a20
            show v_ l D cy ka cX11_edition RX11 6 (some FieldType.int) "edition" 23 593 (qf_ D cy σ z (some (.int r))) σ z _ 91 [(4, va_rf (some a3)), (0, va_rf (some p0)), (1, .int p1), (2, .int p2), (3, .int p3)] [va_rf (some a20)]
            refine v_astore [(5, va_rf (some a20)), (4, va_rf (some a3)), (0, va_rf (some p0)), (1, .int p1), (2, .int p2), (3, .int p3)] dX11_edition_91 (by decide) rfl ?_
            refine v_aload_n (x := (some p0)) dX11_edition_93 rfl 2 rfl ?_
            refine v_aload (x := (some a20)) dX11_edition_94 0 rfl ?_
            refine v_iload_n (x := p2) dX11_edition_96 rfl 4 rfl ?_
            obtain ⟨x26, s27, hcs27, hf⟩ := bd_of hf
            have hts27 := c_X11_layPicture (l := l) (D := D) (cy := cy) (ka := ka) hcs27
            refine v_callV cb_12 hk_p0 (As := [va_rf (some a20), .int p2]) (rest := []) hts27 yb_X11_layPicture kw_1219 kw_1221 kp_63 rfl ⟨Nat.le_of_ble_eq_true rfl, Nat.le_of_ble_eq_true rfl⟩ rfl (cat_len (Nat.le_of_ble_eq_true rfl)) dX11_edition_97 ?_
            have hk_p0 := tk_ hts27.1 hk_p0
            have hk_a3 := tk_ hts27.1 hk_a3
            have hk_a20 := tk_ hts27.1 hk_a20
            show v_ l D cy ka cX11_edition RX11 6 (some FieldType.int) "edition" 23 593 (qf_ D cy σ z (some (.int r))) σ z _ 100 [(5, va_rf (some a20)), (4, va_rf (some a3)), (0, va_rf (some p0)), (1, .int p1), (2, .int p2), (3, .int p3)] []
            refine v_aload_n (x := (some p0)) dX11_edition_100 rfl 2 rfl ?_
            refine v_aload (x := (some a20)) dX11_edition_101 0 rfl ?_
            refine v_iload_n (x := p2) dX11_edition_103 rfl 4 rfl ?_
            obtain ⟨x28, s29, hcs29, hf⟩ := bd_of hf
            have hts29 := c_X11_layQuotes (l := l) (D := D) (cy := cy) (ka := ka) hcs29
            refine v_callV cb_12 hk_p0 (As := [va_rf (some a20), .int p2]) (rest := []) hts29 yb_X11_layQuotes kw_1227 kw_1229 kp_64 rfl ⟨Nat.le_of_ble_eq_true rfl, Nat.le_of_ble_eq_true rfl⟩ rfl (cat_len (Nat.le_of_ble_eq_true rfl)) dX11_edition_104 ?_
            have hk_p0 := tk_ hts29.1 hk_p0
            have hk_a3 := tk_ hts29.1 hk_a3
            have hk_a20 := tk_ hts29.1 hk_a20
            show v_ l D cy ka cX11_edition RX11 6 (some FieldType.int) "edition" 23 593 (qf_ D cy σ z (some (.int r))) σ z _ 107 [(5, va_rf (some a20)), (4, va_rf (some a3)), (0, va_rf (some p0)), (1, .int p1), (2, .int p2), (3, .int p3)] []
            refine v_aload_n (x := (some p0)) dX11_edition_107 rfl 2 rfl ?_
            refine v_aload (x := (some a3)) dX11_edition_108 1 rfl ?_
            refine v_iload_n (x := p2) dX11_edition_110 rfl 4 rfl ?_
            refine v_aload (x := (some a20)) dX11_edition_111 0 rfl ?_
            refine v_geti cb_2 hk_a20 2 202 rfl (by decide) rfl (lk_n kw_1183 rfl) hf dX11_edition_113 (fun x30 hf => ?_)
            refine v_isub dX11_edition_116 ?_
            refine v_iload_n (x := p3) dX11_edition_117 rfl 5 rfl ?_
            obtain ⟨x31, s32, hcs32, hf⟩ := bd_of hf
            have hts32 := c_X11_chooseParagraphs (l := l) (D := D) (cy := cy) (ka := ka) hcs32
            refine v_callV cb_12 hk_p0 (As := [va_rf (some a3), .int (p2 - x30), .int p3]) (rest := []) hts32 yb_X11_chooseParagraphs kw_957 kw_959 kp_56 rfl ⟨Nat.le_of_ble_eq_true rfl, Nat.le_of_ble_eq_true rfl⟩ rfl (cat_len (Nat.le_of_ble_eq_true rfl)) dX11_edition_118 ?_
            have hk_p0 := tk_ hts32.1 hk_p0
            have hk_a3 := tk_ hts32.1 hk_a3
            have hk_a20 := tk_ hts32.1 hk_a20
            show v_ l D cy ka cX11_edition RX11 6 (some FieldType.int) "edition" 23 593 (qf_ D cy σ z (some (.int r))) σ z _ 121 [(5, va_rf (some a20)), (4, va_rf (some a3)), (0, va_rf (some p0)), (1, .int p1), (2, .int p2), (3, .int p3)] []
            refine v_aload (x := (some a20)) dX11_edition_121 0 rfl ?_
            refine v_aload_n (x := (some p0)) dX11_edition_123 rfl 2 rfl ?_
            refine v_getr cb_12 hk_p0 10 1210 rfl (by decide) rfl (lk_n kw_249 rfl) hf dX11_edition_124 (fun r33 hf => ?_)
            obtain ⟨a34, rfl, hf⟩ := nn_of hf
            obtain ⟨hk_a34, hf⟩ := gt_of hf
            refine v_geti cb_1 hk_a34 8 108 rfl (by decide) rfl (lk_n kw_207 rfl) hf dX11_edition_127 (fun x35 hf => ?_)
            refine v_puti2 cb_2 hk_a20 3 203 rfl (by decide) rfl (lk_n kw_1185 rfl) (Or.inl rfl) rfl rfl hf dX11_edition_130 (fun s36 hts36 hf => ?_)
            have hk_p0 := tk_ hts36 hk_p0
            have hk_a3 := tk_ hts36 hk_a3
            have hk_a20 := tk_ hts36 hk_a20
            refine v_aload (x := (some a20)) dX11_edition_133 0 rfl ?_
            refine v_dup dX11_edition_135 (va_rf_cat _) ?_
            refine v_geti cb_2 hk_a20 2 202 rfl (by decide) rfl (lk_n kw_1183 rfl) hf dX11_edition_136 (fun x37 hf => ?_)
            refine v_aload_n (x := (some p0)) dX11_edition_139 rfl 2 rfl ?_
            refine v_getr cb_12 hk_p0 10 1210 rfl (by decide) rfl (lk_n kw_249 rfl) hf dX11_edition_140 (fun r38 hf => ?_)
            obtain ⟨a39, rfl, hf⟩ := nn_of hf
            obtain ⟨hk_a39, hf⟩ := gt_of hf
            refine v_geti cb_1 hk_a39 10 110 rfl (by decide) rfl (lk_n kw_211 rfl) hf dX11_edition_143 (fun x40 hf => ?_)
            refine v_iadd dX11_edition_146 ?_
            refine v_puti2 cb_2 hk_a20 2 202 rfl (by decide) rfl (lk_n kw_1183 rfl) (Or.inl rfl) rfl rfl hf dX11_edition_147 (fun s41 hts41 hf => ?_)
            have hk_p0 := tk_ hts41 hk_p0
            have hk_a3 := tk_ hts41 hk_a3
            have hk_a20 := tk_ hts41 hk_a20
            refine v_aload (x := (some a20)) dX11_edition_150 0 rfl ?_
            refine v_aload (x := (some a3)) dX11_edition_152 1 rfl ?_
            obtain ⟨x42, s43, hcs43, hf⟩ := bd_of hf
            have hts43 := c_X11_layFacts (l := l) (D := D) (cy := cy) (ka := ka) hcs43
            refine v_callS (As := [va_rf (some a20), va_rf (some a3)]) (rest := []) hts43 yb_X11_layFacts kw_1231 kw_1232 rfl ⟨Nat.le_of_ble_eq_true rfl, Nat.le_of_ble_eq_true rfl⟩ rfl (cat_len (Nat.le_of_ble_eq_true rfl)) dX11_edition_154 ?_
            have hk_p0 := tk_ hts43.1 hk_p0
            have hk_a3 := tk_ hts43.1 hk_a3
            have hk_a20 := tk_ hts43.1 hk_a20
            show v_ l D cy ka cX11_edition RX11 6 (some FieldType.int) "edition" 23 593 (qf_ D cy σ z (some (.int r))) σ z _ 157 [(5, va_rf (some a20)), (4, va_rf (some a3)), (0, va_rf (some p0)), (1, .int p1), (2, .int p2), (3, .int p3)] []
            refine v_aload_n (x := (some p0)) dX11_edition_157 rfl 2 rfl ?_
            refine v_getr cb_12 hk_p0 6 1206 rfl (by decide) rfl (lk_n kw_245 rfl) hf dX11_edition_158 (fun r44 hf => ?_)
            refine v_aload (x := (some a20)) dX11_edition_161 0 rfl ?_
            obtain ⟨a45, rfl, hf⟩ := nn_of hf
            obtain ⟨hk_a45, hf⟩ := gt_of hf
            obtain ⟨x46, s47, hcs47, hf⟩ := bd_of hf
            have hts47 := c_Jx4a65c_add_9ea2d (l := l) (D := D) (cy := cy) (ka := ka) hcs47
            refine v_callV cb_0 hk_a45 (As := [va_rf (some a20)]) (rest := []) hts47 yb_Jx4a65c_add_9ea2d kw_330 kw_331 kw_332 rfl ⟨Nat.le_of_ble_eq_true rfl, Nat.le_of_ble_eq_true rfl⟩ rfl (cat_len (Nat.le_of_ble_eq_true rfl)) dX11_edition_163 ?_
            have hk_p0 := tk_ hts47.1 hk_p0
            have hk_a3 := tk_ hts47.1 hk_a3
            have hk_a20 := tk_ hts47.1 hk_a20
            show v_ l D cy ka cX11_edition RX11 6 (some FieldType.int) "edition" 23 593 (qf_ D cy σ z (some (.int r))) σ z _ 166 [(5, va_rf (some a20)), (4, va_rf (some a3)), (0, va_rf (some p0)), (1, .int p1), (2, .int p2), (3, .int p3)] [.int x46]
            refine v_pop dX11_edition_166 rfl ?_
            refine v_aload_n (x := (some p0)) dX11_edition_167 rfl 2 rfl ?_
            refine v_aload_n (x := (some p0)) dX11_edition_168 rfl 2 rfl ?_
            refine v_getr cb_12 hk_p0 6 1206 rfl (by decide) rfl (lk_n kw_245 rfl) hf dX11_edition_169 (fun r48 hf => ?_)
            obtain ⟨a49, rfl, hf⟩ := nn_of hf
            obtain ⟨hk_a49, hf⟩ := gt_of hf
            obtain ⟨x50, s51, hcs51, hf⟩ := bd_of hf
            have hts51 := c_Jx4a65c_size_8abf5 (l := l) (D := D) (cy := cy) (ka := ka) hcs51
            refine v_callV cb_0 hk_a49 (As := []) (rest := [va_rf (some p0)]) hts51 yb_Jx4a65c_size_8abf5 kw_311 kw_312 kw_313 rfl ⟨Nat.le_of_ble_eq_true rfl, Nat.le_of_ble_eq_true rfl⟩ rfl (cat_len (Nat.le_of_ble_eq_true rfl)) dX11_edition_172 ?_
            have hk_p0 := tk_ hts51.1 hk_p0
            have hk_a3 := tk_ hts51.1 hk_a3
            have hk_a20 := tk_ hts51.1 hk_a20
            show v_ l D cy ka cX11_edition RX11 6 (some FieldType.int) "edition" 23 593 (qf_ D cy σ z (some (.int r))) σ z _ 175 [(5, va_rf (some a20)), (4, va_rf (some a3)), (0, va_rf (some p0)), (1, .int p1), (2, .int p2), (3, .int p3)] [.int x50, va_rf (some p0)]
            refine v_iconst (v := 1) dX11_edition_175 (by decide) ?_
            refine v_isub dX11_edition_176 ?_
            obtain ⟨x52, s53, hcs53, hf⟩ := bd_of hf
            have hts53 := c_X11_granted (l := l) (D := D) (cy := cy) (ka := ka) hcs53
            refine v_callV cb_12 hk_p0 (As := [.int (x50 - (1 : Int32))]) (rest := []) hts53 yb_X11_granted kw_395 kw_397 kp_4 rfl ⟨Nat.le_of_ble_eq_true rfl, Nat.le_of_ble_eq_true rfl⟩ rfl (cat_len (Nat.le_of_ble_eq_true rfl)) dX11_edition_177 ?_
            have hk_p0 := tk_ hts53.1 hk_p0
            have hk_a3 := tk_ hts53.1 hk_a3
            have hk_a20 := tk_ hts53.1 hk_a20
            show v_ l D cy ka cX11_edition RX11 6 (some FieldType.int) "edition" 23 593 (qf_ D cy σ z (some (.int r))) σ z _ 180 [(5, va_rf (some a20)), (4, va_rf (some a3)), (0, va_rf (some p0)), (1, .int p1), (2, .int p2), (3, .int p3)] [.int x52]
            exact v_iret hf dX11_edition_180
          · refine v_aload_n (x := (some p0)) dX11_edition_73 rfl 1 rfl ?_
            refine v_iconst (v := 3) dX11_edition_74 (by decide) ?_
            obtain ⟨x54, s55, hcs55, hf⟩ := bd_of hf
            have hts55 := c_X11_refused (l := l) (D := D) (cy := cy) (ka := ka) hcs55
            refine v_callV cb_12 hk_p0 (As := [.int (3 : Int32)]) (rest := []) hts55 yb_X11_refused kw_307 kw_309 kp_0 rfl ⟨Nat.le_of_ble_eq_true rfl, Nat.le_of_ble_eq_true rfl⟩ rfl (cat_len (Nat.le_of_ble_eq_true rfl)) dX11_edition_75 ?_
            have hk_p0 := tk_ hts55.1 hk_p0
            have hk_a3 := tk_ hts55.1 hk_a3
            show v_ l D cy ka cX11_edition RX11 6 (some FieldType.int) "edition" 23 593 (qf_ D cy σ z (some (.int r))) σ z _ 78 [(4, va_rf (some a3)), (0, va_rf (some p0)), (1, .int p1), (2, .int p2), (3, .int p3)] [.int x54]
            exact v_iret hf dX11_edition_78
        · refine v_sub [1] (L2 := [(0, va_rf (some p0))]) rfl ?_
          exact t_X11_edition_b55  hf
theorem dX11_week_0 : decode cX11_week 0 = .ok (.aload_n 0, 1) := by decide +kernel
theorem dX11_week_1 : decode cX11_week 1 = .ok (.iload_n 1, 1) := by decide +kernel
theorem dX11_week_2 : decode cX11_week 2 = .ok (.invokevirtual 117, 3) := by decide +kernel
theorem dX11_week_5 : decode cX11_week 5 = .ok (.astore_n 2, 1) := by decide +kernel
theorem dX11_week_6 : decode cX11_week 6 = .ok (.aload_n 2, 1) := by decide +kernel
theorem dX11_week_7 : decode cX11_week 7 = .ok (.ifnonnull 9, 3) := by decide +kernel
theorem dX11_week_10 : decode cX11_week 10 = .ok (.aload_n 0, 1) := by decide +kernel
theorem dX11_week_11 : decode cX11_week 11 = .ok (.iconst 1, 1) := by decide +kernel
theorem dX11_week_12 : decode cX11_week 12 = .ok (.invokevirtual 97, 3) := by decide +kernel
theorem dX11_week_15 : decode cX11_week 15 = .ok (.ireturn, 1) := by decide +kernel
theorem dX11_week_16 : decode cX11_week 16 = .ok (.aload_n 0, 1) := by decide +kernel
theorem dX11_week_17 : decode cX11_week 17 = .ok (.getfield 81, 3) := by decide +kernel
theorem dX11_week_20 : decode cX11_week 20 = .ok (.invokevirtual 431, 3) := by decide +kernel
theorem dX11_week_23 : decode cX11_week 23 = .ok (.aload_n 0, 1) := by decide +kernel
theorem dX11_week_24 : decode cX11_week 24 = .ok (.iload_n 1, 1) := by decide +kernel
theorem dX11_week_25 : decode cX11_week 25 = .ok (.invokevirtual 434, 3) := by decide +kernel
theorem dX11_week_28 : decode cX11_week 28 = .ok (.aload_n 0, 1) := by decide +kernel
theorem dX11_week_29 : decode cX11_week 29 = .ok (.getfield 55, 3) := by decide +kernel
theorem dX11_week_32 : decode cX11_week 32 = .ok (.aload_n 2, 1) := by decide +kernel
theorem dX11_week_33 : decode cX11_week 33 = .ok (.getfield 125, 3) := by decide +kernel
theorem dX11_week_36 : decode cX11_week 36 = .ok (.iconst 0, 1) := by decide +kernel
theorem dX11_week_37 : decode cX11_week 37 = .ok (.invokevirtual 437, 3) := by decide +kernel
theorem dX11_week_40 : decode cX11_week 40 = .ok (.iconst 0, 1) := by decide +kernel
theorem dX11_week_41 : decode cX11_week 41 = .ok (.istore_n 3, 1) := by decide +kernel
theorem dX11_week_42 : decode cX11_week 42 = .ok (.iload_n 3, 1) := by decide +kernel
theorem dX11_week_43 : decode cX11_week 43 = .ok (.aload_n 0, 1) := by decide +kernel
theorem dX11_week_44 : decode cX11_week 44 = .ok (.getfield 81, 3) := by decide +kernel
theorem dX11_week_47 : decode cX11_week 47 = .ok (.invokevirtual 101, 3) := by decide +kernel
theorem dX11_week_50 : decode cX11_week 50 = .ok (.if_icmp .ge 42, 3) := by decide +kernel
theorem dX11_week_53 : decode cX11_week 53 = .ok (.aload_n 0, 1) := by decide +kernel
theorem dX11_week_54 : decode cX11_week 54 = .ok (.getfield 81, 3) := by decide +kernel
theorem dX11_week_57 : decode cX11_week 57 = .ok (.iload_n 3, 1) := by decide +kernel
theorem dX11_week_58 : decode cX11_week 58 = .ok (.invokevirtual 238, 3) := by decide +kernel
theorem dX11_week_61 : decode cX11_week 61 = .ok (.checkcast 144, 3) := by decide +kernel
theorem dX11_week_64 : decode cX11_week 64 = .ok (.astore 4, 2) := by decide +kernel
theorem dX11_week_66 : decode cX11_week 66 = .ok (.aload_n 0, 1) := by decide +kernel
theorem dX11_week_67 : decode cX11_week 67 = .ok (.getfield 55, 3) := by decide +kernel
theorem dX11_week_70 : decode cX11_week 70 = .ok (.aload 4, 2) := by decide +kernel
theorem dX11_week_72 : decode cX11_week 72 = .ok (.getfield 440, 3) := by decide +kernel
theorem dX11_week_75 : decode cX11_week 75 = .ok (.aload_n 0, 1) := by decide +kernel
theorem dX11_week_76 : decode cX11_week 76 = .ok (.aload 4, 2) := by decide +kernel
theorem dX11_week_78 : decode cX11_week 78 = .ok (.invokevirtual 443, 3) := by decide +kernel
theorem dX11_week_81 : decode cX11_week 81 = .ok (.iconst (-1), 1) := by decide +kernel
theorem dX11_week_82 : decode cX11_week 82 = .ok (.iconst 1, 1) := by decide +kernel
theorem dX11_week_83 : decode cX11_week 83 = .ok (.invokevirtual 446, 3) := by decide +kernel
theorem dX11_week_86 : decode cX11_week 86 = .ok (.iinc 3 1, 3) := by decide +kernel
theorem dX11_week_89 : decode cX11_week 89 = .ok (.goto (-47), 3) := by decide +kernel
theorem dX11_week_92 : decode cX11_week 92 = .ok (.aload_n 0, 1) := by decide +kernel
theorem dX11_week_93 : decode cX11_week 93 = .ok (.getfield 55, 3) := by decide +kernel
theorem dX11_week_96 : decode cX11_week 96 = .ok (.invokevirtual 450, 3) := by decide +kernel
theorem dX11_week_99 : decode cX11_week 99 = .ok (.aload_n 0, 1) := by decide +kernel
theorem dX11_week_100 : decode cX11_week 100 = .ok (.aload_n 0, 1) := by decide +kernel
theorem dX11_week_101 : decode cX11_week 101 = .ok (.getfield 55, 3) := by decide +kernel
theorem dX11_week_104 : decode cX11_week 104 = .ok (.getfield 321, 3) := by decide +kernel
theorem dX11_week_107 : decode cX11_week 107 = .ok (.putfield 84, 3) := by decide +kernel
theorem dX11_week_110 : decode cX11_week 110 = .ok (.aload_n 0, 1) := by decide +kernel
theorem dX11_week_111 : decode cX11_week 111 = .ok (.aload_n 0, 1) := by decide +kernel
theorem dX11_week_112 : decode cX11_week 112 = .ok (.getfield 55, 3) := by decide +kernel
theorem dX11_week_115 : decode cX11_week 115 = .ok (.getfield 318, 3) := by decide +kernel
theorem dX11_week_118 : decode cX11_week 118 = .ok (.invokevirtual 453, 3) := by decide +kernel
theorem dX11_week_121 : decode cX11_week 121 = .ok (.aload_n 0, 1) := by decide +kernel
theorem dX11_week_122 : decode cX11_week 122 = .ok (.aload_n 0, 1) := by decide +kernel
theorem dX11_week_123 : decode cX11_week 123 = .ok (.getfield 55, 3) := by decide +kernel
theorem dX11_week_126 : decode cX11_week 126 = .ok (.getfield 324, 3) := by decide +kernel
theorem dX11_week_129 : decode cX11_week 129 = .ok (.invokevirtual 114, 3) := by decide +kernel
theorem dX11_week_132 : decode cX11_week 132 = .ok (.ireturn, 1) := by decide +kernel
def f_X11_week_b42 (ka : Nat → Nat) : Nat → TH → Nat → Int32 → Option (Int32 × TH)
  | 0, _, _, _ => none
  | n + 1, σ, l0, l3 => gt_ (kd_ σ l0 = 13) <| lt_ (fr_ σ 1218 l0) fun r17 => nn_ r17 fun a18 => gt_ (kd_ σ a18 = 1) <| bd_ (f_Jx4a65c_size_8abf5 σ a18) fun x19 s20 => if x19 ≤ l3 then (lt_ (fr_ s20 1210 l0) fun r21 => nn_ r21 fun a22 => gt_ (kd_ s20 a22 = 2) <| bd_ (f_X0_choose s20 a22) fun x23 s24 => lt_ (fr_ s24 1210 l0) fun r25 => nn_ r25 fun a26 => gt_ (kd_ s24 a26 = 2) <| lt_ (fi_ s24 110 a26) fun x27 => lt_ (si_ s24 1219 l0 x27) fun s28 => lt_ (fr_ s28 1210 l0) fun r29 => nn_ r29 fun a30 => gt_ (kd_ s28 a30 = 2) <| lt_ (fi_ s28 108 a30) fun x31 => bd_ (f_X11_keepChosen s28 l0 x31) fun x32 s33 => lt_ (fr_ s33 1210 l0) fun r34 => nn_ r34 fun a35 => gt_ (kd_ s33 a35 = 2) <| lt_ (fi_ s33 109 a35) fun x36 => bd_ (f_X11_granted s33 l0 x36) fun x37 s38 => some (x37, s38)) else (lt_ (fr_ s20 1218 l0) fun r39 => nn_ r39 fun a40 => gt_ (kd_ s20 a40 = 1) <| bd_ (f_Jx4a65c_get_915e3 s20 a40 l3) fun r41 s42 => gt_ (Option.elim r41 4 (kd_ s42) = 4) <| lt_ (fr_ s42 1210 l0) fun r43 => nn_ r41 fun a44 => gt_ (kd_ s42 a44 = 4) <| lt_ (fi_ s42 308 a44) fun x45 => bd_ (f_X11_hoursFor s42 l0 (some a44)) fun x46 s47 => nn_ r43 fun a48 => gt_ (kd_ s47 a48 = 2) <| bd_ (f_X0_offer s47 a48 x45 x46 (-1 : Int32) (1 : Int32)) fun x49 s50 => lt_ (l3 + 1) fun x51 => (f_X11_week_b42 ka n) s50 l0 x51)
set_option maxHeartbeats 4000000 in
set_option maxRecDepth 100000 in
theorem t_X11_week_b42 {l : Launch} {D : va_G} {cy : Nat → ClassId} {ka : Nat → Nat} {σ0 z : TH} {r : Int32}  : ∀ (n : Nat) (σ : TH) (l0 : Nat) (l3 : Int32), f_X11_week_b42 ka n σ l0 l3 = some (r, z) → v_ l D cy ka cX11_week RX11 5 (some FieldType.int) "week" 22 567 (qf_ D cy σ0 z (some (.int r))) σ0 z σ 42 [(0, va_rf (some l0)), (3, .int l3)] [] := by
  intro n
  induction n with
  | zero => intro σ l0 l3 hf; unfold f_X11_week_b42 at hf; cases hf
  | succ n ih =>
    intro σ l0 l3 hf
    unfold f_X11_week_b42 at hf
    have hrec_42 := ih
    refine v_iload_n (x := l3) dX11_week_42 rfl 1 rfl ?_
    refine v_aload_n (x := (some l0)) dX11_week_43 rfl 0 rfl ?_
    obtain ⟨hk_l0, hf⟩ := gt_of hf
    refine v_getr cb_12 hk_l0 18 1218 rfl (by decide) rfl (lk_n kw_257 rfl) hf dX11_week_44 (fun r17 hf => ?_)
    obtain ⟨a18, rfl, hf⟩ := nn_of hf
    obtain ⟨hk_a18, hf⟩ := gt_of hf
    obtain ⟨x19, s20, hcs20, hf⟩ := bd_of hf
    have hts20 := c_Jx4a65c_size_8abf5 (l := l) (D := D) (cy := cy) (ka := ka) hcs20
    refine v_callV cb_0 hk_a18 (As := []) (rest := [.int l3]) hts20 yb_Jx4a65c_size_8abf5 kw_311 kw_312 kw_313 rfl ⟨Nat.le_of_ble_eq_true rfl, Nat.le_of_ble_eq_true rfl⟩ rfl (cat_len (Nat.le_of_ble_eq_true rfl)) dX11_week_47 ?_
    have hk_l0 := tk_ hts20.1 hk_l0
    show v_ l D cy ka cX11_week RX11 5 (some FieldType.int) "week" 22 567 (qf_ D cy σ0 z (some (.int r))) σ0 z _ 50 [(0, va_rf (some l0)), (3, .int l3)] [.int x19, .int l3]
    refine v_icmp_ge (tgt := 92) hf dX11_week_50 (by decide) (fun hq hf => ?_) (fun hq hf => ?_)
    · refine v_aload_n (x := (some l0)) dX11_week_92 rfl 0 rfl ?_
      refine v_getr cb_12 hk_l0 10 1210 rfl (by decide) rfl (lk_n kw_249 rfl) hf dX11_week_93 (fun r21 hf => ?_)
      obtain ⟨a22, rfl, hf⟩ := nn_of hf
      obtain ⟨hk_a22, hf⟩ := gt_of hf
      obtain ⟨x23, s24, hcs24, hf⟩ := bd_of hf
      have hts24 := c_X0_choose (l := l) (D := D) (cy := cy) (ka := ka) hcs24
      refine v_callV cb_1 hk_a22 (As := []) (rest := []) hts24 yb_X0_choose kw_969 kw_970 kw_971 rfl ⟨Nat.le_of_ble_eq_true rfl, Nat.le_of_ble_eq_true rfl⟩ rfl (cat_len (Nat.le_of_ble_eq_true rfl)) dX11_week_96 ?_
      have hk_l0 := tk_ hts24.1 hk_l0
      show v_ l D cy ka cX11_week RX11 5 (some FieldType.int) "week" 22 567 (qf_ D cy σ0 z (some (.int r))) σ0 z _ 99 [(0, va_rf (some l0)), (3, .int l3)] []
      refine v_aload_n (x := (some l0)) dX11_week_99 rfl 0 rfl ?_
      refine v_aload_n (x := (some l0)) dX11_week_100 rfl 0 rfl ?_
      refine v_getr cb_12 hk_l0 10 1210 rfl (by decide) rfl (lk_n kw_249 rfl) hf dX11_week_101 (fun r25 hf => ?_)
      obtain ⟨a26, rfl, hf⟩ := nn_of hf
      obtain ⟨hk_a26, hf⟩ := gt_of hf
      refine v_geti cb_1 hk_a26 10 110 rfl (by decide) rfl (lk_n kw_211 rfl) hf dX11_week_104 (fun x27 hf => ?_)
      refine v_puti2 cb_12 hk_l0 19 1219 rfl (by decide) rfl (lk_n kw_258 rfl) (Or.inl rfl) rfl rfl hf dX11_week_107 (fun s28 hts28 hf => ?_)
      have hk_l0 := tk_ hts28 hk_l0
      refine v_aload_n (x := (some l0)) dX11_week_110 rfl 0 rfl ?_
      refine v_aload_n (x := (some l0)) dX11_week_111 rfl 0 rfl ?_
      refine v_getr cb_12 hk_l0 10 1210 rfl (by decide) rfl (lk_n kw_249 rfl) hf dX11_week_112 (fun r29 hf => ?_)
      obtain ⟨a30, rfl, hf⟩ := nn_of hf
      obtain ⟨hk_a30, hf⟩ := gt_of hf
      refine v_geti cb_1 hk_a30 8 108 rfl (by decide) rfl (lk_n kw_207 rfl) hf dX11_week_115 (fun x31 hf => ?_)
      obtain ⟨x32, s33, hcs33, hf⟩ := bd_of hf
      have hts33 := c_X11_keepChosen (l := l) (D := D) (cy := cy) (ka := ka) hcs33
      refine v_callV cb_12 hk_l0 (As := [.int x31]) (rest := []) hts33 yb_X11_keepChosen kw_1302 kw_1304 kp_72 rfl ⟨Nat.le_of_ble_eq_true rfl, Nat.le_of_ble_eq_true rfl⟩ rfl (cat_len (Nat.le_of_ble_eq_true rfl)) dX11_week_118 ?_
      have hk_l0 := tk_ hts33.1 hk_l0
      show v_ l D cy ka cX11_week RX11 5 (some FieldType.int) "week" 22 567 (qf_ D cy σ0 z (some (.int r))) σ0 z _ 121 [(0, va_rf (some l0)), (3, .int l3)] []
      refine v_aload_n (x := (some l0)) dX11_week_121 rfl 0 rfl ?_
      refine v_aload_n (x := (some l0)) dX11_week_122 rfl 0 rfl ?_
      refine v_getr cb_12 hk_l0 10 1210 rfl (by decide) rfl (lk_n kw_249 rfl) hf dX11_week_123 (fun r34 hf => ?_)
      obtain ⟨a35, rfl, hf⟩ := nn_of hf
      obtain ⟨hk_a35, hf⟩ := gt_of hf
      refine v_geti cb_1 hk_a35 9 109 rfl (by decide) rfl (lk_n kw_209 rfl) hf dX11_week_126 (fun x36 hf => ?_)
      obtain ⟨x37, s38, hcs38, hf⟩ := bd_of hf
      have hts38 := c_X11_granted (l := l) (D := D) (cy := cy) (ka := ka) hcs38
      refine v_callV cb_12 hk_l0 (As := [.int x36]) (rest := []) hts38 yb_X11_granted kw_395 kw_397 kp_4 rfl ⟨Nat.le_of_ble_eq_true rfl, Nat.le_of_ble_eq_true rfl⟩ rfl (cat_len (Nat.le_of_ble_eq_true rfl)) dX11_week_129 ?_
      have hk_l0 := tk_ hts38.1 hk_l0
      show v_ l D cy ka cX11_week RX11 5 (some FieldType.int) "week" 22 567 (qf_ D cy σ0 z (some (.int r))) σ0 z _ 132 [(0, va_rf (some l0)), (3, .int l3)] [.int x37]
      exact v_iret hf dX11_week_132
    · refine v_aload_n (x := (some l0)) dX11_week_53 rfl 0 rfl ?_
      refine v_getr cb_12 hk_l0 18 1218 rfl (by decide) rfl (lk_n kw_257 rfl) hf dX11_week_54 (fun r39 hf => ?_)
      refine v_iload_n (x := l3) dX11_week_57 rfl 1 rfl ?_
      obtain ⟨a40, rfl, hf⟩ := nn_of hf
      obtain ⟨hk_a40, hf⟩ := gt_of hf
      obtain ⟨r41, s42, hcs42, hf⟩ := bd_of hf
      have hts42 := c_Jx4a65c_get_915e3 (l := l) (D := D) (cy := cy) (ka := ka) hcs42
      refine v_callV cb_0 hk_a40 (As := [.int l3]) (rest := []) hts42 yb_Jx4a65c_get_915e3 kw_407 kw_408 kw_409 rfl ⟨Nat.le_of_ble_eq_true rfl, Nat.le_of_ble_eq_true rfl⟩ rfl (cat_len (Nat.le_of_ble_eq_true rfl)) dX11_week_58 ?_
      have hk_l0 := tk_ hts42.1 hk_l0
      show v_ l D cy ka cX11_week RX11 5 (some FieldType.int) "week" 22 567 (qf_ D cy σ0 z (some (.int r))) σ0 z _ 61 [(0, va_rf (some l0)), (3, .int l3)] [va_rf r41]
      refine v_cast cb_3 4 rfl kw_441 hf dX11_week_61 (fun hf => ?_)
      refine v_astore [(4, va_rf r41), (0, va_rf (some l0)), (3, .int l3)] dX11_week_64 (by decide) rfl ?_
      refine v_aload_n (x := (some l0)) dX11_week_66 rfl 1 rfl ?_
      refine v_getr cb_12 hk_l0 10 1210 rfl (by decide) rfl (lk_n kw_249 rfl) hf dX11_week_67 (fun r43 hf => ?_)
      refine v_aload (x := r41) dX11_week_70 0 rfl ?_
      obtain ⟨a44, rfl, hf⟩ := nn_of hf
      obtain ⟨hk_a44, hf⟩ := gt_of hf
      refine v_geti cb_3 hk_a44 8 308 rfl (by decide) rfl (lk_n kw_481 rfl) hf dX11_week_72 (fun x45 hf => ?_)
      refine v_aload_n (x := (some l0)) dX11_week_75 rfl 1 rfl ?_
      refine v_aload (x := (some a44)) dX11_week_76 0 rfl ?_
      obtain ⟨x46, s47, hcs47, hf⟩ := bd_of hf
      have hts47 := c_X11_hoursFor (l := l) (D := D) (cy := cy) (ka := ka) hcs47
      refine v_callV cb_12 hk_l0 (As := [va_rf (some a44)]) (rest := [.int x45, va_rf r43]) hts47 yb_X11_hoursFor kw_1298 kw_1300 kp_71 rfl ⟨Nat.le_of_ble_eq_true rfl, Nat.le_of_ble_eq_true rfl⟩ rfl (cat_len (Nat.le_of_ble_eq_true rfl)) dX11_week_78 ?_
      have hk_l0 := tk_ hts47.1 hk_l0
      have hk_a44 := tk_ hts47.1 hk_a44
      show v_ l D cy ka cX11_week RX11 5 (some FieldType.int) "week" 22 567 (qf_ D cy σ0 z (some (.int r))) σ0 z _ 81 [(4, va_rf (some a44)), (0, va_rf (some l0)), (3, .int l3)] [.int x46, .int x45, va_rf r43]
      refine v_iconst (v := (-1)) dX11_week_81 (by decide) ?_
      refine v_iconst (v := 1) dX11_week_82 (by decide) ?_
      obtain ⟨a48, rfl, hf⟩ := nn_of hf
      obtain ⟨hk_a48, hf⟩ := gt_of hf
      obtain ⟨x49, s50, hcs50, hf⟩ := bd_of hf
      have hts50 := c_X0_offer (l := l) (D := D) (cy := cy) (ka := ka) hcs50
      refine v_callV cb_1 hk_a48 (As := [.int x45, .int x46, .int (-1 : Int32), .int (1 : Int32)]) (rest := []) hts50 yb_X0_offer kw_965 kw_966 kw_967 rfl ⟨Nat.le_of_ble_eq_true rfl, Nat.le_of_ble_eq_true rfl⟩ rfl (cat_len (Nat.le_of_ble_eq_true rfl)) dX11_week_83 ?_
      have hk_l0 := tk_ hts50.1 hk_l0
      have hk_a44 := tk_ hts50.1 hk_a44
      show v_ l D cy ka cX11_week RX11 5 (some FieldType.int) "week" 22 567 (qf_ D cy σ0 z (some (.int r))) σ0 z _ 86 [(4, va_rf (some a44)), (0, va_rf (some l0)), (3, .int l3)] []
      obtain ⟨x51, ex51⟩ : ∃ y : Int32, y = l3 + 1 := ⟨_, rfl⟩
      rw [lt_e, ← ex51] at hf
      refine v_iinc (v := x51) [(3, .int x51), (4, va_rf (some a44)), (0, va_rf (some l0))] dX11_week_86 2 rfl (by rw [ex51]; rfl) (by decide) rfl ?_
      refine v_goto (tgt := 42) dX11_week_89 (by decide) ?_
      refine v_sub [2, 0] (L2 := [(0, va_rf (some l0)), (3, .int x51)]) rfl ?_
      exact hrec_42 _ _ _ hf
/-- LivesAhead.week(I)I -/
def f_X11_week (ka : Nat → Nat) (σ : TH) (p0 : Nat) (p1 : Int32) : Option (Int32 × TH) :=
  gt_ (kd_ σ p0 = 13) <| bd_ (f_X11_livingWriter σ p0 p1) fun r1 s2 => oc_ r1 (bd_ (f_X11_refused s2 p0 (1 : Int32)) fun x4 s5 => some (x4, s5)) (fun a3 => lt_ (fr_ s2 1218 p0) fun r6 => nn_ r6 fun a7 => gt_ (kd_ s2 a7 = 1) <| bd_ (f_Jx4a65c_clear_da8c8 s2 a7) fun x8 s9 => bd_ (f_X11_gatherStories ka s9 p0 p1) fun x10 s11 => lt_ (fr_ s11 1210 p0) fun r12 => gt_ (kd_ s11 a3 = 12) <| lt_ (fi_ s11 1100 a3) fun x13 => nn_ r12 fun a14 => gt_ (kd_ s11 a14 = 2) <| bd_ (f_X0_begin s11 a14 x13 (0 : Int32)) fun x15 s16 => f_X11_week_b42 ka fu_ s16 p0 (0 : Int32))
set_option maxHeartbeats 4000000 in
set_option maxRecDepth 100000 in
theorem c_X11_week {l : Launch} {D : va_G} {cy : Nat → ClassId} {ka : Nat → Nat} {σ z : TH} {p0 : Nat} {p1 : Int32} {r : Int32} (hf : f_X11_week ka σ p0 p1 = some (r, z)) : ct_ l D cy ka yX11_week 22 567 [va_rf (some p0), .int p1] σ (some (.int r)) z := by
  unfold f_X11_week at hf
  refine v_start (cc := cX11_week) (own := RX11) (maxL := 5) (ret := (some FieldType.int)) (nm := "week") (by decide +kernel) kw_1270 rfl rfl (by simp [lg_sl, va_rf_cat, cat_i, cat_l]) ?_
  refine v_eqL (L2 := [(0, va_rf (some p0)), (1, .int p1)]) (by simp [lv_args, va_rf_cat, cat_i, cat_l]) ?_
  refine v_aload_n (x := (some p0)) dX11_week_0 rfl 0 rfl ?_
  refine v_iload_n (x := p1) dX11_week_1 rfl 1 rfl ?_
  obtain ⟨hk_p0, hf⟩ := gt_of hf
  obtain ⟨r1, s2, hcs2, hf⟩ := bd_of hf
  have hts2 := c_X11_livingWriter (l := l) (D := D) (cy := cy) (ka := ka) hcs2
  refine v_callV cb_12 hk_p0 (As := [.int p1]) (rest := []) hts2 yb_X11_livingWriter kw_403 kw_405 kp_5 rfl ⟨Nat.le_of_ble_eq_true rfl, Nat.le_of_ble_eq_true rfl⟩ rfl (cat_len (Nat.le_of_ble_eq_true rfl)) dX11_week_2 ?_
  have hk_p0 := tk_ hts2.1 hk_p0
  show v_ l D cy ka cX11_week RX11 5 (some FieldType.int) "week" 22 567 (qf_ D cy σ z (some (.int r))) σ z _ 5 [(0, va_rf (some p0)), (1, .int p1)] [va_rf r1]
  refine v_astore_n [(2, va_rf r1), (0, va_rf (some p0)), (1, .int p1)] dX11_week_5 rfl (by decide) rfl ?_
  refine v_aload_n (x := r1) dX11_week_6 rfl 0 rfl ?_
  refine v_ifnonnull2 (tgt := 16) hf dX11_week_7 (by decide) (fun e9 hf9 => ?_) (fun a3 e9 hf9 => ?_)
  · subst e9
    replace hf := hf9
    clear hf9
    refine v_aload_n (x := (some p0)) dX11_week_10 rfl 1 rfl ?_
    refine v_iconst (v := 1) dX11_week_11 (by decide) ?_
    obtain ⟨x4, s5, hcs5, hf⟩ := bd_of hf
    have hts5 := c_X11_refused (l := l) (D := D) (cy := cy) (ka := ka) hcs5
    refine v_callV cb_12 hk_p0 (As := [.int (1 : Int32)]) (rest := []) hts5 yb_X11_refused kw_307 kw_309 kp_0 rfl ⟨Nat.le_of_ble_eq_true rfl, Nat.le_of_ble_eq_true rfl⟩ rfl (cat_len (Nat.le_of_ble_eq_true rfl)) dX11_week_12 ?_
    have hk_p0 := tk_ hts5.1 hk_p0
    show v_ l D cy ka cX11_week RX11 5 (some FieldType.int) "week" 22 567 (qf_ D cy σ z (some (.int r))) σ z _ 15 [(2, va_rf none), (0, va_rf (some p0)), (1, .int p1)] [.int x4]
    exact v_iret hf dX11_week_15
  · subst e9
    replace hf := hf9
    clear hf9
    refine v_aload_n (x := (some p0)) dX11_week_16 rfl 1 rfl ?_
    refine v_getr cb_12 hk_p0 18 1218 rfl (by decide) rfl (lk_n kw_257 rfl) hf dX11_week_17 (fun r6 hf => ?_)
    obtain ⟨a7, rfl, hf⟩ := nn_of hf
    obtain ⟨hk_a7, hf⟩ := gt_of hf
    obtain ⟨x8, s9, hcs9, hf⟩ := bd_of hf
    have hts9 := c_Jx4a65c_clear_da8c8 (l := l) (D := D) (cy := cy) (ka := ka) hcs9
    refine v_callV cb_0 hk_a7 (As := []) (rest := []) hts9 yb_Jx4a65c_clear_da8c8 kw_1271 kw_1272 kw_1273 rfl ⟨Nat.le_of_ble_eq_true rfl, Nat.le_of_ble_eq_true rfl⟩ rfl (cat_len (Nat.le_of_ble_eq_true rfl)) dX11_week_20 ?_
    have hk_p0 := tk_ hts9.1 hk_p0
    show v_ l D cy ka cX11_week RX11 5 (some FieldType.int) "week" 22 567 (qf_ D cy σ z (some (.int r))) σ z _ 23 [(2, va_rf (some a3)), (0, va_rf (some p0)), (1, .int p1)] []
    refine v_aload_n (x := (some p0)) dX11_week_23 rfl 1 rfl ?_
    refine v_iload_n (x := p1) dX11_week_24 rfl 2 rfl ?_
    obtain ⟨x10, s11, hcs11, hf⟩ := bd_of hf
    have hts11 := c_X11_gatherStories (l := l) (D := D) (cy := cy) (ka := ka) hcs11
    refine v_callV cb_12 hk_p0 (As := [.int p1]) (rest := []) hts11 yb_X11_gatherStories kw_1275 kw_1277 kp_68 rfl ⟨Nat.le_of_ble_eq_true rfl, Nat.le_of_ble_eq_true rfl⟩ rfl (cat_len (Nat.le_of_ble_eq_true rfl)) dX11_week_25 ?_
    have hk_p0 := tk_ hts11.1 hk_p0
    show v_ l D cy ka cX11_week RX11 5 (some FieldType.int) "week" 22 567 (qf_ D cy σ z (some (.int r))) σ z _ 28 [(2, va_rf (some a3)), (0, va_rf (some p0)), (1, .int p1)] []
    refine v_aload_n (x := (some p0)) dX11_week_28 rfl 1 rfl ?_
    refine v_getr cb_12 hk_p0 10 1210 rfl (by decide) rfl (lk_n kw_249 rfl) hf dX11_week_29 (fun r12 hf => ?_)
    refine v_aload_n (x := (some a3)) dX11_week_32 rfl 0 rfl ?_
    obtain ⟨hk_a3, hf⟩ := gt_of hf
    refine v_geti cb_11 hk_a3 0 1100 rfl (by decide) rfl (lk_n kw_322 rfl) hf dX11_week_33 (fun x13 hf => ?_)
    refine v_iconst (v := 0) dX11_week_36 (by decide) ?_
    obtain ⟨a14, rfl, hf⟩ := nn_of hf
    obtain ⟨hk_a14, hf⟩ := gt_of hf
    obtain ⟨x15, s16, hcs16, hf⟩ := bd_of hf
    have hts16 := c_X0_begin (l := l) (D := D) (cy := cy) (ka := ka) hcs16
    refine v_callV cb_1 hk_a14 (As := [.int x13, .int (0 : Int32)]) (rest := []) hts16 yb_X0_begin kw_961 kw_962 kw_963 rfl ⟨Nat.le_of_ble_eq_true rfl, Nat.le_of_ble_eq_true rfl⟩ rfl (cat_len (Nat.le_of_ble_eq_true rfl)) dX11_week_37 ?_
    have hk_p0 := tk_ hts16.1 hk_p0
    have hk_a3 := tk_ hts16.1 hk_a3
    show v_ l D cy ka cX11_week RX11 5 (some FieldType.int) "week" 22 567 (qf_ D cy σ z (some (.int r))) σ z _ 40 [(2, va_rf (some a3)), (0, va_rf (some p0)), (1, .int p1)] []
    refine v_iconst (v := 0) dX11_week_40 (by decide) ?_
    refine v_istore_n [(3, .int (0 : Int32)), (2, va_rf (some a3)), (0, va_rf (some p0)), (1, .int p1)] dX11_week_41 rfl (by decide) rfl ?_
    refine v_sub [2, 0] (L2 := [(0, va_rf (some p0)), (3, .int (0 : Int32))]) rfl ?_
    exact t_X11_week_b42  _ _ _ _ hf
