/-! Functions over the typed heap and contracts, by wip/gen/gen.py: X15_next X15_prints X15_printsNumber X15_stop X15_fitsTo X15_personOf X15_speaksOf X15_hoursSince X15_reportsBy X15_openOn X15_isPlain X15_starts X15_cutLong X15_cutOf X12_init X15_bestPicture X15_editionOf X15_embargo X15_many -/
theorem dX15_next_0 : decode cX15_next 0 = .ok (.aload_n 0, 1) := by decide +kernel
theorem dX15_next_1 : decode cX15_next 1 = .ok (.aload_n 0, 1) := by decide +kernel
theorem dX15_next_2 : decode cX15_next 2 = .ok (.getfield 289, 3) := by decide +kernel
theorem dX15_next_5 : decode cX15_next 5 = .ok (.invokevirtual 292, 3) := by decide +kernel
theorem dX15_next_8 : decode cX15_next 8 = .ok (.bipush 32, 2) := by decide +kernel
theorem dX15_next_10 : decode cX15_next 10 = .ok (.if_icmp .ne 16, 3) := by decide +kernel
theorem dX15_next_13 : decode cX15_next 13 = .ok (.aload_n 0, 1) := by decide +kernel
theorem dX15_next_14 : decode cX15_next 14 = .ok (.dup, 1) := by decide +kernel
theorem dX15_next_15 : decode cX15_next 15 = .ok (.getfield 289, 3) := by decide +kernel
theorem dX15_next_18 : decode cX15_next 18 = .ok (.iconst 1, 1) := by decide +kernel
theorem dX15_next_19 : decode cX15_next 19 = .ok (.iadd, 1) := by decide +kernel
theorem dX15_next_20 : decode cX15_next 20 = .ok (.putfield 289, 3) := by decide +kernel
theorem dX15_next_23 : decode cX15_next 23 = .ok (.goto (-23), 3) := by decide +kernel
theorem dX15_next_26 : decode cX15_next 26 = .ok (.aload_n 0, 1) := by decide +kernel
theorem dX15_next_27 : decode cX15_next 27 = .ok (.aload_n 0, 1) := by decide +kernel
theorem dX15_next_28 : decode cX15_next 28 = .ok (.getfield 289, 3) := by decide +kernel
theorem dX15_next_31 : decode cX15_next 31 = .ok (.putfield 295, 3) := by decide +kernel
theorem dX15_next_34 : decode cX15_next 34 = .ok (.aload_n 0, 1) := by decide +kernel
theorem dX15_next_35 : decode cX15_next 35 = .ok (.iconst 0, 1) := by decide +kernel
theorem dX15_next_36 : decode cX15_next 36 = .ok (.putfield 296, 3) := by decide +kernel
theorem dX15_next_39 : decode cX15_next 39 = .ok (.aload_n 0, 1) := by decide +kernel
theorem dX15_next_40 : decode cX15_next 40 = .ok (.iconst 0, 1) := by decide +kernel
theorem dX15_next_41 : decode cX15_next 41 = .ok (.putfield 299, 3) := by decide +kernel
theorem dX15_next_44 : decode cX15_next 44 = .ok (.aload_n 0, 1) := by decide +kernel
theorem dX15_next_45 : decode cX15_next 45 = .ok (.aload_n 0, 1) := by decide +kernel
theorem dX15_next_46 : decode cX15_next 46 = .ok (.getfield 289, 3) := by decide +kernel
theorem dX15_next_49 : decode cX15_next 49 = .ok (.invokevirtual 292, 3) := by decide +kernel
theorem dX15_next_52 : decode cX15_next 52 = .ok (.istore_n 1, 1) := by decide +kernel
theorem dX15_next_53 : decode cX15_next 53 = .ok (.iconst 0, 1) := by decide +kernel
theorem dX15_next_54 : decode cX15_next 54 = .ok (.istore_n 2, 1) := by decide +kernel
theorem dX15_next_55 : decode cX15_next 55 = .ok (.iload_n 1, 1) := by decide +kernel
theorem dX15_next_56 : decode cX15_next 56 = .ok (.iconst (-1), 1) := by decide +kernel
theorem dX15_next_57 : decode cX15_next 57 = .ok (.if_icmp .ne 11, 3) := by decide +kernel
theorem dX15_next_60 : decode cX15_next 60 = .ok (.aload_n 0, 1) := by decide +kernel
theorem dX15_next_61 : decode cX15_next 61 = .ok (.iconst 1, 1) := by decide +kernel
theorem dX15_next_62 : decode cX15_next 62 = .ok (.putfield 296, 3) := by decide +kernel
theorem dX15_next_65 : decode cX15_next 65 = .ok (.goto 246, 3) := by decide +kernel
theorem dX15_next_68 : decode cX15_next 68 = .ok (.iload_n 1, 1) := by decide +kernel
theorem dX15_next_69 : decode cX15_next 69 = .ok (.invokestatic 302, 3) := by decide +kernel
theorem dX15_next_72 : decode cX15_next 72 = .ok (.ifCond .eq 129, 3) := by decide +kernel
theorem dX15_next_75 : decode cX15_next 75 = .ok (.aload_n 0, 1) := by decide +kernel
theorem dX15_next_76 : decode cX15_next 76 = .ok (.lconst 0, 1) := by decide +kernel
theorem dX15_next_77 : decode cX15_next 77 = .ok (.putfield 305, 3) := by decide +kernel
theorem dX15_next_80 : decode cX15_next 80 = .ok (.aload_n 0, 1) := by decide +kernel
theorem dX15_next_81 : decode cX15_next 81 = .ok (.aload_n 0, 1) := by decide +kernel
theorem dX15_next_82 : decode cX15_next 82 = .ok (.getfield 289, 3) := by decide +kernel
theorem dX15_next_85 : decode cX15_next 85 = .ok (.invokevirtual 292, 3) := by decide +kernel
theorem dX15_next_88 : decode cX15_next 88 = .ok (.invokestatic 302, 3) := by decide +kernel
theorem dX15_next_91 : decode cX15_next 91 = .ok (.ifCond .eq 52, 3) := by decide +kernel
theorem dX15_next_94 : decode cX15_next 94 = .ok (.iload_n 2, 1) := by decide +kernel
theorem dX15_next_95 : decode cX15_next 95 = .ok (.bipush 8, 2) := by decide +kernel
theorem dX15_next_97 : decode cX15_next 97 = .ok (.if_icmp .ge 30, 3) := by decide +kernel
theorem dX15_next_100 : decode cX15_next 100 = .ok (.aload_n 0, 1) := by decide +kernel
theorem dX15_next_101 : decode cX15_next 101 = .ok (.ldc2_w 283, 3) := by decide +kernel
theorem dX15_next_104 : decode cX15_next 104 = .ok (.aload_n 0, 1) := by decide +kernel
theorem dX15_next_105 : decode cX15_next 105 = .ok (.getfield 305, 3) := by decide +kernel
theorem dX15_next_108 : decode cX15_next 108 = .ok (.lmul, 1) := by decide +kernel
theorem dX15_next_109 : decode cX15_next 109 = .ok (.aload_n 0, 1) := by decide +kernel
theorem dX15_next_110 : decode cX15_next 110 = .ok (.aload_n 0, 1) := by decide +kernel
theorem dX15_next_111 : decode cX15_next 111 = .ok (.getfield 289, 3) := by decide +kernel
theorem dX15_next_114 : decode cX15_next 114 = .ok (.invokevirtual 292, 3) := by decide +kernel
theorem dX15_next_117 : decode cX15_next 117 = .ok (.bipush 97, 2) := by decide +kernel
theorem dX15_next_119 : decode cX15_next 119 = .ok (.isub, 1) := by decide +kernel
theorem dX15_next_120 : decode cX15_next 120 = .ok (.iconst 1, 1) := by decide +kernel
theorem dX15_next_121 : decode cX15_next 121 = .ok (.iadd, 1) := by decide +kernel
theorem dX15_next_122 : decode cX15_next 122 = .ok (.i2l, 1) := by decide +kernel
theorem dX15_next_123 : decode cX15_next 123 = .ok (.ladd, 1) := by decide +kernel
theorem dX15_next_124 : decode cX15_next 124 = .ok (.putfield 305, 3) := by decide +kernel
theorem dX15_next_127 : decode cX15_next 127 = .ok (.iinc 2 1, 3) := by decide +kernel
theorem dX15_next_130 : decode cX15_next 130 = .ok (.aload_n 0, 1) := by decide +kernel
theorem dX15_next_131 : decode cX15_next 131 = .ok (.dup, 1) := by decide +kernel
theorem dX15_next_132 : decode cX15_next 132 = .ok (.getfield 289, 3) := by decide +kernel
theorem dX15_next_135 : decode cX15_next 135 = .ok (.iconst 1, 1) := by decide +kernel
theorem dX15_next_136 : decode cX15_next 136 = .ok (.iadd, 1) := by decide +kernel
theorem dX15_next_137 : decode cX15_next 137 = .ok (.putfield 289, 3) := by decide +kernel
theorem dX15_next_140 : decode cX15_next 140 = .ok (.goto (-60), 3) := by decide +kernel
theorem dX15_next_143 : decode cX15_next 143 = .ok (.aload_n 0, 1) := by decide +kernel
theorem dX15_next_144 : decode cX15_next 144 = .ok (.iconst (-1), 1) := by decide +kernel
theorem dX15_next_145 : decode cX15_next 145 = .ok (.putfield 309, 3) := by decide +kernel
theorem dX15_next_148 : decode cX15_next 148 = .ok (.aload_n 0, 1) := by decide +kernel
theorem dX15_next_149 : decode cX15_next 149 = .ok (.aload_n 0, 1) := by decide +kernel
theorem dX15_next_150 : decode cX15_next 150 = .ok (.getfield 289, 3) := by decide +kernel
theorem dX15_next_153 : decode cX15_next 153 = .ok (.invokevirtual 292, 3) := by decide +kernel
theorem dX15_next_156 : decode cX15_next 156 = .ok (.invokestatic 312, 3) := by decide +kernel
theorem dX15_next_159 : decode cX15_next 159 = .ok (.ifCond .eq 28, 3) := by decide +kernel
theorem dX15_next_162 : decode cX15_next 162 = .ok (.aload_n 0, 1) := by decide +kernel
theorem dX15_next_163 : decode cX15_next 163 = .ok (.aload_n 0, 1) := by decide +kernel
theorem dX15_next_164 : decode cX15_next 164 = .ok (.aload_n 0, 1) := by decide +kernel
theorem dX15_next_165 : decode cX15_next 165 = .ok (.getfield 289, 3) := by decide +kernel
theorem dX15_next_168 : decode cX15_next 168 = .ok (.invokevirtual 292, 3) := by decide +kernel
theorem dX15_next_171 : decode cX15_next 171 = .ok (.bipush 48, 2) := by decide +kernel
theorem dX15_next_173 : decode cX15_next 173 = .ok (.isub, 1) := by decide +kernel
theorem dX15_next_174 : decode cX15_next 174 = .ok (.putfield 309, 3) := by decide +kernel
theorem dX15_next_177 : decode cX15_next 177 = .ok (.aload_n 0, 1) := by decide +kernel
theorem dX15_next_178 : decode cX15_next 178 = .ok (.dup, 1) := by decide +kernel
theorem dX15_next_179 : decode cX15_next 179 = .ok (.getfield 289, 3) := by decide +kernel
theorem dX15_next_182 : decode cX15_next 182 = .ok (.iconst 1, 1) := by decide +kernel
theorem dX15_next_183 : decode cX15_next 183 = .ok (.iadd, 1) := by decide +kernel
theorem dX15_next_184 : decode cX15_next 184 = .ok (.putfield 289, 3) := by decide +kernel
theorem dX15_next_187 : decode cX15_next 187 = .ok (.iload_n 2, 1) := by decide +kernel
theorem dX15_next_188 : decode cX15_next 188 = .ok (.bipush 8, 2) := by decide +kernel
theorem dX15_next_190 : decode cX15_next 190 = .ok (.if_icmp .gt 121, 3) := by decide +kernel
theorem dX15_next_193 : decode cX15_next 193 = .ok (.aload_n 0, 1) := by decide +kernel
theorem dX15_next_194 : decode cX15_next 194 = .ok (.iconst 2, 1) := by decide +kernel
theorem dX15_next_195 : decode cX15_next 195 = .ok (.putfield 296, 3) := by decide +kernel
theorem dX15_next_198 : decode cX15_next 198 = .ok (.goto 113, 3) := by decide +kernel
theorem dX15_next_201 : decode cX15_next 201 = .ok (.iload_n 1, 1) := by decide +kernel
theorem dX15_next_202 : decode cX15_next 202 = .ok (.invokestatic 312, 3) := by decide +kernel
theorem dX15_next_205 : decode cX15_next 205 = .ok (.ifCond .eq 79, 3) := by decide +kernel
theorem dX15_next_208 : decode cX15_next 208 = .ok (.aload_n 0, 1) := by decide +kernel
theorem dX15_next_209 : decode cX15_next 209 = .ok (.iconst 0, 1) := by decide +kernel
theorem dX15_next_210 : decode cX15_next 210 = .ok (.putfield 315, 3) := by decide +kernel
theorem dX15_next_213 : decode cX15_next 213 = .ok (.aload_n 0, 1) := by decide +kernel
theorem dX15_next_214 : decode cX15_next 214 = .ok (.aload_n 0, 1) := by decide +kernel
theorem dX15_next_215 : decode cX15_next 215 = .ok (.getfield 289, 3) := by decide +kernel
theorem dX15_next_218 : decode cX15_next 218 = .ok (.invokevirtual 292, 3) := by decide +kernel
theorem dX15_next_221 : decode cX15_next 221 = .ok (.invokestatic 312, 3) := by decide +kernel
theorem dX15_next_224 : decode cX15_next 224 = .ok (.ifCond .eq 47, 3) := by decide +kernel
theorem dX15_next_227 : decode cX15_next 227 = .ok (.iload_n 2, 1) := by decide +kernel
theorem dX15_next_228 : decode cX15_next 228 = .ok (.iconst 4, 1) := by decide +kernel
theorem dX15_next_229 : decode cX15_next 229 = .ok (.if_icmp .ge 26, 3) := by decide +kernel
theorem dX15_next_232 : decode cX15_next 232 = .ok (.aload_n 0, 1) := by decide +kernel
theorem dX15_next_233 : decode cX15_next 233 = .ok (.bipush 10, 2) := by decide +kernel
theorem dX15_next_235 : decode cX15_next 235 = .ok (.aload_n 0, 1) := by decide +kernel
theorem dX15_next_236 : decode cX15_next 236 = .ok (.getfield 315, 3) := by decide +kernel
theorem dX15_next_239 : decode cX15_next 239 = .ok (.imul, 1) := by decide +kernel
theorem dX15_next_240 : decode cX15_next 240 = .ok (.aload_n 0, 1) := by decide +kernel
theorem dX15_next_241 : decode cX15_next 241 = .ok (.aload_n 0, 1) := by decide +kernel
theorem dX15_next_242 : decode cX15_next 242 = .ok (.getfield 289, 3) := by decide +kernel
theorem dX15_next_245 : decode cX15_next 245 = .ok (.invokevirtual 292, 3) := by decide +kernel
theorem dX15_next_248 : decode cX15_next 248 = .ok (.iadd, 1) := by decide +kernel
theorem dX15_next_249 : decode cX15_next 249 = .ok (.bipush 48, 2) := by decide +kernel
theorem dX15_next_251 : decode cX15_next 251 = .ok (.isub, 1) := by decide +kernel
theorem dX15_next_252 : decode cX15_next 252 = .ok (.putfield 315, 3) := by decide +kernel
theorem dX15_next_255 : decode cX15_next 255 = .ok (.iinc 2 1, 3) := by decide +kernel
theorem dX15_next_258 : decode cX15_next 258 = .ok (.aload_n 0, 1) := by decide +kernel
theorem dX15_next_259 : decode cX15_next 259 = .ok (.dup, 1) := by decide +kernel
theorem dX15_next_260 : decode cX15_next 260 = .ok (.getfield 289, 3) := by decide +kernel
theorem dX15_next_263 : decode cX15_next 263 = .ok (.iconst 1, 1) := by decide +kernel
theorem dX15_next_264 : decode cX15_next 264 = .ok (.iadd, 1) := by decide +kernel
theorem dX15_next_265 : decode cX15_next 265 = .ok (.putfield 289, 3) := by decide +kernel
theorem dX15_next_268 : decode cX15_next 268 = .ok (.goto (-55), 3) := by decide +kernel
theorem dX15_next_271 : decode cX15_next 271 = .ok (.iload_n 2, 1) := by decide +kernel
theorem dX15_next_272 : decode cX15_next 272 = .ok (.iconst 5, 1) := by decide +kernel
theorem dX15_next_273 : decode cX15_next 273 = .ok (.if_icmp .ge 38, 3) := by decide +kernel
theorem dX15_next_276 : decode cX15_next 276 = .ok (.aload_n 0, 1) := by decide +kernel
theorem dX15_next_277 : decode cX15_next 277 = .ok (.iconst 3, 1) := by decide +kernel
theorem dX15_next_278 : decode cX15_next 278 = .ok (.putfield 296, 3) := by decide +kernel
theorem dX15_next_281 : decode cX15_next 281 = .ok (.goto 30, 3) := by decide +kernel
theorem dX15_next_284 : decode cX15_next 284 = .ok (.iload_n 1, 1) := by decide +kernel
theorem dX15_next_285 : decode cX15_next 285 = .ok (.invokestatic 318, 3) := by decide +kernel
theorem dX15_next_288 : decode cX15_next 288 = .ok (.ifCond .eq 23, 3) := by decide +kernel
theorem dX15_next_291 : decode cX15_next 291 = .ok (.aload_n 0, 1) := by decide +kernel
theorem dX15_next_292 : decode cX15_next 292 = .ok (.iconst 4, 1) := by decide +kernel
theorem dX15_next_293 : decode cX15_next 293 = .ok (.putfield 296, 3) := by decide +kernel
theorem dX15_next_296 : decode cX15_next 296 = .ok (.aload_n 0, 1) := by decide +kernel
theorem dX15_next_297 : decode cX15_next 297 = .ok (.iload_n 1, 1) := by decide +kernel
theorem dX15_next_298 : decode cX15_next 298 = .ok (.putfield 299, 3) := by decide +kernel
theorem dX15_next_301 : decode cX15_next 301 = .ok (.aload_n 0, 1) := by decide +kernel
theorem dX15_next_302 : decode cX15_next 302 = .ok (.dup, 1) := by decide +kernel
theorem dX15_next_303 : decode cX15_next 303 = .ok (.getfield 289, 3) := by decide +kernel
theorem dX15_next_306 : decode cX15_next 306 = .ok (.iconst 1, 1) := by decide +kernel
theorem dX15_next_307 : decode cX15_next 307 = .ok (.iadd, 1) := by decide +kernel
theorem dX15_next_308 : decode cX15_next 308 = .ok (.putfield 289, 3) := by decide +kernel
theorem dX15_next_311 : decode cX15_next 311 = .ok (.return_, 1) := by decide +kernel
def f_X15_next_b311 (σ : TH) : Option (Unit × TH) :=
  some ((), σ)
set_option maxHeartbeats 4000000 in
set_option maxRecDepth 100000 in
theorem t_X15_next_b311 {l : Launch} {D : va_G} {cy : Nat → ClassId} {ka : Nat → Nat} {σ0 z : TH} {r : Unit}  {σ : TH}  (hf : f_X15_next_b311 σ  = some (r, z)) : v_ l D cy ka cX15_next RX15 3 none "next" 1 21 (qf_ D cy σ0 z none) σ0 z σ 311 [] [] := by
  unfold f_X15_next_b311 at hf
  exact v_vret hf dX15_next_311
def f_X15_next_b255 (rec_213 : TH → Nat → Int32 → Option (Unit × TH)) (σ : TH) (l0 : Nat) (l2 : Int32) : Option (Unit × TH) :=
  lt_ (l2 + 1) fun x31 => gt_ (kd_ σ l0 = 17) <| lt_ (fi_ σ 1632 l0) fun x32 => lt_ (si_ σ 1632 l0 (x32 + (1 : Int32))) fun s33 => rec_213 s33 l0 x31
set_option maxHeartbeats 4000000 in
set_option maxRecDepth 100000 in
theorem t_X15_next_b255 {l : Launch} {D : va_G} {cy : Nat → ClassId} {ka : Nat → Nat} {σ0 z : TH} {r : Unit} {rec_213 : TH → Nat → Int32 → Option (Unit × TH)} (hrec_213 : ∀ (σ : TH) (l0 : Nat) (l2 : Int32), rec_213 σ l0 l2 = some (r, z) → v_ l D cy ka cX15_next RX15 3 none "next" 1 21 (qf_ D cy σ0 z none) σ0 z σ 213 [(0, va_rf (some l0)), (2, .int l2)] []) {σ : TH} {l0 : Nat} {l2 : Int32} (hf : f_X15_next_b255 rec_213 σ l0 l2 = some (r, z)) : v_ l D cy ka cX15_next RX15 3 none "next" 1 21 (qf_ D cy σ0 z none) σ0 z σ 255 [(0, va_rf (some l0)), (2, .int l2)] [] := by
  unfold f_X15_next_b255 at hf
  obtain ⟨x31, ex31⟩ : ∃ y : Int32, y = l2 + 1 := ⟨_, rfl⟩
  rw [lt_e, ← ex31] at hf
  refine v_iinc (v := x31) [(2, .int x31), (0, va_rf (some l0))] dX15_next_255 1 rfl (by rw [ex31]; rfl) (by decide) rfl ?_
  refine v_aload_n (x := (some l0)) dX15_next_258 rfl 1 rfl ?_
  refine v_dup dX15_next_259 (va_rf_cat _) ?_
  obtain ⟨hk_l0, hf⟩ := gt_of hf
  refine v_geti cb_16 hk_l0 32 1632 rfl (by decide) rfl (lk_n kw_1489 rfl) hf dX15_next_260 (fun x32 hf => ?_)
  refine v_iconst (v := 1) dX15_next_263 (by decide) ?_
  refine v_iadd dX15_next_264 ?_
  refine v_puti2 cb_16 hk_l0 32 1632 rfl (by decide) rfl (lk_n kw_1489 rfl) (Or.inl rfl) rfl rfl hf dX15_next_265 (fun s33 hts33 hf => ?_)
  have hk_l0 := tk_ hts33 hk_l0
  refine v_goto (tgt := 213) dX15_next_268 (by decide) ?_
  refine v_sub [1, 0] (L2 := [(0, va_rf (some l0)), (2, .int x31)]) rfl ?_
  exact hrec_213 _ _ _ hf
def f_X15_next_b213 : Nat → TH → Nat → Int32 → Option (Unit × TH)
  | 0, _, _, _ => none
  | n + 1, σ, l0, l2 => gt_ (kd_ σ l0 = 17) <| lt_ (fi_ σ 1632 l0) fun x25 => bd_ (f_X15_byteAt σ l0 x25) fun x26 s27 => bd_ (f_X15_isDigit s27 x26) fun x28 s29 => if x28 = 0 then (if (5 : Int32) ≤ l2 then (f_X15_next_b311 s29 ) else (lt_ (si_ s29 1633 l0 (3 : Int32)) fun s30 => f_X15_next_b311 s30 )) else (if (4 : Int32) ≤ l2 then (f_X15_next_b255 (f_X15_next_b213 n) s29 l0 l2) else (lt_ (fi_ s29 1636 l0) fun x34 => lt_ (fi_ s29 1632 l0) fun x35 => bd_ (f_X15_byteAt s29 l0 x35) fun x36 s37 => lt_ (si_ s37 1636 l0 ((((10 : Int32) * x34) + x36) - (48 : Int32))) fun s38 => f_X15_next_b255 (f_X15_next_b213 n) s38 l0 l2))
set_option maxHeartbeats 4000000 in
set_option maxRecDepth 100000 in
theorem t_X15_next_b213 {l : Launch} {D : va_G} {cy : Nat → ClassId} {ka : Nat → Nat} {σ0 z : TH} {r : Unit}  : ∀ (n : Nat) (σ : TH) (l0 : Nat) (l2 : Int32), f_X15_next_b213 n σ l0 l2 = some (r, z) → v_ l D cy ka cX15_next RX15 3 none "next" 1 21 (qf_ D cy σ0 z none) σ0 z σ 213 [(0, va_rf (some l0)), (2, .int l2)] [] := by
  intro n
  induction n with
  | zero => intro σ l0 l2 hf; unfold f_X15_next_b213 at hf; cases hf
  | succ n ih =>
    intro σ l0 l2 hf
    unfold f_X15_next_b213 at hf
    have hrec_213 := ih
    refine v_aload_n (x := (some l0)) dX15_next_213 rfl 0 rfl ?_
    refine v_aload_n (x := (some l0)) dX15_next_214 rfl 0 rfl ?_
    obtain ⟨hk_l0, hf⟩ := gt_of hf
    refine v_geti cb_16 hk_l0 32 1632 rfl (by decide) rfl (lk_n kw_1489 rfl) hf dX15_next_215 (fun x25 hf => ?_)
    obtain ⟨x26, s27, hcs27, hf⟩ := bd_of hf
    have hts27 := c_X15_byteAt (l := l) (D := D) (cy := cy) (ka := ka) hcs27
    refine v_callV cb_16 hk_l0 (As := [.int x25]) (rest := []) hts27 yb_X15_byteAt kw_1881 kw_1883 kp_98 rfl ⟨Nat.le_of_ble_eq_true rfl, Nat.le_of_ble_eq_true rfl⟩ rfl (cat_len (Nat.le_of_ble_eq_true rfl)) dX15_next_218 ?_
    have hk_l0 := tk_ hts27.1 hk_l0
    show v_ l D cy ka cX15_next RX15 3 none "next" 1 21 (qf_ D cy σ0 z none) σ0 z _ 221 [(0, va_rf (some l0)), (2, .int l2)] [.int x26]
    obtain ⟨x28, s29, hcs29, hf⟩ := bd_of hf
    have hts29 := c_X15_isDigit (l := l) (D := D) (cy := cy) (ka := ka) hcs29
    refine v_callS (As := [.int x26]) (rest := []) hts29 yb_X15_isDigit kw_1904 kw_1905 rfl ⟨Nat.le_of_ble_eq_true rfl, Nat.le_of_ble_eq_true rfl⟩ rfl (cat_len (Nat.le_of_ble_eq_true rfl)) dX15_next_221 ?_
    have hk_l0 := tk_ hts29.1 hk_l0
    show v_ l D cy ka cX15_next RX15 3 none "next" 1 21 (qf_ D cy σ0 z none) σ0 z _ 224 [(0, va_rf (some l0)), (2, .int l2)] [.int x28]
    refine v_if_eq (tgt := 271) hf dX15_next_224 (by decide) (fun hq hf => ?_) (fun hq hf => ?_)
    · refine v_iload_n (x := l2) dX15_next_271 rfl 1 rfl ?_
      refine v_iconst (v := 5) dX15_next_272 (by decide) ?_
      refine v_icmp_ge (tgt := 311) hf dX15_next_273 (by decide) (fun hq hf => ?_) (fun hq hf => ?_)
      · refine v_sub [] (L2 := []) rfl ?_
        exact t_X15_next_b311  hf
      · refine v_aload_n (x := (some l0)) dX15_next_276 rfl 0 rfl ?_
        refine v_iconst (v := 3) dX15_next_277 (by decide) ?_
        refine v_puti2 cb_16 hk_l0 33 1633 rfl (by decide) rfl (lk_n kw_1490 rfl) (Or.inl rfl) rfl rfl hf dX15_next_278 (fun s30 hts30 hf => ?_)
        have hk_l0 := tk_ hts30 hk_l0
        refine v_goto (tgt := 311) dX15_next_281 (by decide) ?_
        refine v_sub [] (L2 := []) rfl ?_
        exact t_X15_next_b311  hf
    · refine v_iload_n (x := l2) dX15_next_227 rfl 1 rfl ?_
      refine v_iconst (v := 4) dX15_next_228 (by decide) ?_
      refine v_icmp_ge (tgt := 255) hf dX15_next_229 (by decide) (fun hq hf => ?_) (fun hq hf => ?_)
      · refine v_sub [0, 1] (L2 := [(0, va_rf (some l0)), (2, .int l2)]) rfl ?_
        exact t_X15_next_b255 hrec_213 hf
      · refine v_aload_n (x := (some l0)) dX15_next_232 rfl 0 rfl ?_
        refine v_bipush (v := 10) dX15_next_233 (by decide) ?_
        refine v_aload_n (x := (some l0)) dX15_next_235 rfl 0 rfl ?_
        refine v_geti cb_16 hk_l0 36 1636 rfl (by decide) rfl (lk_n kw_1493 rfl) hf dX15_next_236 (fun x34 hf => ?_)
        refine v_imul dX15_next_239 ?_
        refine v_aload_n (x := (some l0)) dX15_next_240 rfl 0 rfl ?_
        refine v_aload_n (x := (some l0)) dX15_next_241 rfl 0 rfl ?_
        refine v_geti cb_16 hk_l0 32 1632 rfl (by decide) rfl (lk_n kw_1489 rfl) hf dX15_next_242 (fun x35 hf => ?_)
        obtain ⟨x36, s37, hcs37, hf⟩ := bd_of hf
        have hts37 := c_X15_byteAt (l := l) (D := D) (cy := cy) (ka := ka) hcs37
        refine v_callV cb_16 hk_l0 (As := [.int x35]) (rest := [.int ((10 : Int32) * x34), va_rf (some l0)]) hts37 yb_X15_byteAt kw_1881 kw_1883 kp_98 rfl ⟨Nat.le_of_ble_eq_true rfl, Nat.le_of_ble_eq_true rfl⟩ rfl (cat_len (Nat.le_of_ble_eq_true rfl)) dX15_next_245 ?_
        have hk_l0 := tk_ hts37.1 hk_l0
        show v_ l D cy ka cX15_next RX15 3 none "next" 1 21 (qf_ D cy σ0 z none) σ0 z _ 248 [(0, va_rf (some l0)), (2, .int l2)] [.int x36, .int ((10 : Int32) * x34), va_rf (some l0)]
        refine v_iadd dX15_next_248 ?_
        refine v_bipush (v := 48) dX15_next_249 (by decide) ?_
        refine v_isub dX15_next_251 ?_
        refine v_puti2 cb_16 hk_l0 36 1636 rfl (by decide) rfl (lk_n kw_1493 rfl) (Or.inl rfl) rfl rfl hf dX15_next_252 (fun s38 hts38 hf => ?_)
        have hk_l0 := tk_ hts38 hk_l0
        refine v_sub [0, 1] (L2 := [(0, va_rf (some l0)), (2, .int l2)]) rfl ?_
        exact t_X15_next_b255 hrec_213 hf
def f_X15_next_b187 (σ : TH) (l0 : Nat) (l2 : Int32) : Option (Unit × TH) :=
  if (8 : Int32) < l2 then (f_X15_next_b311 σ ) else (gt_ (kd_ σ l0 = 17) <| lt_ (si_ σ 1633 l0 (2 : Int32)) fun s51 => f_X15_next_b311 s51 )
set_option maxHeartbeats 4000000 in
set_option maxRecDepth 100000 in
theorem t_X15_next_b187 {l : Launch} {D : va_G} {cy : Nat → ClassId} {ka : Nat → Nat} {σ0 z : TH} {r : Unit}  {σ : TH} {l0 : Nat} {l2 : Int32} (hf : f_X15_next_b187 σ l0 l2 = some (r, z)) : v_ l D cy ka cX15_next RX15 3 none "next" 1 21 (qf_ D cy σ0 z none) σ0 z σ 187 [(0, va_rf (some l0)), (2, .int l2)] [] := by
  unfold f_X15_next_b187 at hf
  refine v_iload_n (x := l2) dX15_next_187 rfl 1 rfl ?_
  refine v_bipush (v := 8) dX15_next_188 (by decide) ?_
  refine v_icmp_gt (tgt := 311) hf dX15_next_190 (by decide) (fun hq hf => ?_) (fun hq hf => ?_)
  · refine v_sub [] (L2 := []) rfl ?_
    exact t_X15_next_b311  hf
  · refine v_aload_n (x := (some l0)) dX15_next_193 rfl 0 rfl ?_
    refine v_iconst (v := 2) dX15_next_194 (by decide) ?_
    obtain ⟨hk_l0, hf⟩ := gt_of hf
    refine v_puti2 cb_16 hk_l0 33 1633 rfl (by decide) rfl (lk_n kw_1490 rfl) (Or.inl rfl) rfl rfl hf dX15_next_195 (fun s51 hts51 hf => ?_)
    have hk_l0 := tk_ hts51 hk_l0
    refine v_goto (tgt := 311) dX15_next_198 (by decide) ?_
    refine v_sub [] (L2 := []) rfl ?_
    exact t_X15_next_b311  hf
def f_X15_next_b127 (rec_80 : TH → Nat → Int32 → Option (Unit × TH)) (σ : TH) (l0 : Nat) (l2 : Int32) : Option (Unit × TH) :=
  lt_ (l2 + 1) fun x58 => gt_ (kd_ σ l0 = 17) <| lt_ (fi_ σ 1632 l0) fun x59 => lt_ (si_ σ 1632 l0 (x59 + (1 : Int32))) fun s60 => rec_80 s60 l0 x58
set_option maxHeartbeats 4000000 in
set_option maxRecDepth 100000 in
theorem t_X15_next_b127 {l : Launch} {D : va_G} {cy : Nat → ClassId} {ka : Nat → Nat} {σ0 z : TH} {r : Unit} {rec_80 : TH → Nat → Int32 → Option (Unit × TH)} (hrec_80 : ∀ (σ : TH) (l0 : Nat) (l2 : Int32), rec_80 σ l0 l2 = some (r, z) → v_ l D cy ka cX15_next RX15 3 none "next" 1 21 (qf_ D cy σ0 z none) σ0 z σ 80 [(0, va_rf (some l0)), (2, .int l2)] []) {σ : TH} {l0 : Nat} {l2 : Int32} (hf : f_X15_next_b127 rec_80 σ l0 l2 = some (r, z)) : v_ l D cy ka cX15_next RX15 3 none "next" 1 21 (qf_ D cy σ0 z none) σ0 z σ 127 [(0, va_rf (some l0)), (2, .int l2)] [] := by
  unfold f_X15_next_b127 at hf
  obtain ⟨x58, ex58⟩ : ∃ y : Int32, y = l2 + 1 := ⟨_, rfl⟩
  rw [lt_e, ← ex58] at hf
  refine v_iinc (v := x58) [(2, .int x58), (0, va_rf (some l0))] dX15_next_127 1 rfl (by rw [ex58]; rfl) (by decide) rfl ?_
  refine v_aload_n (x := (some l0)) dX15_next_130 rfl 1 rfl ?_
  refine v_dup dX15_next_131 (va_rf_cat _) ?_
  obtain ⟨hk_l0, hf⟩ := gt_of hf
  refine v_geti cb_16 hk_l0 32 1632 rfl (by decide) rfl (lk_n kw_1489 rfl) hf dX15_next_132 (fun x59 hf => ?_)
  refine v_iconst (v := 1) dX15_next_135 (by decide) ?_
  refine v_iadd dX15_next_136 ?_
  refine v_puti2 cb_16 hk_l0 32 1632 rfl (by decide) rfl (lk_n kw_1489 rfl) (Or.inl rfl) rfl rfl hf dX15_next_137 (fun s60 hts60 hf => ?_)
  have hk_l0 := tk_ hts60 hk_l0
  refine v_goto (tgt := 80) dX15_next_140 (by decide) ?_
  refine v_sub [1, 0] (L2 := [(0, va_rf (some l0)), (2, .int x58)]) rfl ?_
  exact hrec_80 _ _ _ hf
def f_X15_next_b80 : Nat → TH → Nat → Int32 → Option (Unit × TH)
  | 0, _, _, _ => none
  | n + 1, σ, l0, l2 => gt_ (kd_ σ l0 = 17) <| lt_ (fi_ σ 1632 l0) fun x40 => bd_ (f_X15_byteAt σ l0 x40) fun x41 s42 => bd_ (f_X15_isLetter s42 x41) fun x43 s44 => if x43 = 0 then (lt_ (si_ s44 1637 l0 (-1 : Int32)) fun s45 => lt_ (fi_ s45 1632 l0) fun x46 => bd_ (f_X15_byteAt s45 l0 x46) fun x47 s48 => bd_ (f_X15_isDigit s48 x47) fun x49 s50 => if x49 = 0 then (f_X15_next_b187 s50 l0 l2) else (lt_ (fi_ s50 1632 l0) fun x52 => bd_ (f_X15_byteAt s50 l0 x52) fun x53 s54 => lt_ (si_ s54 1637 l0 (x53 - (48 : Int32))) fun s55 => lt_ (fi_ s55 1632 l0) fun x56 => lt_ (si_ s55 1632 l0 (x56 + (1 : Int32))) fun s57 => f_X15_next_b187 s57 l0 l2)) else (if (8 : Int32) ≤ l2 then (f_X15_next_b127 (f_X15_next_b80 n) s44 l0 l2) else (lt_ (fl_ s44 1646 l0) fun x61 => lt_ (fi_ s44 1632 l0) fun x62 => bd_ (f_X15_byteAt s44 l0 x62) fun x63 s64 => lt_ (so_ s64 1646 l0 (((32 : Int64) * x61) + (Int32.toInt64 ((x63 - (97 : Int32)) + (1 : Int32))))) fun s65 => f_X15_next_b127 (f_X15_next_b80 n) s65 l0 l2))
set_option maxHeartbeats 4000000 in
set_option maxRecDepth 100000 in
theorem t_X15_next_b80 {l : Launch} {D : va_G} {cy : Nat → ClassId} {ka : Nat → Nat} {σ0 z : TH} {r : Unit}  : ∀ (n : Nat) (σ : TH) (l0 : Nat) (l2 : Int32), f_X15_next_b80 n σ l0 l2 = some (r, z) → v_ l D cy ka cX15_next RX15 3 none "next" 1 21 (qf_ D cy σ0 z none) σ0 z σ 80 [(0, va_rf (some l0)), (2, .int l2)] [] := by
  intro n
  induction n with
  | zero => intro σ l0 l2 hf; unfold f_X15_next_b80 at hf; cases hf
  | succ n ih =>
    intro σ l0 l2 hf
    unfold f_X15_next_b80 at hf
    have hrec_80 := ih
    refine v_aload_n (x := (some l0)) dX15_next_80 rfl 0 rfl ?_
    refine v_aload_n (x := (some l0)) dX15_next_81 rfl 0 rfl ?_
    obtain ⟨hk_l0, hf⟩ := gt_of hf
    refine v_geti cb_16 hk_l0 32 1632 rfl (by decide) rfl (lk_n kw_1489 rfl) hf dX15_next_82 (fun x40 hf => ?_)
    obtain ⟨x41, s42, hcs42, hf⟩ := bd_of hf
    have hts42 := c_X15_byteAt (l := l) (D := D) (cy := cy) (ka := ka) hcs42
    refine v_callV cb_16 hk_l0 (As := [.int x40]) (rest := []) hts42 yb_X15_byteAt kw_1881 kw_1883 kp_98 rfl ⟨Nat.le_of_ble_eq_true rfl, Nat.le_of_ble_eq_true rfl⟩ rfl (cat_len (Nat.le_of_ble_eq_true rfl)) dX15_next_85 ?_
    have hk_l0 := tk_ hts42.1 hk_l0
    show v_ l D cy ka cX15_next RX15 3 none "next" 1 21 (qf_ D cy σ0 z none) σ0 z _ 88 [(0, va_rf (some l0)), (2, .int l2)] [.int x41]
    obtain ⟨x43, s44, hcs44, hf⟩ := bd_of hf
    have hts44 := c_X15_isLetter (l := l) (D := D) (cy := cy) (ka := ka) hcs44
    refine v_callS (As := [.int x41]) (rest := []) hts44 yb_X15_isLetter kw_1900 kw_1901 rfl ⟨Nat.le_of_ble_eq_true rfl, Nat.le_of_ble_eq_true rfl⟩ rfl (cat_len (Nat.le_of_ble_eq_true rfl)) dX15_next_88 ?_
    have hk_l0 := tk_ hts44.1 hk_l0
    show v_ l D cy ka cX15_next RX15 3 none "next" 1 21 (qf_ D cy σ0 z none) σ0 z _ 91 [(0, va_rf (some l0)), (2, .int l2)] [.int x43]
    refine v_if_eq (tgt := 143) hf dX15_next_91 (by decide) (fun hq hf => ?_) (fun hq hf => ?_)
    · refine v_aload_n (x := (some l0)) dX15_next_143 rfl 0 rfl ?_
      refine v_iconst (v := (-1)) dX15_next_144 (by decide) ?_
      refine v_puti2 cb_16 hk_l0 37 1637 rfl (by decide) rfl (lk_n kw_1494 rfl) (Or.inl rfl) rfl rfl hf dX15_next_145 (fun s45 hts45 hf => ?_)
      have hk_l0 := tk_ hts45 hk_l0
      refine v_aload_n (x := (some l0)) dX15_next_148 rfl 0 rfl ?_
      refine v_aload_n (x := (some l0)) dX15_next_149 rfl 0 rfl ?_
      refine v_geti cb_16 hk_l0 32 1632 rfl (by decide) rfl (lk_n kw_1489 rfl) hf dX15_next_150 (fun x46 hf => ?_)
      obtain ⟨x47, s48, hcs48, hf⟩ := bd_of hf
      have hts48 := c_X15_byteAt (l := l) (D := D) (cy := cy) (ka := ka) hcs48
      refine v_callV cb_16 hk_l0 (As := [.int x46]) (rest := []) hts48 yb_X15_byteAt kw_1881 kw_1883 kp_98 rfl ⟨Nat.le_of_ble_eq_true rfl, Nat.le_of_ble_eq_true rfl⟩ rfl (cat_len (Nat.le_of_ble_eq_true rfl)) dX15_next_153 ?_
      have hk_l0 := tk_ hts48.1 hk_l0
      show v_ l D cy ka cX15_next RX15 3 none "next" 1 21 (qf_ D cy σ0 z none) σ0 z _ 156 [(0, va_rf (some l0)), (2, .int l2)] [.int x47]
      obtain ⟨x49, s50, hcs50, hf⟩ := bd_of hf
      have hts50 := c_X15_isDigit (l := l) (D := D) (cy := cy) (ka := ka) hcs50
      refine v_callS (As := [.int x47]) (rest := []) hts50 yb_X15_isDigit kw_1904 kw_1905 rfl ⟨Nat.le_of_ble_eq_true rfl, Nat.le_of_ble_eq_true rfl⟩ rfl (cat_len (Nat.le_of_ble_eq_true rfl)) dX15_next_156 ?_
      have hk_l0 := tk_ hts50.1 hk_l0
      show v_ l D cy ka cX15_next RX15 3 none "next" 1 21 (qf_ D cy σ0 z none) σ0 z _ 159 [(0, va_rf (some l0)), (2, .int l2)] [.int x49]
      refine v_if_eq (tgt := 187) hf dX15_next_159 (by decide) (fun hq hf => ?_) (fun hq hf => ?_)
      · refine v_sub [0, 1] (L2 := [(0, va_rf (some l0)), (2, .int l2)]) rfl ?_
        exact t_X15_next_b187  hf
      · refine v_aload_n (x := (some l0)) dX15_next_162 rfl 0 rfl ?_
        refine v_aload_n (x := (some l0)) dX15_next_163 rfl 0 rfl ?_
        refine v_aload_n (x := (some l0)) dX15_next_164 rfl 0 rfl ?_
        refine v_geti cb_16 hk_l0 32 1632 rfl (by decide) rfl (lk_n kw_1489 rfl) hf dX15_next_165 (fun x52 hf => ?_)
        obtain ⟨x53, s54, hcs54, hf⟩ := bd_of hf
        have hts54 := c_X15_byteAt (l := l) (D := D) (cy := cy) (ka := ka) hcs54
        refine v_callV cb_16 hk_l0 (As := [.int x52]) (rest := [va_rf (some l0)]) hts54 yb_X15_byteAt kw_1881 kw_1883 kp_98 rfl ⟨Nat.le_of_ble_eq_true rfl, Nat.le_of_ble_eq_true rfl⟩ rfl (cat_len (Nat.le_of_ble_eq_true rfl)) dX15_next_168 ?_
        have hk_l0 := tk_ hts54.1 hk_l0
        show v_ l D cy ka cX15_next RX15 3 none "next" 1 21 (qf_ D cy σ0 z none) σ0 z _ 171 [(0, va_rf (some l0)), (2, .int l2)] [.int x53, va_rf (some l0)]
        refine v_bipush (v := 48) dX15_next_171 (by decide) ?_
        refine v_isub dX15_next_173 ?_
        refine v_puti2 cb_16 hk_l0 37 1637 rfl (by decide) rfl (lk_n kw_1494 rfl) (Or.inl rfl) rfl rfl hf dX15_next_174 (fun s55 hts55 hf => ?_)
        have hk_l0 := tk_ hts55 hk_l0
        refine v_aload_n (x := (some l0)) dX15_next_177 rfl 0 rfl ?_
        refine v_dup dX15_next_178 (va_rf_cat _) ?_
        refine v_geti cb_16 hk_l0 32 1632 rfl (by decide) rfl (lk_n kw_1489 rfl) hf dX15_next_179 (fun x56 hf => ?_)
        refine v_iconst (v := 1) dX15_next_182 (by decide) ?_
        refine v_iadd dX15_next_183 ?_
        refine v_puti2 cb_16 hk_l0 32 1632 rfl (by decide) rfl (lk_n kw_1489 rfl) (Or.inl rfl) rfl rfl hf dX15_next_184 (fun s57 hts57 hf => ?_)
        have hk_l0 := tk_ hts57 hk_l0
        refine v_sub [0, 1] (L2 := [(0, va_rf (some l0)), (2, .int l2)]) rfl ?_
        exact t_X15_next_b187  hf
    · refine v_iload_n (x := l2) dX15_next_94 rfl 1 rfl ?_
      refine v_bipush (v := 8) dX15_next_95 (by decide) ?_
      refine v_icmp_ge (tgt := 127) hf dX15_next_97 (by decide) (fun hq hf => ?_) (fun hq hf => ?_)
      · refine v_sub [0, 1] (L2 := [(0, va_rf (some l0)), (2, .int l2)]) rfl ?_
        exact t_X15_next_b127 hrec_80 hf
      · refine v_aload_n (x := (some l0)) dX15_next_100 rfl 0 rfl ?_
        refine v_ldc2 (v := 32) kw_1903 dX15_next_101 ?_
        refine v_aload_n (x := (some l0)) dX15_next_104 rfl 0 rfl ?_
        refine v_getl cb_16 hk_l0 46 1646 rfl (by decide) rfl (lk_n kw_1503 rfl) hf dX15_next_105 (fun x61 hf => ?_)
        refine v_lmul dX15_next_108 ?_
        refine v_aload_n (x := (some l0)) dX15_next_109 rfl 0 rfl ?_
        refine v_aload_n (x := (some l0)) dX15_next_110 rfl 0 rfl ?_
        refine v_geti cb_16 hk_l0 32 1632 rfl (by decide) rfl (lk_n kw_1489 rfl) hf dX15_next_111 (fun x62 hf => ?_)
        obtain ⟨x63, s64, hcs64, hf⟩ := bd_of hf
        have hts64 := c_X15_byteAt (l := l) (D := D) (cy := cy) (ka := ka) hcs64
        refine v_callV cb_16 hk_l0 (As := [.int x62]) (rest := [.long ((32 : Int64) * x61), va_rf (some l0)]) hts64 yb_X15_byteAt kw_1881 kw_1883 kp_98 rfl ⟨Nat.le_of_ble_eq_true rfl, Nat.le_of_ble_eq_true rfl⟩ rfl (cat_len (Nat.le_of_ble_eq_true rfl)) dX15_next_114 ?_
        have hk_l0 := tk_ hts64.1 hk_l0
        show v_ l D cy ka cX15_next RX15 3 none "next" 1 21 (qf_ D cy σ0 z none) σ0 z _ 117 [(0, va_rf (some l0)), (2, .int l2)] [.int x63, .long ((32 : Int64) * x61), va_rf (some l0)]
        refine v_bipush (v := 97) dX15_next_117 (by decide) ?_
        refine v_isub dX15_next_119 ?_
        refine v_iconst (v := 1) dX15_next_120 (by decide) ?_
        refine v_iadd dX15_next_121 ?_
        refine v_i2l dX15_next_122 ?_
        refine v_ladd dX15_next_123 ?_
        refine v_putl2 cb_16 hk_l0 46 1646 rfl (by decide) rfl (lk_n kw_1503 rfl) (Or.inl rfl) rfl rfl hf dX15_next_124 (fun s65 hts65 hf => ?_)
        have hk_l0 := tk_ hts65 hk_l0
        refine v_sub [0, 1] (L2 := [(0, va_rf (some l0)), (2, .int l2)]) rfl ?_
        exact t_X15_next_b127 hrec_80 hf
def f_X15_next_b0 : Nat → TH → Nat → Option (Unit × TH)
  | 0, _, _ => none
  | n + 1, σ, l0 => gt_ (kd_ σ l0 = 17) <| lt_ (fi_ σ 1632 l0) fun x1 => bd_ (f_X15_byteAt σ l0 x1) fun x2 s3 => if x2 = (32 : Int32) then (lt_ (fi_ s3 1632 l0) fun x4 => lt_ (si_ s3 1632 l0 (x4 + (1 : Int32))) fun s5 => (f_X15_next_b0 n) s5 l0) else (lt_ (fi_ s3 1632 l0) fun x6 => lt_ (si_ s3 1634 l0 x6) fun s7 => lt_ (si_ s7 1633 l0 (0 : Int32)) fun s8 => lt_ (si_ s8 1635 l0 (0 : Int32)) fun s9 => lt_ (fi_ s9 1632 l0) fun x10 => bd_ (f_X15_byteAt s9 l0 x10) fun x11 s12 => if x11 = (-1 : Int32) then (lt_ (si_ s12 1633 l0 (1 : Int32)) fun s13 => f_X15_next_b311 s13 ) else (bd_ (f_X15_isLetter s12 x11) fun x14 s15 => if x14 = 0 then (bd_ (f_X15_isDigit s15 x11) fun x16 s17 => if x16 = 0 then (bd_ (f_X15_isMark s17 x11) fun x18 s19 => if x18 = 0 then (f_X15_next_b311 s19 ) else (lt_ (si_ s19 1633 l0 (4 : Int32)) fun s20 => lt_ (si_ s20 1635 l0 x11) fun s21 => lt_ (fi_ s21 1632 l0) fun x22 => lt_ (si_ s21 1632 l0 (x22 + (1 : Int32))) fun s23 => f_X15_next_b311 s23 )) else (lt_ (si_ s17 1636 l0 (0 : Int32)) fun s24 => f_X15_next_b213 fu_ s24 l0 (0 : Int32))) else (lt_ (so_ s15 1646 l0 (0 : Int64)) fun s39 => f_X15_next_b80 fu_ s39 l0 (0 : Int32))))
set_option maxHeartbeats 4000000 in
set_option maxRecDepth 100000 in
theorem t_X15_next_b0 {l : Launch} {D : va_G} {cy : Nat → ClassId} {ka : Nat → Nat} {σ0 z : TH} {r : Unit}  : ∀ (n : Nat) (σ : TH) (l0 : Nat), f_X15_next_b0 n σ l0 = some (r, z) → v_ l D cy ka cX15_next RX15 3 none "next" 1 21 (qf_ D cy σ0 z none) σ0 z σ 0 [(0, va_rf (some l0))] [] := by
  intro n
  induction n with
  | zero => intro σ l0 hf; unfold f_X15_next_b0 at hf; cases hf
  | succ n ih =>
    intro σ l0 hf
    unfold f_X15_next_b0 at hf
    have hrec_0 := ih
    refine v_aload_n (x := (some l0)) dX15_next_0 rfl 0 rfl ?_
    refine v_aload_n (x := (some l0)) dX15_next_1 rfl 0 rfl ?_
    obtain ⟨hk_l0, hf⟩ := gt_of hf
    refine v_geti cb_16 hk_l0 32 1632 rfl (by decide) rfl (lk_n kw_1489 rfl) hf dX15_next_2 (fun x1 hf => ?_)
    obtain ⟨x2, s3, hcs3, hf⟩ := bd_of hf
    have hts3 := c_X15_byteAt (l := l) (D := D) (cy := cy) (ka := ka) hcs3
    refine v_callV cb_16 hk_l0 (As := [.int x1]) (rest := []) hts3 yb_X15_byteAt kw_1881 kw_1883 kp_98 rfl ⟨Nat.le_of_ble_eq_true rfl, Nat.le_of_ble_eq_true rfl⟩ rfl (cat_len (Nat.le_of_ble_eq_true rfl)) dX15_next_5 ?_
    have hk_l0 := tk_ hts3.1 hk_l0
    show v_ l D cy ka cX15_next RX15 3 none "next" 1 21 (qf_ D cy σ0 z none) σ0 z _ 8 [(0, va_rf (some l0))] [.int x2]
    refine v_bipush (v := 32) dX15_next_8 (by decide) ?_
    refine v_icmp_ne (tgt := 26) hf dX15_next_10 (by decide) (fun hq hf => ?_) (fun hq hf => ?_)
    · refine v_aload_n (x := (some l0)) dX15_next_13 rfl 0 rfl ?_
      refine v_dup dX15_next_14 (va_rf_cat _) ?_
      refine v_geti cb_16 hk_l0 32 1632 rfl (by decide) rfl (lk_n kw_1489 rfl) hf dX15_next_15 (fun x4 hf => ?_)
      refine v_iconst (v := 1) dX15_next_18 (by decide) ?_
      refine v_iadd dX15_next_19 ?_
      refine v_puti2 cb_16 hk_l0 32 1632 rfl (by decide) rfl (lk_n kw_1489 rfl) (Or.inl rfl) rfl rfl hf dX15_next_20 (fun s5 hts5 hf => ?_)
      have hk_l0 := tk_ hts5 hk_l0
      refine v_goto (tgt := 0) dX15_next_23 (by decide) ?_
      refine v_sub [0] (L2 := [(0, va_rf (some l0))]) rfl ?_
      exact hrec_0 _ _ hf
    · refine v_aload_n (x := (some l0)) dX15_next_26 rfl 0 rfl ?_
      refine v_aload_n (x := (some l0)) dX15_next_27 rfl 0 rfl ?_
      refine v_geti cb_16 hk_l0 32 1632 rfl (by decide) rfl (lk_n kw_1489 rfl) hf dX15_next_28 (fun x6 hf => ?_)
      refine v_puti2 cb_16 hk_l0 34 1634 rfl (by decide) rfl (lk_n kw_1491 rfl) (Or.inl rfl) rfl rfl hf dX15_next_31 (fun s7 hts7 hf => ?_)
      have hk_l0 := tk_ hts7 hk_l0
      refine v_aload_n (x := (some l0)) dX15_next_34 rfl 0 rfl ?_
      refine v_iconst (v := 0) dX15_next_35 (by decide) ?_
      refine v_puti2 cb_16 hk_l0 33 1633 rfl (by decide) rfl (lk_n kw_1490 rfl) (Or.inl rfl) rfl rfl hf dX15_next_36 (fun s8 hts8 hf => ?_)
      have hk_l0 := tk_ hts8 hk_l0
      refine v_aload_n (x := (some l0)) dX15_next_39 rfl 0 rfl ?_
      refine v_iconst (v := 0) dX15_next_40 (by decide) ?_
      refine v_puti2 cb_16 hk_l0 35 1635 rfl (by decide) rfl (lk_n kw_1492 rfl) (Or.inl rfl) rfl rfl hf dX15_next_41 (fun s9 hts9 hf => ?_)
      have hk_l0 := tk_ hts9 hk_l0
      refine v_aload_n (x := (some l0)) dX15_next_44 rfl 0 rfl ?_
      refine v_aload_n (x := (some l0)) dX15_next_45 rfl 0 rfl ?_
      refine v_geti cb_16 hk_l0 32 1632 rfl (by decide) rfl (lk_n kw_1489 rfl) hf dX15_next_46 (fun x10 hf => ?_)
      obtain ⟨x11, s12, hcs12, hf⟩ := bd_of hf
      have hts12 := c_X15_byteAt (l := l) (D := D) (cy := cy) (ka := ka) hcs12
      refine v_callV cb_16 hk_l0 (As := [.int x10]) (rest := []) hts12 yb_X15_byteAt kw_1881 kw_1883 kp_98 rfl ⟨Nat.le_of_ble_eq_true rfl, Nat.le_of_ble_eq_true rfl⟩ rfl (cat_len (Nat.le_of_ble_eq_true rfl)) dX15_next_49 ?_
      have hk_l0 := tk_ hts12.1 hk_l0
      show v_ l D cy ka cX15_next RX15 3 none "next" 1 21 (qf_ D cy σ0 z none) σ0 z _ 52 [(0, va_rf (some l0))] [.int x11]
      refine v_istore_n [(1, .int x11), (0, va_rf (some l0))] dX15_next_52 rfl (by decide) rfl ?_
      refine v_iconst (v := 0) dX15_next_53 (by decide) ?_
      refine v_istore_n [(2, .int (0 : Int32)), (1, .int x11), (0, va_rf (some l0))] dX15_next_54 rfl (by decide) rfl ?_
      refine v_iload_n (x := x11) dX15_next_55 rfl 1 rfl ?_
      refine v_iconst (v := (-1)) dX15_next_56 (by decide) ?_
      refine v_icmp_ne (tgt := 68) hf dX15_next_57 (by decide) (fun hq hf => ?_) (fun hq hf => ?_)
      · refine v_aload_n (x := (some l0)) dX15_next_60 rfl 2 rfl ?_
        refine v_iconst (v := 1) dX15_next_61 (by decide) ?_
        refine v_puti2 cb_16 hk_l0 33 1633 rfl (by decide) rfl (lk_n kw_1490 rfl) (Or.inl rfl) rfl rfl hf dX15_next_62 (fun s13 hts13 hf => ?_)
        have hk_l0 := tk_ hts13 hk_l0
        refine v_goto (tgt := 311) dX15_next_65 (by decide) ?_
        refine v_sub [] (L2 := []) rfl ?_
        exact t_X15_next_b311  hf
      · refine v_iload_n (x := x11) dX15_next_68 rfl 1 rfl ?_
        obtain ⟨x14, s15, hcs15, hf⟩ := bd_of hf
        have hts15 := c_X15_isLetter (l := l) (D := D) (cy := cy) (ka := ka) hcs15
        refine v_callS (As := [.int x11]) (rest := []) hts15 yb_X15_isLetter kw_1900 kw_1901 rfl ⟨Nat.le_of_ble_eq_true rfl, Nat.le_of_ble_eq_true rfl⟩ rfl (cat_len (Nat.le_of_ble_eq_true rfl)) dX15_next_69 ?_
        have hk_l0 := tk_ hts15.1 hk_l0
        show v_ l D cy ka cX15_next RX15 3 none "next" 1 21 (qf_ D cy σ0 z none) σ0 z _ 72 [(2, .int (0 : Int32)), (1, .int x11), (0, va_rf (some l0))] [.int x14]
        refine v_if_eq (tgt := 201) hf dX15_next_72 (by decide) (fun hq hf => ?_) (fun hq hf => ?_)
        · refine v_iload_n (x := x11) dX15_next_201 rfl 1 rfl ?_
          obtain ⟨x16, s17, hcs17, hf⟩ := bd_of hf
          have hts17 := c_X15_isDigit (l := l) (D := D) (cy := cy) (ka := ka) hcs17
          refine v_callS (As := [.int x11]) (rest := []) hts17 yb_X15_isDigit kw_1904 kw_1905 rfl ⟨Nat.le_of_ble_eq_true rfl, Nat.le_of_ble_eq_true rfl⟩ rfl (cat_len (Nat.le_of_ble_eq_true rfl)) dX15_next_202 ?_
          have hk_l0 := tk_ hts17.1 hk_l0
          show v_ l D cy ka cX15_next RX15 3 none "next" 1 21 (qf_ D cy σ0 z none) σ0 z _ 205 [(2, .int (0 : Int32)), (1, .int x11), (0, va_rf (some l0))] [.int x16]
          refine v_if_eq (tgt := 284) hf dX15_next_205 (by decide) (fun hq hf => ?_) (fun hq hf => ?_)
          · refine v_iload_n (x := x11) dX15_next_284 rfl 1 rfl ?_
            obtain ⟨x18, s19, hcs19, hf⟩ := bd_of hf
            have hts19 := c_X15_isMark (l := l) (D := D) (cy := cy) (ka := ka) hcs19
            refine v_callS (As := [.int x11]) (rest := []) hts19 yb_X15_isMark kw_1907 kw_1908 rfl ⟨Nat.le_of_ble_eq_true rfl, Nat.le_of_ble_eq_true rfl⟩ rfl (cat_len (Nat.le_of_ble_eq_true rfl)) dX15_next_285 ?_
            have hk_l0 := tk_ hts19.1 hk_l0
            show v_ l D cy ka cX15_next RX15 3 none "next" 1 21 (qf_ D cy σ0 z none) σ0 z _ 288 [(2, .int (0 : Int32)), (1, .int x11), (0, va_rf (some l0))] [.int x18]
            refine v_if_eq (tgt := 311) hf dX15_next_288 (by decide) (fun hq hf => ?_) (fun hq hf => ?_)
            · refine v_sub [] (L2 := []) rfl ?_
              exact t_X15_next_b311  hf
            · refine v_aload_n (x := (some l0)) dX15_next_291 rfl 2 rfl ?_
              refine v_iconst (v := 4) dX15_next_292 (by decide) ?_
              refine v_puti2 cb_16 hk_l0 33 1633 rfl (by decide) rfl (lk_n kw_1490 rfl) (Or.inl rfl) rfl rfl hf dX15_next_293 (fun s20 hts20 hf => ?_)
              have hk_l0 := tk_ hts20 hk_l0
              refine v_aload_n (x := (some l0)) dX15_next_296 rfl 2 rfl ?_
              refine v_iload_n (x := x11) dX15_next_297 rfl 1 rfl ?_
              refine v_puti2 cb_16 hk_l0 35 1635 rfl (by decide) rfl (lk_n kw_1492 rfl) (Or.inl rfl) rfl rfl hf dX15_next_298 (fun s21 hts21 hf => ?_)
              have hk_l0 := tk_ hts21 hk_l0
              refine v_aload_n (x := (some l0)) dX15_next_301 rfl 2 rfl ?_
              refine v_dup dX15_next_302 (va_rf_cat _) ?_
              refine v_geti cb_16 hk_l0 32 1632 rfl (by decide) rfl (lk_n kw_1489 rfl) hf dX15_next_303 (fun x22 hf => ?_)
              refine v_iconst (v := 1) dX15_next_306 (by decide) ?_
              refine v_iadd dX15_next_307 ?_
              refine v_puti2 cb_16 hk_l0 32 1632 rfl (by decide) rfl (lk_n kw_1489 rfl) (Or.inl rfl) rfl rfl hf dX15_next_308 (fun s23 hts23 hf => ?_)
              have hk_l0 := tk_ hts23 hk_l0
              refine v_sub [] (L2 := []) rfl ?_
              exact t_X15_next_b311  hf
          · refine v_aload_n (x := (some l0)) dX15_next_208 rfl 2 rfl ?_
            refine v_iconst (v := 0) dX15_next_209 (by decide) ?_
            refine v_puti2 cb_16 hk_l0 36 1636 rfl (by decide) rfl (lk_n kw_1493 rfl) (Or.inl rfl) rfl rfl hf dX15_next_210 (fun s24 hts24 hf => ?_)
            have hk_l0 := tk_ hts24 hk_l0
            refine v_sub [2, 0] (L2 := [(0, va_rf (some l0)), (2, .int (0 : Int32))]) rfl ?_
            exact t_X15_next_b213  _ _ _ _ hf
        · refine v_aload_n (x := (some l0)) dX15_next_75 rfl 2 rfl ?_
          refine v_lconst (v := 0) dX15_next_76 (by decide) ?_
          refine v_putl2 cb_16 hk_l0 46 1646 rfl (by decide) rfl (lk_n kw_1503 rfl) (Or.inl rfl) rfl rfl hf dX15_next_77 (fun s39 hts39 hf => ?_)
          have hk_l0 := tk_ hts39 hk_l0
          refine v_sub [2, 0] (L2 := [(0, va_rf (some l0)), (2, .int (0 : Int32))]) rfl ?_
          exact t_X15_next_b80  _ _ _ _ hf
/-- LivesAheadModel.next()V -/
def f_X15_next (σ : TH) (p0 : Nat) : Option (Unit × TH) :=
  f_X15_next_b0 fu_ σ p0
set_option maxHeartbeats 4000000 in
set_option maxRecDepth 100000 in
theorem c_X15_next {l : Launch} {D : va_G} {cy : Nat → ClassId} {ka : Nat → Nat} {σ z : TH} {p0 : Nat} {r : Unit} (hf : f_X15_next σ p0 = some (r, z)) : ct_ l D cy ka yX15_next 1 21 [va_rf (some p0)] σ none z := by
  unfold f_X15_next at hf
  refine v_start (cc := cX15_next) (own := RX15) (maxL := 3) (ret := none) (nm := "next") (by decide +kernel) kw_1899 rfl rfl (by simp [lg_sl, va_rf_cat, cat_i, cat_l]) ?_
  refine v_eqL (L2 := [(0, va_rf (some p0))]) (by simp [lv_args, va_rf_cat, cat_i, cat_l]) ?_
  refine v_sub [0] (L2 := [(0, va_rf (some p0))]) rfl ?_
  exact t_X15_next_b0  _ _ _ hf
theorem dX15_prints_0 : decode cX15_prints 0 = .ok (.aload_n 0, 1) := by decide +kernel
theorem dX15_prints_1 : decode cX15_prints 1 = .ok (.getfield 83, 3) := by decide +kernel
theorem dX15_prints_4 : decode cX15_prints 4 = .ok (.aload_n 0, 1) := by decide +kernel
theorem dX15_prints_5 : decode cX15_prints 5 = .ok (.getfield 327, 3) := by decide +kernel
theorem dX15_prints_8 : decode cX15_prints 8 = .ok (.iload_n 1, 1) := by decide +kernel
theorem dX15_prints_9 : decode cX15_prints 9 = .ok (.i2b, 1) := by decide +kernel
theorem dX15_prints_10 : decode cX15_prints 10 = .ok (.bastore, 1) := by decide +kernel
theorem dX15_prints_11 : decode cX15_prints 11 = .ok (.aload_n 0, 1) := by decide +kernel
theorem dX15_prints_12 : decode cX15_prints 12 = .ok (.dup, 1) := by decide +kernel
theorem dX15_prints_13 : decode cX15_prints 13 = .ok (.getfield 327, 3) := by decide +kernel
theorem dX15_prints_16 : decode cX15_prints 16 = .ok (.iconst 1, 1) := by decide +kernel
theorem dX15_prints_17 : decode cX15_prints 17 = .ok (.iadd, 1) := by decide +kernel
theorem dX15_prints_18 : decode cX15_prints 18 = .ok (.putfield 327, 3) := by decide +kernel
theorem dX15_prints_21 : decode cX15_prints 21 = .ok (.return_, 1) := by decide +kernel
/-- LivesAheadModel.prints(I)V -/
def f_X15_prints (σ : TH) (p0 : Nat) (p1 : Int32) : Option (Unit × TH) :=
  gt_ (kd_ σ p0 = 17) <| lt_ (fr_ σ 1627 p0) fun r1 => lt_ (fi_ σ 1641 p0) fun x2 => nn_ r1 fun a3 => gt_ (kd_ σ a3 = 21) <| gt_ (¬ (x2 < 0 ∨ ln_ σ a3 ≤ x2.toNatClampNeg)) <| lt_ (sa_ σ a3 x2.toNatClampNeg (vp_nar .byte ((Int32.toInt8 p1).toInt32))) fun s4 => lt_ (fi_ s4 1641 p0) fun x5 => lt_ (si_ s4 1641 p0 (x5 + (1 : Int32))) fun s6 => some ((), s6)
set_option maxHeartbeats 4000000 in
set_option maxRecDepth 100000 in
theorem c_X15_prints {l : Launch} {D : va_G} {cy : Nat → ClassId} {ka : Nat → Nat} {σ z : TH} {p0 : Nat} {p1 : Int32} {r : Unit} (hf : f_X15_prints σ p0 p1 = some (r, z)) : ct_ l D cy ka yX15_prints 0 0 [va_rf (some p0), .int p1] σ none z := by
  unfold f_X15_prints at hf
  refine v_start (cc := cX15_prints) (own := RX15) (maxL := 2) (ret := none) (nm := "prints") (by decide +kernel) kw_2009 rfl rfl (by simp [lg_sl, va_rf_cat, cat_i, cat_l]) ?_
  refine v_eqL (L2 := [(0, va_rf (some p0)), (1, .int p1)]) (by simp [lv_args, va_rf_cat, cat_i, cat_l]) ?_
  refine v_aload_n (x := (some p0)) dX15_prints_0 rfl 0 rfl ?_
  obtain ⟨hk_p0, hf⟩ := gt_of hf
  refine v_getr cb_16 hk_p0 27 1627 rfl (by decide) rfl (lk_n kw_1484 rfl) hf dX15_prints_1 (fun r1 hf => ?_)
  refine v_aload_n (x := (some p0)) dX15_prints_4 rfl 0 rfl ?_
  refine v_geti cb_16 hk_p0 41 1641 rfl (by decide) rfl (lk_n kw_1498 rfl) hf dX15_prints_5 (fun x2 hf => ?_)
  refine v_iload_n (x := p1) dX15_prints_8 rfl 1 rfl ?_
  refine v_i2b dX15_prints_9 ?_
  obtain ⟨a3, rfl, hf⟩ := nn_of hf
  obtain ⟨hk_a3, hf⟩ := gt_of hf
  refine v_bast2 hk_a3 hf dX15_prints_10 (fun s4 hts4 hf => ?_)
  have hk_p0 := tk_ hts4 hk_p0
  refine v_aload_n (x := (some p0)) dX15_prints_11 rfl 0 rfl ?_
  refine v_dup dX15_prints_12 (va_rf_cat _) ?_
  refine v_geti cb_16 hk_p0 41 1641 rfl (by decide) rfl (lk_n kw_1498 rfl) hf dX15_prints_13 (fun x5 hf => ?_)
  refine v_iconst (v := 1) dX15_prints_16 (by decide) ?_
  refine v_iadd dX15_prints_17 ?_
  refine v_puti2 cb_16 hk_p0 41 1641 rfl (by decide) rfl (lk_n kw_1498 rfl) (Or.inl rfl) rfl rfl hf dX15_prints_18 (fun s6 hts6 hf => ?_)
  have hk_p0 := tk_ hts6 hk_p0
  exact v_vret hf dX15_prints_21
theorem dX15_printsNumber_0 : decode cX15_printsNumber 0 = .ok (.iload_n 1, 1) := by decide +kernel
theorem dX15_printsNumber_1 : decode cX15_printsNumber 1 = .ok (.ifCond .ge 9, 3) := by decide +kernel
theorem dX15_printsNumber_4 : decode cX15_printsNumber 4 = .ok (.aload_n 0, 1) := by decide +kernel
theorem dX15_printsNumber_5 : decode cX15_printsNumber 5 = .ok (.bipush 45, 2) := by decide +kernel
theorem dX15_printsNumber_7 : decode cX15_printsNumber 7 = .ok (.invokevirtual 330, 3) := by decide +kernel
theorem dX15_printsNumber_10 : decode cX15_printsNumber 10 = .ok (.iload_n 1, 1) := by decide +kernel
theorem dX15_printsNumber_11 : decode cX15_printsNumber 11 = .ok (.invokestatic 334, 3) := by decide +kernel
theorem dX15_printsNumber_14 : decode cX15_printsNumber 14 = .ok (.istore_n 2, 1) := by decide +kernel
theorem dX15_printsNumber_15 : decode cX15_printsNumber 15 = .ok (.iconst 1, 1) := by decide +kernel
theorem dX15_printsNumber_16 : decode cX15_printsNumber 16 = .ok (.istore_n 3, 1) := by decide +kernel
theorem dX15_printsNumber_17 : decode cX15_printsNumber 17 = .ok (.iload_n 2, 1) := by decide +kernel
theorem dX15_printsNumber_18 : decode cX15_printsNumber 18 = .ok (.iload_n 3, 1) := by decide +kernel
theorem dX15_printsNumber_19 : decode cX15_printsNumber 19 = .ok (.idiv, 1) := by decide +kernel
theorem dX15_printsNumber_20 : decode cX15_printsNumber 20 = .ok (.bipush 9, 2) := by decide +kernel
theorem dX15_printsNumber_22 : decode cX15_printsNumber 22 = .ok (.if_icmp .le 11, 3) := by decide +kernel
theorem dX15_printsNumber_25 : decode cX15_printsNumber 25 = .ok (.iload_n 3, 1) := by decide +kernel
theorem dX15_printsNumber_26 : decode cX15_printsNumber 26 = .ok (.bipush 10, 2) := by decide +kernel
theorem dX15_printsNumber_28 : decode cX15_printsNumber 28 = .ok (.imul, 1) := by decide +kernel
theorem dX15_printsNumber_29 : decode cX15_printsNumber 29 = .ok (.istore_n 3, 1) := by decide +kernel
theorem dX15_printsNumber_30 : decode cX15_printsNumber 30 = .ok (.goto (-13), 3) := by decide +kernel
theorem dX15_printsNumber_33 : decode cX15_printsNumber 33 = .ok (.iload_n 3, 1) := by decide +kernel
theorem dX15_printsNumber_34 : decode cX15_printsNumber 34 = .ok (.ifCond .le 24, 3) := by decide +kernel
theorem dX15_printsNumber_37 : decode cX15_printsNumber 37 = .ok (.aload_n 0, 1) := by decide +kernel
theorem dX15_printsNumber_38 : decode cX15_printsNumber 38 = .ok (.bipush 48, 2) := by decide +kernel
theorem dX15_printsNumber_40 : decode cX15_printsNumber 40 = .ok (.iload_n 2, 1) := by decide +kernel
theorem dX15_printsNumber_41 : decode cX15_printsNumber 41 = .ok (.iload_n 3, 1) := by decide +kernel
theorem dX15_printsNumber_42 : decode cX15_printsNumber 42 = .ok (.idiv, 1) := by decide +kernel
theorem dX15_printsNumber_43 : decode cX15_printsNumber 43 = .ok (.bipush 10, 2) := by decide +kernel
theorem dX15_printsNumber_45 : decode cX15_printsNumber 45 = .ok (.irem, 1) := by decide +kernel
theorem dX15_printsNumber_46 : decode cX15_printsNumber 46 = .ok (.iadd, 1) := by decide +kernel
theorem dX15_printsNumber_47 : decode cX15_printsNumber 47 = .ok (.invokevirtual 330, 3) := by decide +kernel
theorem dX15_printsNumber_50 : decode cX15_printsNumber 50 = .ok (.iload_n 3, 1) := by decide +kernel
theorem dX15_printsNumber_51 : decode cX15_printsNumber 51 = .ok (.bipush 10, 2) := by decide +kernel
theorem dX15_printsNumber_53 : decode cX15_printsNumber 53 = .ok (.idiv, 1) := by decide +kernel
theorem dX15_printsNumber_54 : decode cX15_printsNumber 54 = .ok (.istore_n 3, 1) := by decide +kernel
theorem dX15_printsNumber_55 : decode cX15_printsNumber 55 = .ok (.goto (-22), 3) := by decide +kernel
theorem dX15_printsNumber_58 : decode cX15_printsNumber 58 = .ok (.return_, 1) := by decide +kernel
def f_X15_printsNumber_b33 : Nat → TH → Nat → Int32 → Int32 → Option (Unit × TH)
  | 0, _, _, _, _ => none
  | n + 1, σ, l0, l2, l3 => if l3 ≤ 0 then (some ((), σ)) else (gt_ (¬ l3 = 0) <| gt_ (¬ (10 : Int32) = 0) <| gt_ (kd_ σ l0 = 17) <| bd_ (f_X15_prints σ l0 ((48 : Int32) + ((l2 / l3) - (l2 / l3) / (10 : Int32) * (10 : Int32)))) fun x2 s3 => gt_ (¬ (10 : Int32) = 0) <| lt_ (l3 / (10 : Int32)) fun x4 => (f_X15_printsNumber_b33 n) s3 l0 l2 x4)
set_option maxHeartbeats 4000000 in
set_option maxRecDepth 100000 in
theorem t_X15_printsNumber_b33 {l : Launch} {D : va_G} {cy : Nat → ClassId} {ka : Nat → Nat} {σ0 z : TH} {r : Unit}  : ∀ (n : Nat) (σ : TH) (l0 : Nat) (l2 : Int32) (l3 : Int32), f_X15_printsNumber_b33 n σ l0 l2 l3 = some (r, z) → v_ l D cy ka cX15_printsNumber RX15 4 none "printsNumber" 1 21 (qf_ D cy σ0 z none) σ0 z σ 33 [(0, va_rf (some l0)), (2, .int l2), (3, .int l3)] [] := by
  intro n
  induction n with
  | zero => intro σ l0 l2 l3 hf; unfold f_X15_printsNumber_b33 at hf; cases hf
  | succ n ih =>
    intro σ l0 l2 l3 hf
    unfold f_X15_printsNumber_b33 at hf
    have hrec_33 := ih
    refine v_iload_n (x := l3) dX15_printsNumber_33 rfl 2 rfl ?_
    refine v_if_le (tgt := 58) hf dX15_printsNumber_34 (by decide) (fun hq hf => ?_) (fun hq hf => ?_)
    · exact v_vret hf dX15_printsNumber_58
    · refine v_aload_n (x := (some l0)) dX15_printsNumber_37 rfl 0 rfl ?_
      refine v_bipush (v := 48) dX15_printsNumber_38 (by decide) ?_
      refine v_iload_n (x := l2) dX15_printsNumber_40 rfl 1 rfl ?_
      refine v_iload_n (x := l3) dX15_printsNumber_41 rfl 2 rfl ?_
      refine v_idiv hf dX15_printsNumber_42 (fun hf => ?_)
      refine v_bipush (v := 10) dX15_printsNumber_43 (by decide) ?_
      refine v_irem hf dX15_printsNumber_45 (fun hf => ?_)
      refine v_iadd dX15_printsNumber_46 ?_
      obtain ⟨hk_l0, hf⟩ := gt_of hf
      obtain ⟨x2, s3, hcs3, hf⟩ := bd_of hf
      have hts3 := c_X15_prints (l := l) (D := D) (cy := cy) (ka := ka) hcs3
      refine v_callV cb_16 hk_l0 (As := [.int ((48 : Int32) + ((l2 / l3) - (l2 / l3) / (10 : Int32) * (10 : Int32)))]) (rest := []) hts3 yb_X15_prints kw_2006 kw_2008 kp_120 rfl ⟨Nat.le_of_ble_eq_true rfl, Nat.le_of_ble_eq_true rfl⟩ rfl (cat_len (Nat.le_of_ble_eq_true rfl)) dX15_printsNumber_47 ?_
      have hk_l0 := tk_ hts3.1 hk_l0
      show v_ l D cy ka cX15_printsNumber RX15 4 none "printsNumber" 1 21 (qf_ D cy σ0 z none) σ0 z _ 50 [(0, va_rf (some l0)), (2, .int l2), (3, .int l3)] []
      refine v_iload_n (x := l3) dX15_printsNumber_50 rfl 2 rfl ?_
      refine v_bipush (v := 10) dX15_printsNumber_51 (by decide) ?_
      refine v_idiv hf dX15_printsNumber_53 (fun hf => ?_)
      obtain ⟨x4, ex4⟩ : ∃ y : Int32, y = l3 / (10 : Int32) := ⟨_, rfl⟩
      rw [lt_e, ← ex4] at hf
      rw [← ex4]
      refine v_istore_n [(3, .int x4), (0, va_rf (some l0)), (2, .int l2)] dX15_printsNumber_54 rfl (by decide) rfl ?_
      refine v_goto (tgt := 33) dX15_printsNumber_55 (by decide) ?_
      refine v_sub [1, 2, 0] (L2 := [(0, va_rf (some l0)), (2, .int l2), (3, .int x4)]) rfl ?_
      exact hrec_33 _ _ _ _ hf
def f_X15_printsNumber_b17 : Nat → TH → Nat → Int32 → Int32 → Option (Unit × TH)
  | 0, _, _, _, _ => none
  | n + 1, σ, l0, l2, l3 => gt_ (¬ l3 = 0) <| if (l2 / l3) ≤ (9 : Int32) then (f_X15_printsNumber_b33 fu_ σ l0 l2 l3) else (lt_ (l3 * (10 : Int32)) fun x5 => (f_X15_printsNumber_b17 n) σ l0 l2 x5)
set_option maxHeartbeats 4000000 in
set_option maxRecDepth 100000 in
theorem t_X15_printsNumber_b17 {l : Launch} {D : va_G} {cy : Nat → ClassId} {ka : Nat → Nat} {σ0 z : TH} {r : Unit}  : ∀ (n : Nat) (σ : TH) (l0 : Nat) (l2 : Int32) (l3 : Int32), f_X15_printsNumber_b17 n σ l0 l2 l3 = some (r, z) → v_ l D cy ka cX15_printsNumber RX15 4 none "printsNumber" 1 21 (qf_ D cy σ0 z none) σ0 z σ 17 [(0, va_rf (some l0)), (2, .int l2), (3, .int l3)] [] := by
  intro n
  induction n with
  | zero => intro σ l0 l2 l3 hf; unfold f_X15_printsNumber_b17 at hf; cases hf
  | succ n ih =>
    intro σ l0 l2 l3 hf
    unfold f_X15_printsNumber_b17 at hf
    have hrec_17 := ih
    refine v_iload_n (x := l2) dX15_printsNumber_17 rfl 1 rfl ?_
    refine v_iload_n (x := l3) dX15_printsNumber_18 rfl 2 rfl ?_
    refine v_idiv hf dX15_printsNumber_19 (fun hf => ?_)
    refine v_bipush (v := 9) dX15_printsNumber_20 (by decide) ?_
    refine v_icmp_le (tgt := 33) hf dX15_printsNumber_22 (by decide) (fun hq hf => ?_) (fun hq hf => ?_)
    · refine v_sub [0, 1, 2] (L2 := [(0, va_rf (some l0)), (2, .int l2), (3, .int l3)]) rfl ?_
      exact t_X15_printsNumber_b33  _ _ _ _ _ hf
    · refine v_iload_n (x := l3) dX15_printsNumber_25 rfl 2 rfl ?_
      refine v_bipush (v := 10) dX15_printsNumber_26 (by decide) ?_
      refine v_imul dX15_printsNumber_28 ?_
      obtain ⟨x5, ex5⟩ : ∃ y : Int32, y = l3 * (10 : Int32) := ⟨_, rfl⟩
      rw [lt_e, ← ex5] at hf
      rw [← ex5]
      refine v_istore_n [(3, .int x5), (0, va_rf (some l0)), (2, .int l2)] dX15_printsNumber_29 rfl (by decide) rfl ?_
      refine v_goto (tgt := 17) dX15_printsNumber_30 (by decide) ?_
      refine v_sub [1, 2, 0] (L2 := [(0, va_rf (some l0)), (2, .int l2), (3, .int x5)]) rfl ?_
      exact hrec_17 _ _ _ _ hf
def f_X15_printsNumber_b10 (σ : TH) (l0 : Nat) (l1 : Int32) : Option (Unit × TH) :=
  lt_ (if 0 ≤ l1 then l1 else 0 - l1) fun x1 => f_X15_printsNumber_b17 fu_ σ l0 x1 (1 : Int32)
set_option maxHeartbeats 4000000 in
set_option maxRecDepth 100000 in
theorem t_X15_printsNumber_b10 {l : Launch} {D : va_G} {cy : Nat → ClassId} {ka : Nat → Nat} {σ0 z : TH} {r : Unit}  {σ : TH} {l0 : Nat} {l1 : Int32} (hf : f_X15_printsNumber_b10 σ l0 l1 = some (r, z)) : v_ l D cy ka cX15_printsNumber RX15 4 none "printsNumber" 1 21 (qf_ D cy σ0 z none) σ0 z σ 10 [(0, va_rf (some l0)), (1, .int l1)] [] := by
  unfold f_X15_printsNumber_b10 at hf
  refine v_iload_n (x := l1) dX15_printsNumber_10 rfl 1 rfl ?_
  refine v_mabs kw_2010 kw_16 (by decide) (by decide) (cat_len (Nat.le_of_ble_eq_true rfl)) dX15_printsNumber_11 ?_
  obtain ⟨x1, ex1⟩ : ∃ y : Int32, y = if 0 ≤ l1 then l1 else 0 - l1 := ⟨_, rfl⟩
  rw [lt_e, ← ex1] at hf
  rw [← ex1]
  refine v_istore_n [(2, .int x1), (0, va_rf (some l0)), (1, .int l1)] dX15_printsNumber_14 rfl (by decide) rfl ?_
  refine v_iconst (v := 1) dX15_printsNumber_15 (by decide) ?_
  refine v_istore_n [(3, .int (1 : Int32)), (2, .int x1), (0, va_rf (some l0)), (1, .int l1)] dX15_printsNumber_16 rfl (by decide) rfl ?_
  refine v_sub [2, 1, 0] (L2 := [(0, va_rf (some l0)), (2, .int x1), (3, .int (1 : Int32))]) rfl ?_
  exact t_X15_printsNumber_b17  _ _ _ _ _ hf
/-- LivesAheadModel.printsNumber(I)V -/
def f_X15_printsNumber (σ : TH) (p0 : Nat) (p1 : Int32) : Option (Unit × TH) :=
  if 0 ≤ p1 then (f_X15_printsNumber_b10 σ p0 p1) else (gt_ (kd_ σ p0 = 17) <| bd_ (f_X15_prints σ p0 (45 : Int32)) fun x6 s7 => f_X15_printsNumber_b10 s7 p0 p1)
set_option maxHeartbeats 4000000 in
set_option maxRecDepth 100000 in
theorem c_X15_printsNumber {l : Launch} {D : va_G} {cy : Nat → ClassId} {ka : Nat → Nat} {σ z : TH} {p0 : Nat} {p1 : Int32} {r : Unit} (hf : f_X15_printsNumber σ p0 p1 = some (r, z)) : ct_ l D cy ka yX15_printsNumber 1 21 [va_rf (some p0), .int p1] σ none z := by
  unfold f_X15_printsNumber at hf
  refine v_start (cc := cX15_printsNumber) (own := RX15) (maxL := 4) (ret := none) (nm := "printsNumber") (by decide +kernel) kw_2005 rfl rfl (by simp [lg_sl, va_rf_cat, cat_i, cat_l]) ?_
  refine v_eqL (L2 := [(0, va_rf (some p0)), (1, .int p1)]) (by simp [lv_args, va_rf_cat, cat_i, cat_l]) ?_
  refine v_iload_n (x := p1) dX15_printsNumber_0 rfl 1 rfl ?_
  refine v_if_ge (tgt := 10) hf dX15_printsNumber_1 (by decide) (fun hq hf => ?_) (fun hq hf => ?_)
  · refine v_sub [0, 1] (L2 := [(0, va_rf (some p0)), (1, .int p1)]) rfl ?_
    exact t_X15_printsNumber_b10  hf
  · refine v_aload_n (x := (some p0)) dX15_printsNumber_4 rfl 0 rfl ?_
    refine v_bipush (v := 45) dX15_printsNumber_5 (by decide) ?_
    obtain ⟨hk_p0, hf⟩ := gt_of hf
    obtain ⟨x6, s7, hcs7, hf⟩ := bd_of hf
    have hts7 := c_X15_prints (l := l) (D := D) (cy := cy) (ka := ka) hcs7
    refine v_callV cb_16 hk_p0 (As := [.int (45 : Int32)]) (rest := []) hts7 yb_X15_prints kw_2006 kw_2008 kp_120 rfl ⟨Nat.le_of_ble_eq_true rfl, Nat.le_of_ble_eq_true rfl⟩ rfl (cat_len (Nat.le_of_ble_eq_true rfl)) dX15_printsNumber_7 ?_
    have hk_p0 := tk_ hts7.1 hk_p0
    show v_ l D cy ka cX15_printsNumber RX15 4 none "printsNumber" 1 21 (qf_ D cy σ z none) σ z _ 10 [(0, va_rf (some p0)), (1, .int p1)] []
    refine v_sub [0, 1] (L2 := [(0, va_rf (some p0)), (1, .int p1)]) rfl ?_
    exact t_X15_printsNumber_b10  hf
theorem dX15_stop_0 : decode cX15_stop 0 = .ok (.aload_n 0, 1) := by decide +kernel
theorem dX15_stop_1 : decode cX15_stop 1 = .ok (.getfield 75, 3) := by decide +kernel
theorem dX15_stop_4 : decode cX15_stop 4 = .ok (.iload_n 1, 1) := by decide +kernel
theorem dX15_stop_5 : decode cX15_stop 5 = .ok (.putfield 269, 3) := by decide +kernel
theorem dX15_stop_8 : decode cX15_stop 8 = .ok (.aload_n 0, 1) := by decide +kernel
theorem dX15_stop_9 : decode cX15_stop 9 = .ok (.getfield 75, 3) := by decide +kernel
theorem dX15_stop_12 : decode cX15_stop 12 = .ok (.iload_n 2, 1) := by decide +kernel
theorem dX15_stop_13 : decode cX15_stop 13 = .ok (.putfield 272, 3) := by decide +kernel
theorem dX15_stop_16 : decode cX15_stop 16 = .ok (.aload_n 0, 1) := by decide +kernel
theorem dX15_stop_17 : decode cX15_stop 17 = .ok (.getfield 75, 3) := by decide +kernel
theorem dX15_stop_20 : decode cX15_stop 20 = .ok (.areturn, 1) := by decide +kernel
/-- LivesAheadModel.stop(II)LLivesAheadModel$Stop; -/
def f_X15_stop (σ : TH) (p0 : Nat) (p1 : Int32) (p2 : Int32) : Option (Option Nat × TH) :=
  gt_ (kd_ σ p0 = 17) <| lt_ (fr_ σ 1625 p0) fun r1 => nn_ r1 fun a2 => gt_ (kd_ σ a2 = 16) <| lt_ (si_ σ 1506 a2 p1) fun s3 => lt_ (fr_ s3 1625 p0) fun r4 => nn_ r4 fun a5 => gt_ (kd_ s3 a5 = 16) <| lt_ (si_ s3 1507 a5 p2) fun s6 => lt_ (fr_ s6 1625 p0) fun r7 => some (r7, s6)
set_option maxHeartbeats 4000000 in
set_option maxRecDepth 100000 in
theorem c_X15_stop {l : Launch} {D : va_G} {cy : Nat → ClassId} {ka : Nat → Nat} {σ z : TH} {p0 : Nat} {p1 : Int32} {p2 : Int32} {r : Option Nat} (hf : f_X15_stop σ p0 p1 p2 = some (r, z)) : ct_ l D cy ka yX15_stop 0 0 [va_rf (some p0), .int p1, .int p2] σ (some (va_rf r)) z := by
  unfold f_X15_stop at hf
  refine v_start (cc := cX15_stop) (own := RX15) (maxL := 3) (ret := (some (FieldType.object "LivesAheadModel$Stop"))) (nm := "stop") (by decide +kernel) kw_1891 rfl rfl (by simp [lg_sl, va_rf_cat, cat_i, cat_l]) ?_
  refine v_eqL (L2 := [(0, va_rf (some p0)), (1, .int p1), (2, .int p2)]) (by simp [lv_args, va_rf_cat, cat_i, cat_l]) ?_
  refine v_aload_n (x := (some p0)) dX15_stop_0 rfl 0 rfl ?_
  obtain ⟨hk_p0, hf⟩ := gt_of hf
  refine v_getr cb_16 hk_p0 25 1625 rfl (by decide) rfl (lk_n kw_1482 rfl) hf dX15_stop_1 (fun r1 hf => ?_)
  refine v_iload_n (x := p1) dX15_stop_4 rfl 1 rfl ?_
  obtain ⟨a2, rfl, hf⟩ := nn_of hf
  obtain ⟨hk_a2, hf⟩ := gt_of hf
  refine v_puti2 cb_15 hk_a2 6 1506 rfl (by decide) rfl (lk_N kw_1445 rfl) (Or.inl rfl) rfl rfl hf dX15_stop_5 (fun s3 hts3 hf => ?_)
  have hk_p0 := tk_ hts3 hk_p0
  refine v_aload_n (x := (some p0)) dX15_stop_8 rfl 0 rfl ?_
  refine v_getr cb_16 hk_p0 25 1625 rfl (by decide) rfl (lk_n kw_1482 rfl) hf dX15_stop_9 (fun r4 hf => ?_)
  refine v_iload_n (x := p2) dX15_stop_12 rfl 2 rfl ?_
  obtain ⟨a5, rfl, hf⟩ := nn_of hf
  obtain ⟨hk_a5, hf⟩ := gt_of hf
  refine v_puti2 cb_15 hk_a5 7 1507 rfl (by decide) rfl (lk_N kw_1446 rfl) (Or.inl rfl) rfl rfl hf dX15_stop_13 (fun s6 hts6 hf => ?_)
  have hk_p0 := tk_ hts6 hk_p0
  refine v_aload_n (x := (some p0)) dX15_stop_16 rfl 0 rfl ?_
  refine v_getr cb_16 hk_p0 25 1625 rfl (by decide) rfl (lk_n kw_1482 rfl) hf dX15_stop_17 (fun r7 hf => ?_)
  exact v_aret (x := r7) hf (Or.inl ⟨_, rfl⟩) dX15_stop_20
theorem dX15_fitsTo_0 : decode cX15_fitsTo 0 = .ok (.aload_n 0, 1) := by decide +kernel
theorem dX15_fitsTo_1 : decode cX15_fitsTo 1 = .ok (.getfield 23, 3) := by decide +kernel
theorem dX15_fitsTo_4 : decode cX15_fitsTo 4 = .ok (.iload_n 2, 1) := by decide +kernel
theorem dX15_fitsTo_5 : decode cX15_fitsTo 5 = .ok (.iaload, 1) := by decide +kernel
theorem dX15_fitsTo_6 : decode cX15_fitsTo 6 = .ok (.aload_n 0, 1) := by decide +kernel
theorem dX15_fitsTo_7 : decode cX15_fitsTo 7 = .ok (.getfield 122, 3) := by decide +kernel
theorem dX15_fitsTo_10 : decode cX15_fitsTo 10 = .ok (.iload_n 1, 1) := by decide +kernel
theorem dX15_fitsTo_11 : decode cX15_fitsTo 11 = .ok (.iaload, 1) := by decide +kernel
theorem dX15_fitsTo_12 : decode cX15_fitsTo 12 = .ok (.if_icmp .ne 7, 3) := by decide +kernel
theorem dX15_fitsTo_15 : decode cX15_fitsTo 15 = .ok (.iconst 1, 1) := by decide +kernel
theorem dX15_fitsTo_16 : decode cX15_fitsTo 16 = .ok (.goto 4, 3) := by decide +kernel
theorem dX15_fitsTo_19 : decode cX15_fitsTo 19 = .ok (.iconst 0, 1) := by decide +kernel
theorem dX15_fitsTo_20 : decode cX15_fitsTo 20 = .ok (.istore_n 3, 1) := by decide +kernel
theorem dX15_fitsTo_21 : decode cX15_fitsTo 21 = .ok (.iconst 0, 1) := by decide +kernel
theorem dX15_fitsTo_22 : decode cX15_fitsTo 22 = .ok (.istore 4, 2) := by decide +kernel
theorem dX15_fitsTo_24 : decode cX15_fitsTo 24 = .ok (.iload 4, 2) := by decide +kernel
theorem dX15_fitsTo_26 : decode cX15_fitsTo 26 = .ok (.iconst 3, 1) := by decide +kernel
theorem dX15_fitsTo_27 : decode cX15_fitsTo 27 = .ok (.if_icmp .ge 82, 3) := by decide +kernel
theorem dX15_fitsTo_30 : decode cX15_fitsTo 30 = .ok (.iload_n 3, 1) := by decide +kernel
theorem dX15_fitsTo_31 : decode cX15_fitsTo 31 = .ok (.ifCond .eq 78, 3) := by decide +kernel
theorem dX15_fitsTo_34 : decode cX15_fitsTo 34 = .ok (.aload_n 0, 1) := by decide +kernel
theorem dX15_fitsTo_35 : decode cX15_fitsTo 35 = .ok (.getfield 134, 3) := by decide +kernel
theorem dX15_fitsTo_38 : decode cX15_fitsTo 38 = .ok (.iconst 3, 1) := by decide +kernel
theorem dX15_fitsTo_39 : decode cX15_fitsTo 39 = .ok (.iload_n 1, 1) := by decide +kernel
theorem dX15_fitsTo_40 : decode cX15_fitsTo 40 = .ok (.imul, 1) := by decide +kernel
theorem dX15_fitsTo_41 : decode cX15_fitsTo 41 = .ok (.iload 4, 2) := by decide +kernel
theorem dX15_fitsTo_43 : decode cX15_fitsTo 43 = .ok (.iadd, 1) := by decide +kernel
theorem dX15_fitsTo_44 : decode cX15_fitsTo 44 = .ok (.iaload, 1) := by decide +kernel
theorem dX15_fitsTo_45 : decode cX15_fitsTo 45 = .ok (.istore 5, 2) := by decide +kernel
theorem dX15_fitsTo_47 : decode cX15_fitsTo 47 = .ok (.iload 5, 2) := by decide +kernel
theorem dX15_fitsTo_49 : decode cX15_fitsTo 49 = .ok (.iconst (-1), 1) := by decide +kernel
theorem dX15_fitsTo_50 : decode cX15_fitsTo 50 = .ok (.if_icmp .ne 7, 3) := by decide +kernel
theorem dX15_fitsTo_53 : decode cX15_fitsTo 53 = .ok (.iconst (-1), 1) := by decide +kernel
theorem dX15_fitsTo_54 : decode cX15_fitsTo 54 = .ok (.goto 14, 3) := by decide +kernel
theorem dX15_fitsTo_57 : decode cX15_fitsTo 57 = .ok (.aload_n 0, 1) := by decide +kernel
theorem dX15_fitsTo_58 : decode cX15_fitsTo 58 = .ok (.iload_n 2, 1) := by decide +kernel
theorem dX15_fitsTo_59 : decode cX15_fitsTo 59 = .ok (.iload 5, 2) := by decide +kernel
theorem dX15_fitsTo_61 : decode cX15_fitsTo 61 = .ok (.aload_n 0, 1) := by decide +kernel
theorem dX15_fitsTo_62 : decode cX15_fitsTo 62 = .ok (.invokevirtual 230, 3) := by decide +kernel
theorem dX15_fitsTo_65 : decode cX15_fitsTo 65 = .ok (.invokevirtual 262, 3) := by decide +kernel
theorem dX15_fitsTo_68 : decode cX15_fitsTo 68 = .ok (.istore 6, 2) := by decide +kernel
theorem dX15_fitsTo_70 : decode cX15_fitsTo 70 = .ok (.iload 6, 2) := by decide +kernel
theorem dX15_fitsTo_72 : decode cX15_fitsTo 72 = .ok (.iconst (-1), 1) := by decide +kernel
theorem dX15_fitsTo_73 : decode cX15_fitsTo 73 = .ok (.if_icmp .eq 24, 3) := by decide +kernel
theorem dX15_fitsTo_76 : decode cX15_fitsTo 76 = .ok (.aload_n 0, 1) := by decide +kernel
theorem dX15_fitsTo_77 : decode cX15_fitsTo 77 = .ok (.getfield 63, 3) := by decide +kernel
theorem dX15_fitsTo_80 : decode cX15_fitsTo 80 = .ok (.iload 6, 2) := by decide +kernel
theorem dX15_fitsTo_82 : decode cX15_fitsTo 82 = .ok (.iaload, 1) := by decide +kernel
theorem dX15_fitsTo_83 : decode cX15_fitsTo 83 = .ok (.aload_n 0, 1) := by decide +kernel
theorem dX15_fitsTo_84 : decode cX15_fitsTo 84 = .ok (.getfield 137, 3) := by decide +kernel
theorem dX15_fitsTo_87 : decode cX15_fitsTo 87 = .ok (.iconst 3, 1) := by decide +kernel
theorem dX15_fitsTo_88 : decode cX15_fitsTo 88 = .ok (.iload_n 1, 1) := by decide +kernel
theorem dX15_fitsTo_89 : decode cX15_fitsTo 89 = .ok (.imul, 1) := by decide +kernel
theorem dX15_fitsTo_90 : decode cX15_fitsTo 90 = .ok (.iload 4, 2) := by decide +kernel
theorem dX15_fitsTo_92 : decode cX15_fitsTo 92 = .ok (.iadd, 1) := by decide +kernel
theorem dX15_fitsTo_93 : decode cX15_fitsTo 93 = .ok (.iaload, 1) := by decide +kernel
theorem dX15_fitsTo_94 : decode cX15_fitsTo 94 = .ok (.if_icmp .ne 7, 3) := by decide +kernel
theorem dX15_fitsTo_97 : decode cX15_fitsTo 97 = .ok (.iconst 1, 1) := by decide +kernel
theorem dX15_fitsTo_98 : decode cX15_fitsTo 98 = .ok (.goto 4, 3) := by decide +kernel
theorem dX15_fitsTo_101 : decode cX15_fitsTo 101 = .ok (.iconst 0, 1) := by decide +kernel
theorem dX15_fitsTo_102 : decode cX15_fitsTo 102 = .ok (.istore_n 3, 1) := by decide +kernel
theorem dX15_fitsTo_103 : decode cX15_fitsTo 103 = .ok (.iinc 4 1, 3) := by decide +kernel
theorem dX15_fitsTo_106 : decode cX15_fitsTo 106 = .ok (.goto (-82), 3) := by decide +kernel
theorem dX15_fitsTo_109 : decode cX15_fitsTo 109 = .ok (.iload_n 3, 1) := by decide +kernel
theorem dX15_fitsTo_110 : decode cX15_fitsTo 110 = .ok (.ireturn, 1) := by decide +kernel
def f_X15_fitsTo_b109 (σ : TH) (l3 : Int32) : Option (Int32 × TH) :=
  gt_ (l3 = 0 ∨ l3 = 1) <| some (l3, σ)
set_option maxHeartbeats 4000000 in
set_option maxRecDepth 100000 in
theorem t_X15_fitsTo_b109 {l : Launch} {D : va_G} {cy : Nat → ClassId} {ka : Nat → Nat} {σ0 z : TH} {r : Int32}  {σ : TH} {l3 : Int32} (hf : f_X15_fitsTo_b109 σ l3 = some (r, z)) : v_ l D cy ka cX15_fitsTo RX15 7 (some FieldType.boolean) "fitsTo" 1 25 (qf_ D cy σ0 z (some (.int r))) σ0 z σ 109 [(3, .int l3)] [] := by
  unfold f_X15_fitsTo_b109 at hf
  refine v_iload_n (x := l3) dX15_fitsTo_109 rfl 0 rfl ?_
  obtain ⟨hb9, hf⟩ := gt_of hf
  exact v_zret hf (nz_ hb9) dX15_fitsTo_110
def f_X15_fitsTo_b102 (rec_24 : TH → Nat → Int32 → Int32 → Int32 → Int32 → Option (Int32 × TH)) (σ : TH) (l0 : Nat) (l1 : Int32) (l2 : Int32) (l4 : Int32) (t0 : Int32) : Option (Int32 × TH) :=
  lt_ (l4 + 1) fun x10 => rec_24 σ l0 l1 l2 t0 x10
set_option maxHeartbeats 4000000 in
set_option maxRecDepth 100000 in
theorem t_X15_fitsTo_b102 {l : Launch} {D : va_G} {cy : Nat → ClassId} {ka : Nat → Nat} {σ0 z : TH} {r : Int32} {rec_24 : TH → Nat → Int32 → Int32 → Int32 → Int32 → Option (Int32 × TH)} (hrec_24 : ∀ (σ : TH) (l0 : Nat) (l1 : Int32) (l2 : Int32) (l3 : Int32) (l4 : Int32), rec_24 σ l0 l1 l2 l3 l4 = some (r, z) → v_ l D cy ka cX15_fitsTo RX15 7 (some FieldType.boolean) "fitsTo" 1 25 (qf_ D cy σ0 z (some (.int r))) σ0 z σ 24 [(0, va_rf (some l0)), (1, .int l1), (2, .int l2), (3, .int l3), (4, .int l4)] []) {σ : TH} {l0 : Nat} {l1 : Int32} {l2 : Int32} {l4 : Int32} {t0 : Int32} (hf : f_X15_fitsTo_b102 rec_24 σ l0 l1 l2 l4 t0 = some (r, z)) : v_ l D cy ka cX15_fitsTo RX15 7 (some FieldType.boolean) "fitsTo" 1 25 (qf_ D cy σ0 z (some (.int r))) σ0 z σ 102 [(0, va_rf (some l0)), (1, .int l1), (2, .int l2), (4, .int l4)] [.int t0] := by
  unfold f_X15_fitsTo_b102 at hf
  refine v_istore_n [(3, .int t0), (0, va_rf (some l0)), (1, .int l1), (2, .int l2), (4, .int l4)] dX15_fitsTo_102 rfl (by decide) rfl ?_
  obtain ⟨x10, ex10⟩ : ∃ y : Int32, y = l4 + 1 := ⟨_, rfl⟩
  rw [lt_e, ← ex10] at hf
  refine v_iinc (v := x10) [(4, .int x10), (3, .int t0), (0, va_rf (some l0)), (1, .int l1), (2, .int l2)] dX15_fitsTo_103 4 rfl (by rw [ex10]; rfl) (by decide) rfl ?_
  refine v_goto (tgt := 24) dX15_fitsTo_106 (by decide) ?_
  refine v_sub [2, 3, 4, 1, 0] (L2 := [(0, va_rf (some l0)), (1, .int l1), (2, .int l2), (3, .int t0), (4, .int x10)]) rfl ?_
  exact hrec_24 _ _ _ _ _ _ hf
def f_X15_fitsTo_b97 (rec_24 : TH → Nat → Int32 → Int32 → Int32 → Int32 → Option (Int32 × TH)) (σ : TH) (l0 : Nat) (l1 : Int32) (l2 : Int32) (l4 : Int32) : Option (Int32 × TH) :=
  f_X15_fitsTo_b102 rec_24 σ l0 l1 l2 l4 (1 : Int32)
set_option maxHeartbeats 4000000 in
set_option maxRecDepth 100000 in
theorem t_X15_fitsTo_b97 {l : Launch} {D : va_G} {cy : Nat → ClassId} {ka : Nat → Nat} {σ0 z : TH} {r : Int32} {rec_24 : TH → Nat → Int32 → Int32 → Int32 → Int32 → Option (Int32 × TH)} (hrec_24 : ∀ (σ : TH) (l0 : Nat) (l1 : Int32) (l2 : Int32) (l3 : Int32) (l4 : Int32), rec_24 σ l0 l1 l2 l3 l4 = some (r, z) → v_ l D cy ka cX15_fitsTo RX15 7 (some FieldType.boolean) "fitsTo" 1 25 (qf_ D cy σ0 z (some (.int r))) σ0 z σ 24 [(0, va_rf (some l0)), (1, .int l1), (2, .int l2), (3, .int l3), (4, .int l4)] []) {σ : TH} {l0 : Nat} {l1 : Int32} {l2 : Int32} {l4 : Int32} (hf : f_X15_fitsTo_b97 rec_24 σ l0 l1 l2 l4 = some (r, z)) : v_ l D cy ka cX15_fitsTo RX15 7 (some FieldType.boolean) "fitsTo" 1 25 (qf_ D cy σ0 z (some (.int r))) σ0 z σ 97 [(0, va_rf (some l0)), (1, .int l1), (2, .int l2), (4, .int l4)] [] := by
  unfold f_X15_fitsTo_b97 at hf
  refine v_iconst (v := 1) dX15_fitsTo_97 (by decide) ?_
  refine v_goto (tgt := 102) dX15_fitsTo_98 (by decide) ?_
  refine v_sub [0, 1, 2, 3] (L2 := [(0, va_rf (some l0)), (1, .int l1), (2, .int l2), (4, .int l4)]) rfl ?_
  exact t_X15_fitsTo_b102 hrec_24 hf
def f_X15_fitsTo_b68 (rec_24 : TH → Nat → Int32 → Int32 → Int32 → Int32 → Option (Int32 × TH)) (σ : TH) (l0 : Nat) (l1 : Int32) (l2 : Int32) (l4 : Int32) (t0 : Int32) : Option (Int32 × TH) :=
  if t0 = (-1 : Int32) then (f_X15_fitsTo_b97 rec_24 σ l0 l1 l2 l4) else (gt_ (kd_ σ l0 = 17) <| lt_ (fr_ σ 1622 l0) fun r11 => nn_ r11 fun a12 => gt_ (kd_ σ a12 = 20) <| gt_ (¬ (t0 < 0 ∨ ln_ σ a12 ≤ t0.toNatClampNeg)) <| lt_ (ai_ σ a12 t0.toNatClampNeg) fun x13 => lt_ (fr_ σ 1667 l0) fun r14 => nn_ r14 fun a15 => gt_ (kd_ σ a15 = 20) <| gt_ (¬ ((((3 : Int32) * l1) + l4) < 0 ∨ ln_ σ a15 ≤ (((3 : Int32) * l1) + l4 : Int32).toNatClampNeg)) <| lt_ (ai_ σ a15 ((((3 : Int32) * l1) + l4 : Int32).toNatClampNeg)) fun x16 => if x13 = x16 then (f_X15_fitsTo_b97 rec_24 σ l0 l1 l2 l4) else (f_X15_fitsTo_b102 rec_24 σ l0 l1 l2 l4 (0 : Int32)))
set_option maxHeartbeats 4000000 in
set_option maxRecDepth 100000 in
theorem t_X15_fitsTo_b68 {l : Launch} {D : va_G} {cy : Nat → ClassId} {ka : Nat → Nat} {σ0 z : TH} {r : Int32} {rec_24 : TH → Nat → Int32 → Int32 → Int32 → Int32 → Option (Int32 × TH)} (hrec_24 : ∀ (σ : TH) (l0 : Nat) (l1 : Int32) (l2 : Int32) (l3 : Int32) (l4 : Int32), rec_24 σ l0 l1 l2 l3 l4 = some (r, z) → v_ l D cy ka cX15_fitsTo RX15 7 (some FieldType.boolean) "fitsTo" 1 25 (qf_ D cy σ0 z (some (.int r))) σ0 z σ 24 [(0, va_rf (some l0)), (1, .int l1), (2, .int l2), (3, .int l3), (4, .int l4)] []) {σ : TH} {l0 : Nat} {l1 : Int32} {l2 : Int32} {l4 : Int32} {t0 : Int32} (hf : f_X15_fitsTo_b68 rec_24 σ l0 l1 l2 l4 t0 = some (r, z)) : v_ l D cy ka cX15_fitsTo RX15 7 (some FieldType.boolean) "fitsTo" 1 25 (qf_ D cy σ0 z (some (.int r))) σ0 z σ 68 [(0, va_rf (some l0)), (1, .int l1), (2, .int l2), (4, .int l4)] [.int t0] := by
  unfold f_X15_fitsTo_b68 at hf
  refine v_istore [(6, .int t0), (0, va_rf (some l0)), (1, .int l1), (2, .int l2), (4, .int l4)] dX15_fitsTo_68 (by decide) rfl ?_
  refine v_iload (x := t0) dX15_fitsTo_70 0 rfl ?_
  refine v_iconst (v := (-1)) dX15_fitsTo_72 (by decide) ?_
  refine v_icmp_eq (tgt := 97) hf dX15_fitsTo_73 (by decide) (fun hq hf => ?_) (fun hq hf => ?_)
  · refine v_sub [1, 2, 3, 4] (L2 := [(0, va_rf (some l0)), (1, .int l1), (2, .int l2), (4, .int l4)]) rfl ?_
    exact t_X15_fitsTo_b97 hrec_24 hf
  · refine v_aload_n (x := (some l0)) dX15_fitsTo_76 rfl 1 rfl ?_
    obtain ⟨hk_l0, hf⟩ := gt_of hf
    refine v_getr cb_16 hk_l0 22 1622 rfl (by decide) rfl (lk_n kw_1479 rfl) hf dX15_fitsTo_77 (fun r11 hf => ?_)
    refine v_iload (x := t0) dX15_fitsTo_80 0 rfl ?_
    obtain ⟨a12, rfl, hf⟩ := nn_of hf
    obtain ⟨hk_a12, hf⟩ := gt_of hf
    refine v_iald hk_a12 hf dX15_fitsTo_82 (fun x13 hf => ?_)
    refine v_aload_n (x := (some l0)) dX15_fitsTo_83 rfl 1 rfl ?_
    refine v_getr cb_16 hk_l0 67 1667 rfl (by decide) rfl (lk_n kw_1524 rfl) hf dX15_fitsTo_84 (fun r14 hf => ?_)
    refine v_iconst (v := 3) dX15_fitsTo_87 (by decide) ?_
    refine v_iload_n (x := l1) dX15_fitsTo_88 rfl 2 rfl ?_
    refine v_imul dX15_fitsTo_89 ?_
    refine v_iload (x := l4) dX15_fitsTo_90 4 rfl ?_
    refine v_iadd dX15_fitsTo_92 ?_
    obtain ⟨a15, rfl, hf⟩ := nn_of hf
    obtain ⟨hk_a15, hf⟩ := gt_of hf
    refine v_iald hk_a15 hf dX15_fitsTo_93 (fun x16 hf => ?_)
    refine v_icmp_ne (tgt := 101) hf dX15_fitsTo_94 (by decide) (fun hq hf => ?_) (fun hq hf => ?_)
    · refine v_sub [1, 2, 3, 4] (L2 := [(0, va_rf (some l0)), (1, .int l1), (2, .int l2), (4, .int l4)]) rfl ?_
      exact t_X15_fitsTo_b97 hrec_24 hf
    · refine v_iconst (v := 0) dX15_fitsTo_101 (by decide) ?_
      refine v_sub [1, 2, 3, 4] (L2 := [(0, va_rf (some l0)), (1, .int l1), (2, .int l2), (4, .int l4)]) rfl ?_
      exact t_X15_fitsTo_b102 hrec_24 hf
def f_X15_fitsTo_b24 : Nat → TH → Nat → Int32 → Int32 → Int32 → Int32 → Option (Int32 × TH)
  | 0, _, _, _, _, _, _ => none
  | n + 1, σ, l0, l1, l2, l3, l4 => if (3 : Int32) ≤ l4 then (f_X15_fitsTo_b109 σ l3) else (if l3 = 0 then (f_X15_fitsTo_b109 σ l3) else (gt_ (kd_ σ l0 = 17) <| lt_ (fr_ σ 1666 l0) fun r7 => nn_ r7 fun a8 => gt_ (kd_ σ a8 = 20) <| gt_ (¬ ((((3 : Int32) * l1) + l4) < 0 ∨ ln_ σ a8 ≤ (((3 : Int32) * l1) + l4 : Int32).toNatClampNeg)) <| lt_ (ai_ σ a8 ((((3 : Int32) * l1) + l4 : Int32).toNatClampNeg)) fun x9 => if x9 = (-1 : Int32) then (f_X15_fitsTo_b68 (f_X15_fitsTo_b24 n) σ l0 l1 l2 l4 (-1 : Int32)) else (bd_ (f_X15_today σ l0) fun x17 s18 => bd_ (f_X15_tellingOn s18 l0 l2 x9 x17) fun x19 s20 => f_X15_fitsTo_b68 (f_X15_fitsTo_b24 n) s20 l0 l1 l2 l4 x19)))
set_option maxHeartbeats 4000000 in
set_option maxRecDepth 100000 in
theorem t_X15_fitsTo_b24 {l : Launch} {D : va_G} {cy : Nat → ClassId} {ka : Nat → Nat} {σ0 z : TH} {r : Int32}  : ∀ (n : Nat) (σ : TH) (l0 : Nat) (l1 : Int32) (l2 : Int32) (l3 : Int32) (l4 : Int32), f_X15_fitsTo_b24 n σ l0 l1 l2 l3 l4 = some (r, z) → v_ l D cy ka cX15_fitsTo RX15 7 (some FieldType.boolean) "fitsTo" 1 25 (qf_ D cy σ0 z (some (.int r))) σ0 z σ 24 [(0, va_rf (some l0)), (1, .int l1), (2, .int l2), (3, .int l3), (4, .int l4)] [] := by
  intro n
  induction n with
  | zero => intro σ l0 l1 l2 l3 l4 hf; unfold f_X15_fitsTo_b24 at hf; cases hf
  | succ n ih =>
    intro σ l0 l1 l2 l3 l4 hf
    unfold f_X15_fitsTo_b24 at hf
    have hrec_24 := ih
    refine v_iload (x := l4) dX15_fitsTo_24 4 rfl ?_
    refine v_iconst (v := 3) dX15_fitsTo_26 (by decide) ?_
    refine v_icmp_ge (tgt := 109) hf dX15_fitsTo_27 (by decide) (fun hq hf => ?_) (fun hq hf => ?_)
    · refine v_sub [3] (L2 := [(3, .int l3)]) rfl ?_
      exact t_X15_fitsTo_b109  hf
    · refine v_iload_n (x := l3) dX15_fitsTo_30 rfl 3 rfl ?_
      refine v_if_eq (tgt := 109) hf dX15_fitsTo_31 (by decide) (fun hq hf => ?_) (fun hq hf => ?_)
      · refine v_sub [3] (L2 := [(3, .int l3)]) rfl ?_
        exact t_X15_fitsTo_b109  hf
      · refine v_aload_n (x := (some l0)) dX15_fitsTo_34 rfl 0 rfl ?_
        obtain ⟨hk_l0, hf⟩ := gt_of hf
        refine v_getr cb_16 hk_l0 66 1666 rfl (by decide) rfl (lk_n kw_1523 rfl) hf dX15_fitsTo_35 (fun r7 hf => ?_)
        refine v_iconst (v := 3) dX15_fitsTo_38 (by decide) ?_
        refine v_iload_n (x := l1) dX15_fitsTo_39 rfl 1 rfl ?_
        refine v_imul dX15_fitsTo_40 ?_
        refine v_iload (x := l4) dX15_fitsTo_41 4 rfl ?_
        refine v_iadd dX15_fitsTo_43 ?_
        obtain ⟨a8, rfl, hf⟩ := nn_of hf
        obtain ⟨hk_a8, hf⟩ := gt_of hf
        refine v_iald hk_a8 hf dX15_fitsTo_44 (fun x9 hf => ?_)
        refine v_istore [(5, .int x9), (0, va_rf (some l0)), (1, .int l1), (2, .int l2), (3, .int l3), (4, .int l4)] dX15_fitsTo_45 (by decide) rfl ?_
        refine v_iload (x := x9) dX15_fitsTo_47 0 rfl ?_
        refine v_iconst (v := (-1)) dX15_fitsTo_49 (by decide) ?_
        refine v_icmp_ne (tgt := 57) hf dX15_fitsTo_50 (by decide) (fun hq hf => ?_) (fun hq hf => ?_)
        · refine v_iconst (v := (-1)) dX15_fitsTo_53 (by decide) ?_
          refine v_goto (tgt := 68) dX15_fitsTo_54 (by decide) ?_
          refine v_sub [1, 2, 3, 5] (L2 := [(0, va_rf (some l0)), (1, .int l1), (2, .int l2), (4, .int l4)]) rfl ?_
          exact t_X15_fitsTo_b68 hrec_24 hf
        · refine v_aload_n (x := (some l0)) dX15_fitsTo_57 rfl 1 rfl ?_
          refine v_iload_n (x := l2) dX15_fitsTo_58 rfl 3 rfl ?_
          refine v_iload (x := x9) dX15_fitsTo_59 0 rfl ?_
          refine v_aload_n (x := (some l0)) dX15_fitsTo_61 rfl 1 rfl ?_
          obtain ⟨x17, s18, hcs18, hf⟩ := bd_of hf
          have hts18 := c_X15_today (l := l) (D := D) (cy := cy) (ka := ka) hcs18
          refine v_callV cb_16 hk_l0 (As := []) (rest := [.int x9, .int l2, va_rf (some l0)]) hts18 yb_X15_today kw_1774 kw_1776 kp_84 rfl ⟨Nat.le_of_ble_eq_true rfl, Nat.le_of_ble_eq_true rfl⟩ rfl (cat_len (Nat.le_of_ble_eq_true rfl)) dX15_fitsTo_62 ?_
          have hk_l0 := tk_ hts18.1 hk_l0
          show v_ l D cy ka cX15_fitsTo RX15 7 (some FieldType.boolean) "fitsTo" 1 25 (qf_ D cy σ0 z (some (.int r))) σ0 z _ 65 [(5, .int x9), (0, va_rf (some l0)), (1, .int l1), (2, .int l2), (3, .int l3), (4, .int l4)] [.int x17, .int x9, .int l2, va_rf (some l0)]
          obtain ⟨x19, s20, hcs20, hf⟩ := bd_of hf
          have hts20 := c_X15_tellingOn (l := l) (D := D) (cy := cy) (ka := ka) hcs20
          refine v_callV cb_16 hk_l0 (As := [.int l2, .int x9, .int x17]) (rest := []) hts20 yb_X15_tellingOn kw_1833 kw_1835 kp_92 rfl ⟨Nat.le_of_ble_eq_true rfl, Nat.le_of_ble_eq_true rfl⟩ rfl (cat_len (Nat.le_of_ble_eq_true rfl)) dX15_fitsTo_65 ?_
          have hk_l0 := tk_ hts20.1 hk_l0
          show v_ l D cy ka cX15_fitsTo RX15 7 (some FieldType.boolean) "fitsTo" 1 25 (qf_ D cy σ0 z (some (.int r))) σ0 z _ 68 [(5, .int x9), (0, va_rf (some l0)), (1, .int l1), (2, .int l2), (3, .int l3), (4, .int l4)] [.int x19]
          refine v_sub [1, 2, 3, 5] (L2 := [(0, va_rf (some l0)), (1, .int l1), (2, .int l2), (4, .int l4)]) rfl ?_
          exact t_X15_fitsTo_b68 hrec_24 hf
def f_X15_fitsTo_b20 (σ : TH) (l0 : Nat) (l1 : Int32) (l2 : Int32) (t0 : Int32) : Option (Int32 × TH) :=
  f_X15_fitsTo_b24 fu_ σ l0 l1 l2 t0 (0 : Int32)
set_option maxHeartbeats 4000000 in
set_option maxRecDepth 100000 in
theorem t_X15_fitsTo_b20 {l : Launch} {D : va_G} {cy : Nat → ClassId} {ka : Nat → Nat} {σ0 z : TH} {r : Int32}  {σ : TH} {l0 : Nat} {l1 : Int32} {l2 : Int32} {t0 : Int32} (hf : f_X15_fitsTo_b20 σ l0 l1 l2 t0 = some (r, z)) : v_ l D cy ka cX15_fitsTo RX15 7 (some FieldType.boolean) "fitsTo" 1 25 (qf_ D cy σ0 z (some (.int r))) σ0 z σ 20 [(0, va_rf (some l0)), (1, .int l1), (2, .int l2)] [.int t0] := by
  unfold f_X15_fitsTo_b20 at hf
  refine v_istore_n [(3, .int t0), (0, va_rf (some l0)), (1, .int l1), (2, .int l2)] dX15_fitsTo_20 rfl (by decide) rfl ?_
  refine v_iconst (v := 0) dX15_fitsTo_21 (by decide) ?_
  refine v_istore [(4, .int (0 : Int32)), (3, .int t0), (0, va_rf (some l0)), (1, .int l1), (2, .int l2)] dX15_fitsTo_22 (by decide) rfl ?_
  refine v_sub [2, 3, 4, 1, 0] (L2 := [(0, va_rf (some l0)), (1, .int l1), (2, .int l2), (3, .int t0), (4, .int (0 : Int32))]) rfl ?_
  exact t_X15_fitsTo_b24  _ _ _ _ _ _ _ hf
/-- LivesAheadModel.fitsTo(II)Z -/
def f_X15_fitsTo (σ : TH) (p0 : Nat) (p1 : Int32) (p2 : Int32) : Option (Int32 × TH) :=
  gt_ (kd_ σ p0 = 17) <| lt_ (fr_ σ 1608 p0) fun r1 => nn_ r1 fun a2 => gt_ (kd_ σ a2 = 20) <| gt_ (¬ (p2 < 0 ∨ ln_ σ a2 ≤ p2.toNatClampNeg)) <| lt_ (ai_ σ a2 p2.toNatClampNeg) fun x3 => lt_ (fr_ σ 1662 p0) fun r4 => nn_ r4 fun a5 => gt_ (kd_ σ a5 = 20) <| gt_ (¬ (p1 < 0 ∨ ln_ σ a5 ≤ p1.toNatClampNeg)) <| lt_ (ai_ σ a5 p1.toNatClampNeg) fun x6 => if x3 = x6 then (f_X15_fitsTo_b20 σ p0 p1 p2 (1 : Int32)) else (f_X15_fitsTo_b20 σ p0 p1 p2 (0 : Int32))
set_option maxHeartbeats 4000000 in
set_option maxRecDepth 100000 in
theorem c_X15_fitsTo {l : Launch} {D : va_G} {cy : Nat → ClassId} {ka : Nat → Nat} {σ z : TH} {p0 : Nat} {p1 : Int32} {p2 : Int32} {r : Int32} (hf : f_X15_fitsTo σ p0 p1 p2 = some (r, z)) : ct_ l D cy ka yX15_fitsTo 1 25 [va_rf (some p0), .int p1, .int p2] σ (some (.int r)) z := by
  unfold f_X15_fitsTo at hf
  refine v_start (cc := cX15_fitsTo) (own := RX15) (maxL := 7) (ret := (some FieldType.boolean)) (nm := "fitsTo") (by decide +kernel) kw_1985 rfl rfl (by simp [lg_sl, va_rf_cat, cat_i, cat_l]) ?_
  refine v_eqL (L2 := [(0, va_rf (some p0)), (1, .int p1), (2, .int p2)]) (by simp [lv_args, va_rf_cat, cat_i, cat_l]) ?_
  refine v_aload_n (x := (some p0)) dX15_fitsTo_0 rfl 0 rfl ?_
  obtain ⟨hk_p0, hf⟩ := gt_of hf
  refine v_getr cb_16 hk_p0 8 1608 rfl (by decide) rfl (lk_n kw_1465 rfl) hf dX15_fitsTo_1 (fun r1 hf => ?_)
  refine v_iload_n (x := p2) dX15_fitsTo_4 rfl 2 rfl ?_
  obtain ⟨a2, rfl, hf⟩ := nn_of hf
  obtain ⟨hk_a2, hf⟩ := gt_of hf
  refine v_iald hk_a2 hf dX15_fitsTo_5 (fun x3 hf => ?_)
  refine v_aload_n (x := (some p0)) dX15_fitsTo_6 rfl 0 rfl ?_
  refine v_getr cb_16 hk_p0 62 1662 rfl (by decide) rfl (lk_n kw_1519 rfl) hf dX15_fitsTo_7 (fun r4 hf => ?_)
  refine v_iload_n (x := p1) dX15_fitsTo_10 rfl 1 rfl ?_
  obtain ⟨a5, rfl, hf⟩ := nn_of hf
  obtain ⟨hk_a5, hf⟩ := gt_of hf
  refine v_iald hk_a5 hf dX15_fitsTo_11 (fun x6 hf => ?_)
  refine v_icmp_ne (tgt := 19) hf dX15_fitsTo_12 (by decide) (fun hq hf => ?_) (fun hq hf => ?_)
  · refine v_iconst (v := 1) dX15_fitsTo_15 (by decide) ?_
    refine v_goto (tgt := 20) dX15_fitsTo_16 (by decide) ?_
    refine v_sub [0, 1, 2] (L2 := [(0, va_rf (some p0)), (1, .int p1), (2, .int p2)]) rfl ?_
    exact t_X15_fitsTo_b20  hf
  · refine v_iconst (v := 0) dX15_fitsTo_19 (by decide) ?_
    refine v_sub [0, 1, 2] (L2 := [(0, va_rf (some p0)), (1, .int p1), (2, .int p2)]) rfl ?_
    exact t_X15_fitsTo_b20  hf
theorem dX15_personOf_0 : decode cX15_personOf 0 = .ok (.aload_n 0, 1) := by decide +kernel
theorem dX15_personOf_1 : decode cX15_personOf 1 = .ok (.getfield 119, 3) := by decide +kernel
theorem dX15_personOf_4 : decode cX15_personOf 4 = .ok (.iload_n 1, 1) := by decide +kernel
theorem dX15_personOf_5 : decode cX15_personOf 5 = .ok (.iaload, 1) := by decide +kernel
theorem dX15_personOf_6 : decode cX15_personOf 6 = .ok (.iconst (-1), 1) := by decide +kernel
theorem dX15_personOf_7 : decode cX15_personOf 7 = .ok (.if_icmp .eq 10, 3) := by decide +kernel
theorem dX15_personOf_10 : decode cX15_personOf 10 = .ok (.aload_n 0, 1) := by decide +kernel
theorem dX15_personOf_11 : decode cX15_personOf 11 = .ok (.getfield 119, 3) := by decide +kernel
theorem dX15_personOf_14 : decode cX15_personOf 14 = .ok (.iload_n 1, 1) := by decide +kernel
theorem dX15_personOf_15 : decode cX15_personOf 15 = .ok (.iaload, 1) := by decide +kernel
theorem dX15_personOf_16 : decode cX15_personOf 16 = .ok (.ireturn, 1) := by decide +kernel
theorem dX15_personOf_17 : decode cX15_personOf 17 = .ok (.bipush (-2), 2) := by decide +kernel
theorem dX15_personOf_19 : decode cX15_personOf 19 = .ok (.istore_n 2, 1) := by decide +kernel
theorem dX15_personOf_20 : decode cX15_personOf 20 = .ok (.iconst 0, 1) := by decide +kernel
theorem dX15_personOf_21 : decode cX15_personOf 21 = .ok (.istore_n 3, 1) := by decide +kernel
theorem dX15_personOf_22 : decode cX15_personOf 22 = .ok (.iload_n 3, 1) := by decide +kernel
theorem dX15_personOf_23 : decode cX15_personOf 23 = .ok (.aload_n 0, 1) := by decide +kernel
theorem dX15_personOf_24 : decode cX15_personOf 24 = .ok (.getfield 191, 3) := by decide +kernel
theorem dX15_personOf_27 : decode cX15_personOf 27 = .ok (.if_icmp .ge 31, 3) := by decide +kernel
theorem dX15_personOf_30 : decode cX15_personOf 30 = .ok (.aload_n 0, 1) := by decide +kernel
theorem dX15_personOf_31 : decode cX15_personOf 31 = .ok (.iload_n 1, 1) := by decide +kernel
theorem dX15_personOf_32 : decode cX15_personOf 32 = .ok (.iload_n 3, 1) := by decide +kernel
theorem dX15_personOf_33 : decode cX15_personOf 33 = .ok (.invokevirtual 547, 3) := by decide +kernel
theorem dX15_personOf_36 : decode cX15_personOf 36 = .ok (.ifCond .eq 16, 3) := by decide +kernel
theorem dX15_personOf_39 : decode cX15_personOf 39 = .ok (.iload_n 2, 1) := by decide +kernel
theorem dX15_personOf_40 : decode cX15_personOf 40 = .ok (.bipush (-2), 2) := by decide +kernel
theorem dX15_personOf_42 : decode cX15_personOf 42 = .ok (.if_icmp .ne 7, 3) := by decide +kernel
theorem dX15_personOf_45 : decode cX15_personOf 45 = .ok (.iload_n 3, 1) := by decide +kernel
theorem dX15_personOf_46 : decode cX15_personOf 46 = .ok (.goto 5, 3) := by decide +kernel
theorem dX15_personOf_49 : decode cX15_personOf 49 = .ok (.bipush (-3), 2) := by decide +kernel
theorem dX15_personOf_51 : decode cX15_personOf 51 = .ok (.istore_n 2, 1) := by decide +kernel
theorem dX15_personOf_52 : decode cX15_personOf 52 = .ok (.iinc 3 1, 3) := by decide +kernel
theorem dX15_personOf_55 : decode cX15_personOf 55 = .ok (.goto (-33), 3) := by decide +kernel
theorem dX15_personOf_58 : decode cX15_personOf 58 = .ok (.iload_n 2, 1) := by decide +kernel
theorem dX15_personOf_59 : decode cX15_personOf 59 = .ok (.ireturn, 1) := by decide +kernel
def f_X15_personOf_b52 (rec_22 : TH → Nat → Int32 → Int32 → Int32 → Option (Int32 × TH)) (σ : TH) (l0 : Nat) (l1 : Int32) (l2 : Int32) (l3 : Int32) : Option (Int32 × TH) :=
  lt_ (l3 + 1) fun x7 => rec_22 σ l0 l1 l2 x7
set_option maxHeartbeats 4000000 in
set_option maxRecDepth 100000 in
theorem t_X15_personOf_b52 {l : Launch} {D : va_G} {cy : Nat → ClassId} {ka : Nat → Nat} {σ0 z : TH} {r : Int32} {rec_22 : TH → Nat → Int32 → Int32 → Int32 → Option (Int32 × TH)} (hrec_22 : ∀ (σ : TH) (l0 : Nat) (l1 : Int32) (l2 : Int32) (l3 : Int32), rec_22 σ l0 l1 l2 l3 = some (r, z) → v_ l D cy ka cX15_personOf RX15 4 (some FieldType.int) "personOf" 2 51 (qf_ D cy σ0 z (some (.int r))) σ0 z σ 22 [(0, va_rf (some l0)), (1, .int l1), (2, .int l2), (3, .int l3)] []) {σ : TH} {l0 : Nat} {l1 : Int32} {l2 : Int32} {l3 : Int32} (hf : f_X15_personOf_b52 rec_22 σ l0 l1 l2 l3 = some (r, z)) : v_ l D cy ka cX15_personOf RX15 4 (some FieldType.int) "personOf" 2 51 (qf_ D cy σ0 z (some (.int r))) σ0 z σ 52 [(0, va_rf (some l0)), (1, .int l1), (2, .int l2), (3, .int l3)] [] := by
  unfold f_X15_personOf_b52 at hf
  obtain ⟨x7, ex7⟩ : ∃ y : Int32, y = l3 + 1 := ⟨_, rfl⟩
  rw [lt_e, ← ex7] at hf
  refine v_iinc (v := x7) [(3, .int x7), (0, va_rf (some l0)), (1, .int l1), (2, .int l2)] dX15_personOf_52 3 rfl (by rw [ex7]; rfl) (by decide) rfl ?_
  refine v_goto (tgt := 22) dX15_personOf_55 (by decide) ?_
  refine v_sub [1, 2, 3, 0] (L2 := [(0, va_rf (some l0)), (1, .int l1), (2, .int l2), (3, .int x7)]) rfl ?_
  exact hrec_22 _ _ _ _ _ hf
def f_X15_personOf_b51 (rec_22 : TH → Nat → Int32 → Int32 → Int32 → Option (Int32 × TH)) (σ : TH) (l0 : Nat) (l1 : Int32) (l3 : Int32) (t0 : Int32) : Option (Int32 × TH) :=
  f_X15_personOf_b52 rec_22 σ l0 l1 t0 l3
set_option maxHeartbeats 4000000 in
set_option maxRecDepth 100000 in
theorem t_X15_personOf_b51 {l : Launch} {D : va_G} {cy : Nat → ClassId} {ka : Nat → Nat} {σ0 z : TH} {r : Int32} {rec_22 : TH → Nat → Int32 → Int32 → Int32 → Option (Int32 × TH)} (hrec_22 : ∀ (σ : TH) (l0 : Nat) (l1 : Int32) (l2 : Int32) (l3 : Int32), rec_22 σ l0 l1 l2 l3 = some (r, z) → v_ l D cy ka cX15_personOf RX15 4 (some FieldType.int) "personOf" 2 51 (qf_ D cy σ0 z (some (.int r))) σ0 z σ 22 [(0, va_rf (some l0)), (1, .int l1), (2, .int l2), (3, .int l3)] []) {σ : TH} {l0 : Nat} {l1 : Int32} {l3 : Int32} {t0 : Int32} (hf : f_X15_personOf_b51 rec_22 σ l0 l1 l3 t0 = some (r, z)) : v_ l D cy ka cX15_personOf RX15 4 (some FieldType.int) "personOf" 2 51 (qf_ D cy σ0 z (some (.int r))) σ0 z σ 51 [(0, va_rf (some l0)), (1, .int l1), (3, .int l3)] [.int t0] := by
  unfold f_X15_personOf_b51 at hf
  refine v_istore_n [(2, .int t0), (0, va_rf (some l0)), (1, .int l1), (3, .int l3)] dX15_personOf_51 rfl (by decide) rfl ?_
  refine v_sub [1, 2, 0, 3] (L2 := [(0, va_rf (some l0)), (1, .int l1), (2, .int t0), (3, .int l3)]) rfl ?_
  exact t_X15_personOf_b52 hrec_22 hf
def f_X15_personOf_b22 : Nat → TH → Nat → Int32 → Int32 → Int32 → Option (Int32 × TH)
  | 0, _, _, _, _, _ => none
  | n + 1, σ, l0, l1, l2, l3 => gt_ (kd_ σ l0 = 17) <| lt_ (fi_ σ 1605 l0) fun x4 => if x4 ≤ l3 then (some (l2, σ)) else (bd_ (f_X15_fitsTo σ l0 l1 l3) fun x5 s6 => if x5 = 0 then (f_X15_personOf_b52 (f_X15_personOf_b22 n) s6 l0 l1 l2 l3) else (if l2 = (-2 : Int32) then (f_X15_personOf_b51 (f_X15_personOf_b22 n) s6 l0 l1 l3 l3) else (f_X15_personOf_b51 (f_X15_personOf_b22 n) s6 l0 l1 l3 (-3 : Int32))))
set_option maxHeartbeats 4000000 in
set_option maxRecDepth 100000 in
theorem t_X15_personOf_b22 {l : Launch} {D : va_G} {cy : Nat → ClassId} {ka : Nat → Nat} {σ0 z : TH} {r : Int32}  : ∀ (n : Nat) (σ : TH) (l0 : Nat) (l1 : Int32) (l2 : Int32) (l3 : Int32), f_X15_personOf_b22 n σ l0 l1 l2 l3 = some (r, z) → v_ l D cy ka cX15_personOf RX15 4 (some FieldType.int) "personOf" 2 51 (qf_ D cy σ0 z (some (.int r))) σ0 z σ 22 [(0, va_rf (some l0)), (1, .int l1), (2, .int l2), (3, .int l3)] [] := by
  intro n
  induction n with
  | zero => intro σ l0 l1 l2 l3 hf; unfold f_X15_personOf_b22 at hf; cases hf
  | succ n ih =>
    intro σ l0 l1 l2 l3 hf
    unfold f_X15_personOf_b22 at hf
    have hrec_22 := ih
    refine v_iload_n (x := l3) dX15_personOf_22 rfl 3 rfl ?_
    refine v_aload_n (x := (some l0)) dX15_personOf_23 rfl 0 rfl ?_
    obtain ⟨hk_l0, hf⟩ := gt_of hf
    refine v_geti cb_16 hk_l0 5 1605 rfl (by decide) rfl (lk_n kw_1462 rfl) hf dX15_personOf_24 (fun x4 hf => ?_)
    refine v_icmp_ge (tgt := 58) hf dX15_personOf_27 (by decide) (fun hq hf => ?_) (fun hq hf => ?_)
    · refine v_iload_n (x := l2) dX15_personOf_58 rfl 2 rfl ?_
      exact v_iret hf dX15_personOf_59
    · refine v_aload_n (x := (some l0)) dX15_personOf_30 rfl 0 rfl ?_
      refine v_iload_n (x := l1) dX15_personOf_31 rfl 1 rfl ?_
      refine v_iload_n (x := l3) dX15_personOf_32 rfl 3 rfl ?_
      obtain ⟨x5, s6, hcs6, hf⟩ := bd_of hf
      have hts6 := c_X15_fitsTo (l := l) (D := D) (cy := cy) (ka := ka) hcs6
      refine v_callV cb_16 hk_l0 (As := [.int l1, .int l3]) (rest := []) hts6 yb_X15_fitsTo kw_1982 kw_1984 kp_114 rfl ⟨Nat.le_of_ble_eq_true rfl, Nat.le_of_ble_eq_true rfl⟩ rfl (cat_len (Nat.le_of_ble_eq_true rfl)) dX15_personOf_33 ?_
      have hk_l0 := tk_ hts6.1 hk_l0
      show v_ l D cy ka cX15_personOf RX15 4 (some FieldType.int) "personOf" 2 51 (qf_ D cy σ0 z (some (.int r))) σ0 z _ 36 [(0, va_rf (some l0)), (1, .int l1), (2, .int l2), (3, .int l3)] [.int x5]
      refine v_if_eq (tgt := 52) hf dX15_personOf_36 (by decide) (fun hq hf => ?_) (fun hq hf => ?_)
      · refine v_sub [0, 1, 2, 3] (L2 := [(0, va_rf (some l0)), (1, .int l1), (2, .int l2), (3, .int l3)]) rfl ?_
        exact t_X15_personOf_b52 hrec_22 hf
      · refine v_iload_n (x := l2) dX15_personOf_39 rfl 2 rfl ?_
        refine v_bipush (v := (-2)) dX15_personOf_40 (by decide) ?_
        refine v_icmp_ne (tgt := 49) hf dX15_personOf_42 (by decide) (fun hq hf => ?_) (fun hq hf => ?_)
        · refine v_iload_n (x := l3) dX15_personOf_45 rfl 3 rfl ?_
          refine v_goto (tgt := 51) dX15_personOf_46 (by decide) ?_
          refine v_sub [0, 1, 3] (L2 := [(0, va_rf (some l0)), (1, .int l1), (3, .int l3)]) rfl ?_
          exact t_X15_personOf_b51 hrec_22 hf
        · refine v_bipush (v := (-3)) dX15_personOf_49 (by decide) ?_
          refine v_sub [0, 1, 3] (L2 := [(0, va_rf (some l0)), (1, .int l1), (3, .int l3)]) rfl ?_
          exact t_X15_personOf_b51 hrec_22 hf
/-- LivesAheadModel.personOf(I)I -/
def f_X15_personOf (σ : TH) (p0 : Nat) (p1 : Int32) : Option (Int32 × TH) :=
  gt_ (kd_ σ p0 = 17) <| lt_ (fr_ σ 1661 p0) fun r1 => nn_ r1 fun a2 => gt_ (kd_ σ a2 = 20) <| gt_ (¬ (p1 < 0 ∨ ln_ σ a2 ≤ p1.toNatClampNeg)) <| lt_ (ai_ σ a2 p1.toNatClampNeg) fun x3 => if x3 = (-1 : Int32) then (f_X15_personOf_b22 fu_ σ p0 p1 (-2 : Int32) (0 : Int32)) else (lt_ (fr_ σ 1661 p0) fun r8 => nn_ r8 fun a9 => gt_ (kd_ σ a9 = 20) <| gt_ (¬ (p1 < 0 ∨ ln_ σ a9 ≤ p1.toNatClampNeg)) <| lt_ (ai_ σ a9 p1.toNatClampNeg) fun x10 => some (x10, σ))
set_option maxHeartbeats 4000000 in
set_option maxRecDepth 100000 in
theorem c_X15_personOf {l : Launch} {D : va_G} {cy : Nat → ClassId} {ka : Nat → Nat} {σ z : TH} {p0 : Nat} {p1 : Int32} {r : Int32} (hf : f_X15_personOf σ p0 p1 = some (r, z)) : ct_ l D cy ka yX15_personOf 2 51 [va_rf (some p0), .int p1] σ (some (.int r)) z := by
  unfold f_X15_personOf at hf
  refine v_start (cc := cX15_personOf) (own := RX15) (maxL := 4) (ret := (some FieldType.int)) (nm := "personOf") (by decide +kernel) kw_1981 rfl rfl (by simp [lg_sl, va_rf_cat, cat_i, cat_l]) ?_
  refine v_eqL (L2 := [(0, va_rf (some p0)), (1, .int p1)]) (by simp [lv_args, va_rf_cat, cat_i, cat_l]) ?_
  refine v_aload_n (x := (some p0)) dX15_personOf_0 rfl 0 rfl ?_
  obtain ⟨hk_p0, hf⟩ := gt_of hf
  refine v_getr cb_16 hk_p0 61 1661 rfl (by decide) rfl (lk_n kw_1518 rfl) hf dX15_personOf_1 (fun r1 hf => ?_)
  refine v_iload_n (x := p1) dX15_personOf_4 rfl 1 rfl ?_
  obtain ⟨a2, rfl, hf⟩ := nn_of hf
  obtain ⟨hk_a2, hf⟩ := gt_of hf
  refine v_iald hk_a2 hf dX15_personOf_5 (fun x3 hf => ?_)
  refine v_iconst (v := (-1)) dX15_personOf_6 (by decide) ?_
  refine v_icmp_eq (tgt := 17) hf dX15_personOf_7 (by decide) (fun hq hf => ?_) (fun hq hf => ?_)
  · refine v_bipush (v := (-2)) dX15_personOf_17 (by decide) ?_
    refine v_istore_n [(2, .int (-2 : Int32)), (0, va_rf (some p0)), (1, .int p1)] dX15_personOf_19 rfl (by decide) rfl ?_
    refine v_iconst (v := 0) dX15_personOf_20 (by decide) ?_
    refine v_istore_n [(3, .int (0 : Int32)), (2, .int (-2 : Int32)), (0, va_rf (some p0)), (1, .int p1)] dX15_personOf_21 rfl (by decide) rfl ?_
    refine v_sub [2, 3, 1, 0] (L2 := [(0, va_rf (some p0)), (1, .int p1), (2, .int (-2 : Int32)), (3, .int (0 : Int32))]) rfl ?_
    exact t_X15_personOf_b22  _ _ _ _ _ _ hf
  · refine v_aload_n (x := (some p0)) dX15_personOf_10 rfl 0 rfl ?_
    refine v_getr cb_16 hk_p0 61 1661 rfl (by decide) rfl (lk_n kw_1518 rfl) hf dX15_personOf_11 (fun r8 hf => ?_)
    refine v_iload_n (x := p1) dX15_personOf_14 rfl 1 rfl ?_
    obtain ⟨a9, rfl, hf⟩ := nn_of hf
    obtain ⟨hk_a9, hf⟩ := gt_of hf
    refine v_iald hk_a9 hf dX15_personOf_15 (fun x10 hf => ?_)
    exact v_iret hf dX15_personOf_16
theorem dX15_speaksOf_0 : decode cX15_speaksOf 0 = .ok (.aload_n 0, 1) := by decide +kernel
theorem dX15_speaksOf_1 : decode cX15_speaksOf 1 = .ok (.getfield 140, 3) := by decide +kernel
theorem dX15_speaksOf_4 : decode cX15_speaksOf 4 = .ok (.iload_n 1, 1) := by decide +kernel
theorem dX15_speaksOf_5 : decode cX15_speaksOf 5 = .ok (.baload, 1) := by decide +kernel
theorem dX15_speaksOf_6 : decode cX15_speaksOf 6 = .ok (.ifCond .ne 16, 3) := by decide +kernel
theorem dX15_speaksOf_9 : decode cX15_speaksOf 9 = .ok (.aload_n 0, 1) := by decide +kernel
theorem dX15_speaksOf_10 : decode cX15_speaksOf 10 = .ok (.iload_n 1, 1) := by decide +kernel
theorem dX15_speaksOf_11 : decode cX15_speaksOf 11 = .ok (.invokevirtual 550, 3) := by decide +kernel
theorem dX15_speaksOf_14 : decode cX15_speaksOf 14 = .ok (.iload_n 2, 1) := by decide +kernel
theorem dX15_speaksOf_15 : decode cX15_speaksOf 15 = .ok (.if_icmp .ne 7, 3) := by decide +kernel
theorem dX15_speaksOf_18 : decode cX15_speaksOf 18 = .ok (.iconst 1, 1) := by decide +kernel
theorem dX15_speaksOf_19 : decode cX15_speaksOf 19 = .ok (.goto 4, 3) := by decide +kernel
theorem dX15_speaksOf_22 : decode cX15_speaksOf 22 = .ok (.iconst 0, 1) := by decide +kernel
theorem dX15_speaksOf_23 : decode cX15_speaksOf 23 = .ok (.ireturn, 1) := by decide +kernel
def f_X15_speaksOf_b23 (σ : TH) (t0 : Int32) : Option (Int32 × TH) :=
  gt_ (t0 = 0 ∨ t0 = 1) <| some (t0, σ)
set_option maxHeartbeats 4000000 in
set_option maxRecDepth 100000 in
theorem t_X15_speaksOf_b23 {l : Launch} {D : va_G} {cy : Nat → ClassId} {ka : Nat → Nat} {σ0 z : TH} {r : Int32}  {σ : TH} {t0 : Int32} (hf : f_X15_speaksOf_b23 σ t0 = some (r, z)) : v_ l D cy ka cX15_speaksOf RX15 3 (some FieldType.boolean) "speaksOf" 3 74 (qf_ D cy σ0 z (some (.int r))) σ0 z σ 23 [] [.int t0] := by
  unfold f_X15_speaksOf_b23 at hf
  obtain ⟨hb9, hf⟩ := gt_of hf
  exact v_zret hf (nz_ hb9) dX15_speaksOf_23
def f_X15_speaksOf_b22 (σ : TH) : Option (Int32 × TH) :=
  f_X15_speaksOf_b23 σ (0 : Int32)
set_option maxHeartbeats 4000000 in
set_option maxRecDepth 100000 in
theorem t_X15_speaksOf_b22 {l : Launch} {D : va_G} {cy : Nat → ClassId} {ka : Nat → Nat} {σ0 z : TH} {r : Int32}  {σ : TH}  (hf : f_X15_speaksOf_b22 σ  = some (r, z)) : v_ l D cy ka cX15_speaksOf RX15 3 (some FieldType.boolean) "speaksOf" 3 74 (qf_ D cy σ0 z (some (.int r))) σ0 z σ 22 [] [] := by
  unfold f_X15_speaksOf_b22 at hf
  refine v_iconst (v := 0) dX15_speaksOf_22 (by decide) ?_
  refine v_sub [] (L2 := []) rfl ?_
  exact t_X15_speaksOf_b23  hf
/-- LivesAheadModel.speaksOf(II)Z -/
def f_X15_speaksOf (σ : TH) (p0 : Nat) (p1 : Int32) (p2 : Int32) : Option (Int32 × TH) :=
  gt_ (kd_ σ p0 = 17) <| lt_ (fr_ σ 1668 p0) fun r1 => nn_ r1 fun a2 => gt_ (kd_ σ a2 = 22) <| gt_ (¬ (p1 < 0 ∨ ln_ σ a2 ≤ p1.toNatClampNeg)) <| lt_ (ai_ σ a2 p1.toNatClampNeg) fun x3 => if x3 = 0 then (bd_ (f_X15_personOf σ p0 p1) fun x4 s5 => if x4 = p2 then (f_X15_speaksOf_b23 s5 (1 : Int32)) else (f_X15_speaksOf_b22 s5 )) else (f_X15_speaksOf_b22 σ )
set_option maxHeartbeats 4000000 in
set_option maxRecDepth 100000 in
theorem c_X15_speaksOf {l : Launch} {D : va_G} {cy : Nat → ClassId} {ka : Nat → Nat} {σ z : TH} {p0 : Nat} {p1 : Int32} {p2 : Int32} {r : Int32} (hf : f_X15_speaksOf σ p0 p1 p2 = some (r, z)) : ct_ l D cy ka yX15_speaksOf 3 74 [va_rf (some p0), .int p1, .int p2] σ (some (.int r)) z := by
  unfold f_X15_speaksOf at hf
  refine v_start (cc := cX15_speaksOf) (own := RX15) (maxL := 3) (ret := (some FieldType.boolean)) (nm := "speaksOf") (by decide +kernel) kw_1977 rfl rfl (by simp [lg_sl, va_rf_cat, cat_i, cat_l]) ?_
  refine v_eqL (L2 := [(0, va_rf (some p0)), (1, .int p1), (2, .int p2)]) (by simp [lv_args, va_rf_cat, cat_i, cat_l]) ?_
  refine v_aload_n (x := (some p0)) dX15_speaksOf_0 rfl 0 rfl ?_
  obtain ⟨hk_p0, hf⟩ := gt_of hf
  refine v_getr cb_16 hk_p0 68 1668 rfl (by decide) rfl (lk_n kw_1525 rfl) hf dX15_speaksOf_1 (fun r1 hf => ?_)
  refine v_iload_n (x := p1) dX15_speaksOf_4 rfl 1 rfl ?_
  obtain ⟨a2, rfl, hf⟩ := nn_of hf
  obtain ⟨hk_a2, hf⟩ := gt_of hf
  refine v_zald hk_a2 hf dX15_speaksOf_5 (fun x3 hf => ?_)
  refine v_if_ne (tgt := 22) hf dX15_speaksOf_6 (by decide) (fun hq hf => ?_) (fun hq hf => ?_)
  · refine v_aload_n (x := (some p0)) dX15_speaksOf_9 rfl 0 rfl ?_
    refine v_iload_n (x := p1) dX15_speaksOf_10 rfl 1 rfl ?_
    obtain ⟨x4, s5, hcs5, hf⟩ := bd_of hf
    have hts5 := c_X15_personOf (l := l) (D := D) (cy := cy) (ka := ka) hcs5
    refine v_callV cb_16 hk_p0 (As := [.int p1]) (rest := []) hts5 yb_X15_personOf kw_1978 kw_1980 kp_113 rfl ⟨Nat.le_of_ble_eq_true rfl, Nat.le_of_ble_eq_true rfl⟩ rfl (cat_len (Nat.le_of_ble_eq_true rfl)) dX15_speaksOf_11 ?_
    have hk_p0 := tk_ hts5.1 hk_p0
    show v_ l D cy ka cX15_speaksOf RX15 3 (some FieldType.boolean) "speaksOf" 3 74 (qf_ D cy σ z (some (.int r))) σ z _ 14 [(0, va_rf (some p0)), (1, .int p1), (2, .int p2)] [.int x4]
    refine v_iload_n (x := p2) dX15_speaksOf_14 rfl 2 rfl ?_
    refine v_icmp_ne (tgt := 22) hf dX15_speaksOf_15 (by decide) (fun hq hf => ?_) (fun hq hf => ?_)
    · refine v_iconst (v := 1) dX15_speaksOf_18 (by decide) ?_
      refine v_goto (tgt := 23) dX15_speaksOf_19 (by decide) ?_
      refine v_sub [] (L2 := []) rfl ?_
      exact t_X15_speaksOf_b23  hf
    · refine v_sub [] (L2 := []) rfl ?_
      exact t_X15_speaksOf_b22  hf
  · refine v_sub [] (L2 := []) rfl ?_
    exact t_X15_speaksOf_b22  hf
theorem dX15_hoursSince_0 : decode cX15_hoursSince 0 = .ok (.iconst 0, 1) := by decide +kernel
theorem dX15_hoursSince_1 : decode cX15_hoursSince 1 = .ok (.istore_n 2, 1) := by decide +kernel
theorem dX15_hoursSince_2 : decode cX15_hoursSince 2 = .ok (.iload_n 2, 1) := by decide +kernel
theorem dX15_hoursSince_3 : decode cX15_hoursSince 3 = .ok (.aload_n 0, 1) := by decide +kernel
theorem dX15_hoursSince_4 : decode cX15_hoursSince 4 = .ok (.getfield 540, 3) := by decide +kernel
theorem dX15_hoursSince_7 : decode cX15_hoursSince 7 = .ok (.if_icmp .ge 33, 3) := by decide +kernel
theorem dX15_hoursSince_10 : decode cX15_hoursSince 10 = .ok (.aload_n 0, 1) := by decide +kernel
theorem dX15_hoursSince_11 : decode cX15_hoursSince 11 = .ok (.iload_n 2, 1) := by decide +kernel
theorem dX15_hoursSince_12 : decode cX15_hoursSince 12 = .ok (.iload_n 1, 1) := by decide +kernel
theorem dX15_hoursSince_13 : decode cX15_hoursSince 13 = .ok (.invokevirtual 553, 3) := by decide +kernel
theorem dX15_hoursSince_16 : decode cX15_hoursSince 16 = .ok (.ifCond .eq 18, 3) := by decide +kernel
theorem dX15_hoursSince_19 : decode cX15_hoursSince 19 = .ok (.aload_n 0, 1) := by decide +kernel
theorem dX15_hoursSince_20 : decode cX15_hoursSince 20 = .ok (.getfield 188, 3) := by decide +kernel
theorem dX15_hoursSince_23 : decode cX15_hoursSince 23 = .ok (.aload_n 0, 1) := by decide +kernel
theorem dX15_hoursSince_24 : decode cX15_hoursSince 24 = .ok (.getfield 131, 3) := by decide +kernel
theorem dX15_hoursSince_27 : decode cX15_hoursSince 27 = .ok (.iload_n 2, 1) := by decide +kernel
theorem dX15_hoursSince_28 : decode cX15_hoursSince 28 = .ok (.iaload, 1) := by decide +kernel
theorem dX15_hoursSince_29 : decode cX15_hoursSince 29 = .ok (.isub, 1) := by decide +kernel
theorem dX15_hoursSince_30 : decode cX15_hoursSince 30 = .ok (.bipush 60, 2) := by decide +kernel
theorem dX15_hoursSince_32 : decode cX15_hoursSince 32 = .ok (.idiv, 1) := by decide +kernel
theorem dX15_hoursSince_33 : decode cX15_hoursSince 33 = .ok (.ireturn, 1) := by decide +kernel
theorem dX15_hoursSince_34 : decode cX15_hoursSince 34 = .ok (.iinc 2 1, 3) := by decide +kernel
theorem dX15_hoursSince_37 : decode cX15_hoursSince 37 = .ok (.goto (-35), 3) := by decide +kernel
theorem dX15_hoursSince_40 : decode cX15_hoursSince 40 = .ok (.iconst 0, 1) := by decide +kernel
theorem dX15_hoursSince_41 : decode cX15_hoursSince 41 = .ok (.ireturn, 1) := by decide +kernel
def f_X15_hoursSince_b2 : Nat → TH → Nat → Int32 → Int32 → Option (Int32 × TH)
  | 0, _, _, _, _ => none
  | n + 1, σ, l0, l1, l2 => gt_ (kd_ σ l0 = 17) <| lt_ (fi_ σ 1659 l0) fun x1 => if x1 ≤ l2 then (some ((0 : Int32), σ)) else (bd_ (f_X15_speaksOf σ l0 l2 l1) fun x2 s3 => if x2 = 0 then (lt_ (l2 + 1) fun x4 => (f_X15_hoursSince_b2 n) s3 l0 l1 x4) else (lt_ (fi_ s3 1606 l0) fun x5 => lt_ (fr_ s3 1665 l0) fun r6 => nn_ r6 fun a7 => gt_ (kd_ s3 a7 = 20) <| gt_ (¬ (l2 < 0 ∨ ln_ s3 a7 ≤ l2.toNatClampNeg)) <| lt_ (ai_ s3 a7 l2.toNatClampNeg) fun x8 => gt_ (¬ (60 : Int32) = 0) <| some ((x5 - x8) / (60 : Int32), s3)))
set_option maxHeartbeats 4000000 in
set_option maxRecDepth 100000 in
theorem t_X15_hoursSince_b2 {l : Launch} {D : va_G} {cy : Nat → ClassId} {ka : Nat → Nat} {σ0 z : TH} {r : Int32}  : ∀ (n : Nat) (σ : TH) (l0 : Nat) (l1 : Int32) (l2 : Int32), f_X15_hoursSince_b2 n σ l0 l1 l2 = some (r, z) → v_ l D cy ka cX15_hoursSince RX15 3 (some FieldType.int) "hoursSince" 4 96 (qf_ D cy σ0 z (some (.int r))) σ0 z σ 2 [(0, va_rf (some l0)), (1, .int l1), (2, .int l2)] [] := by
  intro n
  induction n with
  | zero => intro σ l0 l1 l2 hf; unfold f_X15_hoursSince_b2 at hf; cases hf
  | succ n ih =>
    intro σ l0 l1 l2 hf
    unfold f_X15_hoursSince_b2 at hf
    have hrec_2 := ih
    refine v_iload_n (x := l2) dX15_hoursSince_2 rfl 2 rfl ?_
    refine v_aload_n (x := (some l0)) dX15_hoursSince_3 rfl 0 rfl ?_
    obtain ⟨hk_l0, hf⟩ := gt_of hf
    refine v_geti cb_16 hk_l0 59 1659 rfl (by decide) rfl (lk_n kw_1516 rfl) hf dX15_hoursSince_4 (fun x1 hf => ?_)
    refine v_icmp_ge (tgt := 40) hf dX15_hoursSince_7 (by decide) (fun hq hf => ?_) (fun hq hf => ?_)
    · refine v_iconst (v := 0) dX15_hoursSince_40 (by decide) ?_
      exact v_iret hf dX15_hoursSince_41
    · refine v_aload_n (x := (some l0)) dX15_hoursSince_10 rfl 0 rfl ?_
      refine v_iload_n (x := l2) dX15_hoursSince_11 rfl 2 rfl ?_
      refine v_iload_n (x := l1) dX15_hoursSince_12 rfl 1 rfl ?_
      obtain ⟨x2, s3, hcs3, hf⟩ := bd_of hf
      have hts3 := c_X15_speaksOf (l := l) (D := D) (cy := cy) (ka := ka) hcs3
      refine v_callV cb_16 hk_l0 (As := [.int l2, .int l1]) (rest := []) hts3 yb_X15_speaksOf kw_1974 kw_1976 kp_112 rfl ⟨Nat.le_of_ble_eq_true rfl, Nat.le_of_ble_eq_true rfl⟩ rfl (cat_len (Nat.le_of_ble_eq_true rfl)) dX15_hoursSince_13 ?_
      have hk_l0 := tk_ hts3.1 hk_l0
      show v_ l D cy ka cX15_hoursSince RX15 3 (some FieldType.int) "hoursSince" 4 96 (qf_ D cy σ0 z (some (.int r))) σ0 z _ 16 [(0, va_rf (some l0)), (1, .int l1), (2, .int l2)] [.int x2]
      refine v_if_eq (tgt := 34) hf dX15_hoursSince_16 (by decide) (fun hq hf => ?_) (fun hq hf => ?_)
      · obtain ⟨x4, ex4⟩ : ∃ y : Int32, y = l2 + 1 := ⟨_, rfl⟩
        rw [lt_e, ← ex4] at hf
        refine v_iinc (v := x4) [(2, .int x4), (0, va_rf (some l0)), (1, .int l1)] dX15_hoursSince_34 2 rfl (by rw [ex4]; rfl) (by decide) rfl ?_
        refine v_goto (tgt := 2) dX15_hoursSince_37 (by decide) ?_
        refine v_sub [1, 2, 0] (L2 := [(0, va_rf (some l0)), (1, .int l1), (2, .int x4)]) rfl ?_
        exact hrec_2 _ _ _ _ hf
      · refine v_aload_n (x := (some l0)) dX15_hoursSince_19 rfl 0 rfl ?_
        refine v_geti cb_16 hk_l0 6 1606 rfl (by decide) rfl (lk_n kw_1463 rfl) hf dX15_hoursSince_20 (fun x5 hf => ?_)
        refine v_aload_n (x := (some l0)) dX15_hoursSince_23 rfl 0 rfl ?_
        refine v_getr cb_16 hk_l0 65 1665 rfl (by decide) rfl (lk_n kw_1522 rfl) hf dX15_hoursSince_24 (fun r6 hf => ?_)
        refine v_iload_n (x := l2) dX15_hoursSince_27 rfl 2 rfl ?_
        obtain ⟨a7, rfl, hf⟩ := nn_of hf
        obtain ⟨hk_a7, hf⟩ := gt_of hf
        refine v_iald hk_a7 hf dX15_hoursSince_28 (fun x8 hf => ?_)
        refine v_isub dX15_hoursSince_29 ?_
        refine v_bipush (v := 60) dX15_hoursSince_30 (by decide) ?_
        refine v_idiv hf dX15_hoursSince_32 (fun hf => ?_)
        exact v_iret hf dX15_hoursSince_33
/-- LivesAheadModel.hoursSince(I)I -/
def f_X15_hoursSince (σ : TH) (p0 : Nat) (p1 : Int32) : Option (Int32 × TH) :=
  f_X15_hoursSince_b2 fu_ σ p0 p1 (0 : Int32)
set_option maxHeartbeats 4000000 in
set_option maxRecDepth 100000 in
theorem c_X15_hoursSince {l : Launch} {D : va_G} {cy : Nat → ClassId} {ka : Nat → Nat} {σ z : TH} {p0 : Nat} {p1 : Int32} {r : Int32} (hf : f_X15_hoursSince σ p0 p1 = some (r, z)) : ct_ l D cy ka yX15_hoursSince 4 96 [va_rf (some p0), .int p1] σ (some (.int r)) z := by
  unfold f_X15_hoursSince at hf
  refine v_start (cc := cX15_hoursSince) (own := RX15) (maxL := 3) (ret := (some FieldType.int)) (nm := "hoursSince") (by decide +kernel) kw_1989 rfl rfl (by simp [lg_sl, va_rf_cat, cat_i, cat_l]) ?_
  refine v_eqL (L2 := [(0, va_rf (some p0)), (1, .int p1)]) (by simp [lv_args, va_rf_cat, cat_i, cat_l]) ?_
  refine v_iconst (v := 0) dX15_hoursSince_0 (by decide) ?_
  refine v_istore_n [(2, .int (0 : Int32)), (0, va_rf (some p0)), (1, .int p1)] dX15_hoursSince_1 rfl (by decide) rfl ?_
  refine v_sub [1, 2, 0] (L2 := [(0, va_rf (some p0)), (1, .int p1), (2, .int (0 : Int32))]) rfl ?_
  exact t_X15_hoursSince_b2  _ _ _ _ _ hf
theorem dX15_reportsBy_0 : decode cX15_reportsBy 0 = .ok (.iconst 0, 1) := by decide +kernel
theorem dX15_reportsBy_1 : decode cX15_reportsBy 1 = .ok (.istore_n 3, 1) := by decide +kernel
theorem dX15_reportsBy_2 : decode cX15_reportsBy 2 = .ok (.iconst 0, 1) := by decide +kernel
theorem dX15_reportsBy_3 : decode cX15_reportsBy 3 = .ok (.istore 4, 2) := by decide +kernel
theorem dX15_reportsBy_5 : decode cX15_reportsBy 5 = .ok (.iload 4, 2) := by decide +kernel
theorem dX15_reportsBy_7 : decode cX15_reportsBy 7 = .ok (.aload_n 0, 1) := by decide +kernel
theorem dX15_reportsBy_8 : decode cX15_reportsBy 8 = .ok (.getfield 540, 3) := by decide +kernel
theorem dX15_reportsBy_11 : decode cX15_reportsBy 11 = .ok (.if_icmp .ge 38, 3) := by decide +kernel
theorem dX15_reportsBy_14 : decode cX15_reportsBy 14 = .ok (.iload_n 3, 1) := by decide +kernel
theorem dX15_reportsBy_15 : decode cX15_reportsBy 15 = .ok (.aload_n 0, 1) := by decide +kernel
theorem dX15_reportsBy_16 : decode cX15_reportsBy 16 = .ok (.getfield 128, 3) := by decide +kernel
theorem dX15_reportsBy_19 : decode cX15_reportsBy 19 = .ok (.iload 4, 2) := by decide +kernel
theorem dX15_reportsBy_21 : decode cX15_reportsBy 21 = .ok (.iaload, 1) := by decide +kernel
theorem dX15_reportsBy_22 : decode cX15_reportsBy 22 = .ok (.iload_n 2, 1) := by decide +kernel
theorem dX15_reportsBy_23 : decode cX15_reportsBy 23 = .ok (.if_icmp .ne 17, 3) := by decide +kernel
theorem dX15_reportsBy_26 : decode cX15_reportsBy 26 = .ok (.aload_n 0, 1) := by decide +kernel
theorem dX15_reportsBy_27 : decode cX15_reportsBy 27 = .ok (.iload 4, 2) := by decide +kernel
theorem dX15_reportsBy_29 : decode cX15_reportsBy 29 = .ok (.iload_n 1, 1) := by decide +kernel
theorem dX15_reportsBy_30 : decode cX15_reportsBy 30 = .ok (.invokevirtual 553, 3) := by decide +kernel
theorem dX15_reportsBy_33 : decode cX15_reportsBy 33 = .ok (.ifCond .eq 7, 3) := by decide +kernel
theorem dX15_reportsBy_36 : decode cX15_reportsBy 36 = .ok (.iconst 1, 1) := by decide +kernel
theorem dX15_reportsBy_37 : decode cX15_reportsBy 37 = .ok (.goto 4, 3) := by decide +kernel
theorem dX15_reportsBy_40 : decode cX15_reportsBy 40 = .ok (.iconst 0, 1) := by decide +kernel
theorem dX15_reportsBy_41 : decode cX15_reportsBy 41 = .ok (.iadd, 1) := by decide +kernel
theorem dX15_reportsBy_42 : decode cX15_reportsBy 42 = .ok (.istore_n 3, 1) := by decide +kernel
theorem dX15_reportsBy_43 : decode cX15_reportsBy 43 = .ok (.iinc 4 1, 3) := by decide +kernel
theorem dX15_reportsBy_46 : decode cX15_reportsBy 46 = .ok (.goto (-41), 3) := by decide +kernel
theorem dX15_reportsBy_49 : decode cX15_reportsBy 49 = .ok (.iload_n 3, 1) := by decide +kernel
theorem dX15_reportsBy_50 : decode cX15_reportsBy 50 = .ok (.ireturn, 1) := by decide +kernel
def f_X15_reportsBy_b41 (rec_5 : TH → Nat → Int32 → Int32 → Int32 → Int32 → Option (Int32 × TH)) (σ : TH) (l0 : Nat) (l1 : Int32) (l2 : Int32) (l4 : Int32) (t0 : Int32) (t1 : Int32) : Option (Int32 × TH) :=
  lt_ (t1 + t0) fun x7 => lt_ (l4 + 1) fun x8 => rec_5 σ l0 l1 l2 x7 x8
set_option maxHeartbeats 4000000 in
set_option maxRecDepth 100000 in
theorem t_X15_reportsBy_b41 {l : Launch} {D : va_G} {cy : Nat → ClassId} {ka : Nat → Nat} {σ0 z : TH} {r : Int32} {rec_5 : TH → Nat → Int32 → Int32 → Int32 → Int32 → Option (Int32 × TH)} (hrec_5 : ∀ (σ : TH) (l0 : Nat) (l1 : Int32) (l2 : Int32) (l3 : Int32) (l4 : Int32), rec_5 σ l0 l1 l2 l3 l4 = some (r, z) → v_ l D cy ka cX15_reportsBy RX15 5 (some FieldType.int) "reportsBy" 4 96 (qf_ D cy σ0 z (some (.int r))) σ0 z σ 5 [(0, va_rf (some l0)), (1, .int l1), (2, .int l2), (3, .int l3), (4, .int l4)] []) {σ : TH} {l0 : Nat} {l1 : Int32} {l2 : Int32} {l4 : Int32} {t0 : Int32} {t1 : Int32} (hf : f_X15_reportsBy_b41 rec_5 σ l0 l1 l2 l4 t0 t1 = some (r, z)) : v_ l D cy ka cX15_reportsBy RX15 5 (some FieldType.int) "reportsBy" 4 96 (qf_ D cy σ0 z (some (.int r))) σ0 z σ 41 [(0, va_rf (some l0)), (1, .int l1), (2, .int l2), (4, .int l4)] [.int t0, .int t1] := by
  unfold f_X15_reportsBy_b41 at hf
  refine v_iadd dX15_reportsBy_41 ?_
  obtain ⟨x7, ex7⟩ : ∃ y : Int32, y = t1 + t0 := ⟨_, rfl⟩
  rw [lt_e, ← ex7] at hf
  rw [← ex7]
  refine v_istore_n [(3, .int x7), (0, va_rf (some l0)), (1, .int l1), (2, .int l2), (4, .int l4)] dX15_reportsBy_42 rfl (by decide) rfl ?_
  obtain ⟨x8, ex8⟩ : ∃ y : Int32, y = l4 + 1 := ⟨_, rfl⟩
  rw [lt_e, ← ex8] at hf
  refine v_iinc (v := x8) [(4, .int x8), (3, .int x7), (0, va_rf (some l0)), (1, .int l1), (2, .int l2)] dX15_reportsBy_43 4 rfl (by rw [ex8]; rfl) (by decide) rfl ?_
  refine v_goto (tgt := 5) dX15_reportsBy_46 (by decide) ?_
  refine v_sub [2, 3, 4, 1, 0] (L2 := [(0, va_rf (some l0)), (1, .int l1), (2, .int l2), (3, .int x7), (4, .int x8)]) rfl ?_
  exact hrec_5 _ _ _ _ _ _ hf
def f_X15_reportsBy_b40 (rec_5 : TH → Nat → Int32 → Int32 → Int32 → Int32 → Option (Int32 × TH)) (σ : TH) (l0 : Nat) (l1 : Int32) (l2 : Int32) (l4 : Int32) (t0 : Int32) : Option (Int32 × TH) :=
  f_X15_reportsBy_b41 rec_5 σ l0 l1 l2 l4 (0 : Int32) t0
set_option maxHeartbeats 4000000 in
set_option maxRecDepth 100000 in
theorem t_X15_reportsBy_b40 {l : Launch} {D : va_G} {cy : Nat → ClassId} {ka : Nat → Nat} {σ0 z : TH} {r : Int32} {rec_5 : TH → Nat → Int32 → Int32 → Int32 → Int32 → Option (Int32 × TH)} (hrec_5 : ∀ (σ : TH) (l0 : Nat) (l1 : Int32) (l2 : Int32) (l3 : Int32) (l4 : Int32), rec_5 σ l0 l1 l2 l3 l4 = some (r, z) → v_ l D cy ka cX15_reportsBy RX15 5 (some FieldType.int) "reportsBy" 4 96 (qf_ D cy σ0 z (some (.int r))) σ0 z σ 5 [(0, va_rf (some l0)), (1, .int l1), (2, .int l2), (3, .int l3), (4, .int l4)] []) {σ : TH} {l0 : Nat} {l1 : Int32} {l2 : Int32} {l4 : Int32} {t0 : Int32} (hf : f_X15_reportsBy_b40 rec_5 σ l0 l1 l2 l4 t0 = some (r, z)) : v_ l D cy ka cX15_reportsBy RX15 5 (some FieldType.int) "reportsBy" 4 96 (qf_ D cy σ0 z (some (.int r))) σ0 z σ 40 [(0, va_rf (some l0)), (1, .int l1), (2, .int l2), (4, .int l4)] [.int t0] := by
  unfold f_X15_reportsBy_b40 at hf
  refine v_iconst (v := 0) dX15_reportsBy_40 (by decide) ?_
  refine v_sub [0, 1, 2, 3] (L2 := [(0, va_rf (some l0)), (1, .int l1), (2, .int l2), (4, .int l4)]) rfl ?_
  exact t_X15_reportsBy_b41 hrec_5 hf
def f_X15_reportsBy_b5 : Nat → TH → Nat → Int32 → Int32 → Int32 → Int32 → Option (Int32 × TH)
  | 0, _, _, _, _, _, _ => none
  | n + 1, σ, l0, l1, l2, l3, l4 => gt_ (kd_ σ l0 = 17) <| lt_ (fi_ σ 1659 l0) fun x1 => if x1 ≤ l4 then (some (l3, σ)) else (lt_ (fr_ σ 1664 l0) fun r2 => nn_ r2 fun a3 => gt_ (kd_ σ a3 = 20) <| gt_ (¬ (l4 < 0 ∨ ln_ σ a3 ≤ l4.toNatClampNeg)) <| lt_ (ai_ σ a3 l4.toNatClampNeg) fun x4 => if x4 = l2 then (bd_ (f_X15_speaksOf σ l0 l4 l1) fun x5 s6 => if x5 = 0 then (f_X15_reportsBy_b40 (f_X15_reportsBy_b5 n) s6 l0 l1 l2 l4 l3) else (f_X15_reportsBy_b41 (f_X15_reportsBy_b5 n) s6 l0 l1 l2 l4 (1 : Int32) l3)) else (f_X15_reportsBy_b40 (f_X15_reportsBy_b5 n) σ l0 l1 l2 l4 l3))
set_option maxHeartbeats 4000000 in
set_option maxRecDepth 100000 in
theorem t_X15_reportsBy_b5 {l : Launch} {D : va_G} {cy : Nat → ClassId} {ka : Nat → Nat} {σ0 z : TH} {r : Int32}  : ∀ (n : Nat) (σ : TH) (l0 : Nat) (l1 : Int32) (l2 : Int32) (l3 : Int32) (l4 : Int32), f_X15_reportsBy_b5 n σ l0 l1 l2 l3 l4 = some (r, z) → v_ l D cy ka cX15_reportsBy RX15 5 (some FieldType.int) "reportsBy" 4 96 (qf_ D cy σ0 z (some (.int r))) σ0 z σ 5 [(0, va_rf (some l0)), (1, .int l1), (2, .int l2), (3, .int l3), (4, .int l4)] [] := by
  intro n
  induction n with
  | zero => intro σ l0 l1 l2 l3 l4 hf; unfold f_X15_reportsBy_b5 at hf; cases hf
  | succ n ih =>
    intro σ l0 l1 l2 l3 l4 hf
    unfold f_X15_reportsBy_b5 at hf
    have hrec_5 := ih
    refine v_iload (x := l4) dX15_reportsBy_5 4 rfl ?_
    refine v_aload_n (x := (some l0)) dX15_reportsBy_7 rfl 0 rfl ?_
    obtain ⟨hk_l0, hf⟩ := gt_of hf
    refine v_geti cb_16 hk_l0 59 1659 rfl (by decide) rfl (lk_n kw_1516 rfl) hf dX15_reportsBy_8 (fun x1 hf => ?_)
    refine v_icmp_ge (tgt := 49) hf dX15_reportsBy_11 (by decide) (fun hq hf => ?_) (fun hq hf => ?_)
    · refine v_iload_n (x := l3) dX15_reportsBy_49 rfl 3 rfl ?_
      exact v_iret hf dX15_reportsBy_50
    · refine v_iload_n (x := l3) dX15_reportsBy_14 rfl 3 rfl ?_
      refine v_aload_n (x := (some l0)) dX15_reportsBy_15 rfl 0 rfl ?_
      refine v_getr cb_16 hk_l0 64 1664 rfl (by decide) rfl (lk_n kw_1521 rfl) hf dX15_reportsBy_16 (fun r2 hf => ?_)
      refine v_iload (x := l4) dX15_reportsBy_19 4 rfl ?_
      obtain ⟨a3, rfl, hf⟩ := nn_of hf
      obtain ⟨hk_a3, hf⟩ := gt_of hf
      refine v_iald hk_a3 hf dX15_reportsBy_21 (fun x4 hf => ?_)
      refine v_iload_n (x := l2) dX15_reportsBy_22 rfl 2 rfl ?_
      refine v_icmp_ne (tgt := 40) hf dX15_reportsBy_23 (by decide) (fun hq hf => ?_) (fun hq hf => ?_)
      · refine v_aload_n (x := (some l0)) dX15_reportsBy_26 rfl 0 rfl ?_
        refine v_iload (x := l4) dX15_reportsBy_27 4 rfl ?_
        refine v_iload_n (x := l1) dX15_reportsBy_29 rfl 1 rfl ?_
        obtain ⟨x5, s6, hcs6, hf⟩ := bd_of hf
        have hts6 := c_X15_speaksOf (l := l) (D := D) (cy := cy) (ka := ka) hcs6
        refine v_callV cb_16 hk_l0 (As := [.int l4, .int l1]) (rest := [.int l3]) hts6 yb_X15_speaksOf kw_1974 kw_1976 kp_112 rfl ⟨Nat.le_of_ble_eq_true rfl, Nat.le_of_ble_eq_true rfl⟩ rfl (cat_len (Nat.le_of_ble_eq_true rfl)) dX15_reportsBy_30 ?_
        have hk_l0 := tk_ hts6.1 hk_l0
        show v_ l D cy ka cX15_reportsBy RX15 5 (some FieldType.int) "reportsBy" 4 96 (qf_ D cy σ0 z (some (.int r))) σ0 z _ 33 [(0, va_rf (some l0)), (1, .int l1), (2, .int l2), (3, .int l3), (4, .int l4)] [.int x5, .int l3]
        refine v_if_eq (tgt := 40) hf dX15_reportsBy_33 (by decide) (fun hq hf => ?_) (fun hq hf => ?_)
        · refine v_sub [0, 1, 2, 4] (L2 := [(0, va_rf (some l0)), (1, .int l1), (2, .int l2), (4, .int l4)]) rfl ?_
          exact t_X15_reportsBy_b40 hrec_5 hf
        · refine v_iconst (v := 1) dX15_reportsBy_36 (by decide) ?_
          refine v_goto (tgt := 41) dX15_reportsBy_37 (by decide) ?_
          refine v_sub [0, 1, 2, 4] (L2 := [(0, va_rf (some l0)), (1, .int l1), (2, .int l2), (4, .int l4)]) rfl ?_
          exact t_X15_reportsBy_b41 hrec_5 hf
      · refine v_sub [0, 1, 2, 4] (L2 := [(0, va_rf (some l0)), (1, .int l1), (2, .int l2), (4, .int l4)]) rfl ?_
        exact t_X15_reportsBy_b40 hrec_5 hf
/-- LivesAheadModel.reportsBy(II)I -/
def f_X15_reportsBy (σ : TH) (p0 : Nat) (p1 : Int32) (p2 : Int32) : Option (Int32 × TH) :=
  f_X15_reportsBy_b5 fu_ σ p0 p1 p2 (0 : Int32) (0 : Int32)
set_option maxHeartbeats 4000000 in
set_option maxRecDepth 100000 in
theorem c_X15_reportsBy {l : Launch} {D : va_G} {cy : Nat → ClassId} {ka : Nat → Nat} {σ z : TH} {p0 : Nat} {p1 : Int32} {p2 : Int32} {r : Int32} (hf : f_X15_reportsBy σ p0 p1 p2 = some (r, z)) : ct_ l D cy ka yX15_reportsBy 4 96 [va_rf (some p0), .int p1, .int p2] σ (some (.int r)) z := by
  unfold f_X15_reportsBy at hf
  refine v_start (cc := cX15_reportsBy) (own := RX15) (maxL := 5) (ret := (some FieldType.int)) (nm := "reportsBy") (by decide +kernel) kw_1973 rfl rfl (by simp [lg_sl, va_rf_cat, cat_i, cat_l]) ?_
  refine v_eqL (L2 := [(0, va_rf (some p0)), (1, .int p1), (2, .int p2)]) (by simp [lv_args, va_rf_cat, cat_i, cat_l]) ?_
  refine v_iconst (v := 0) dX15_reportsBy_0 (by decide) ?_
  refine v_istore_n [(3, .int (0 : Int32)), (0, va_rf (some p0)), (1, .int p1), (2, .int p2)] dX15_reportsBy_1 rfl (by decide) rfl ?_
  refine v_iconst (v := 0) dX15_reportsBy_2 (by decide) ?_
  refine v_istore [(4, .int (0 : Int32)), (3, .int (0 : Int32)), (0, va_rf (some p0)), (1, .int p1), (2, .int p2)] dX15_reportsBy_3 (by decide) rfl ?_
  refine v_sub [2, 3, 4, 1, 0] (L2 := [(0, va_rf (some p0)), (1, .int p1), (2, .int p2), (3, .int (0 : Int32)), (4, .int (0 : Int32))]) rfl ?_
  exact t_X15_reportsBy_b5  _ _ _ _ _ _ _ hf
theorem dX15_openOn_0 : decode cX15_openOn 0 = .ok (.aload_n 0, 1) := by decide +kernel
theorem dX15_openOn_1 : decode cX15_openOn 1 = .ok (.iload_n 1, 1) := by decide +kernel
theorem dX15_openOn_2 : decode cX15_openOn 2 = .ok (.iload_n 2, 1) := by decide +kernel
theorem dX15_openOn_3 : decode cX15_openOn 3 = .ok (.iload_n 3, 1) := by decide +kernel
theorem dX15_openOn_4 : decode cX15_openOn 4 = .ok (.invokevirtual 262, 3) := by decide +kernel
theorem dX15_openOn_7 : decode cX15_openOn 7 = .ok (.istore 4, 2) := by decide +kernel
theorem dX15_openOn_9 : decode cX15_openOn 9 = .ok (.iload 4, 2) := by decide +kernel
theorem dX15_openOn_11 : decode cX15_openOn 11 = .ok (.iconst (-1), 1) := by decide +kernel
theorem dX15_openOn_12 : decode cX15_openOn 12 = .ok (.if_icmp .eq 26, 3) := by decide +kernel
theorem dX15_openOn_15 : decode cX15_openOn 15 = .ok (.aload_n 0, 1) := by decide +kernel
theorem dX15_openOn_16 : decode cX15_openOn 16 = .ok (.getfield 69, 3) := by decide +kernel
theorem dX15_openOn_19 : decode cX15_openOn 19 = .ok (.iload 4, 2) := by decide +kernel
theorem dX15_openOn_21 : decode cX15_openOn 21 = .ok (.baload, 1) := by decide +kernel
theorem dX15_openOn_22 : decode cX15_openOn 22 = .ok (.ifCond .eq 16, 3) := by decide +kernel
theorem dX15_openOn_25 : decode cX15_openOn 25 = .ok (.aload_n 0, 1) := by decide +kernel
theorem dX15_openOn_26 : decode cX15_openOn 26 = .ok (.iload_n 1, 1) := by decide +kernel
theorem dX15_openOn_27 : decode cX15_openOn 27 = .ok (.iload_n 3, 1) := by decide +kernel
theorem dX15_openOn_28 : decode cX15_openOn 28 = .ok (.invokevirtual 223, 3) := by decide +kernel
theorem dX15_openOn_31 : decode cX15_openOn 31 = .ok (.ifCond .ne 7, 3) := by decide +kernel
theorem dX15_openOn_34 : decode cX15_openOn 34 = .ok (.iconst (-1), 1) := by decide +kernel
theorem dX15_openOn_35 : decode cX15_openOn 35 = .ok (.goto 5, 3) := by decide +kernel
theorem dX15_openOn_38 : decode cX15_openOn 38 = .ok (.iload 4, 2) := by decide +kernel
theorem dX15_openOn_40 : decode cX15_openOn 40 = .ok (.ireturn, 1) := by decide +kernel
def f_X15_openOn_b40 (σ : TH) (t0 : Int32) : Option (Int32 × TH) :=
  some (t0, σ)
set_option maxHeartbeats 4000000 in
set_option maxRecDepth 100000 in
theorem t_X15_openOn_b40 {l : Launch} {D : va_G} {cy : Nat → ClassId} {ka : Nat → Nat} {σ0 z : TH} {r : Int32}  {σ : TH} {t0 : Int32} (hf : f_X15_openOn_b40 σ t0 = some (r, z)) : v_ l D cy ka cX15_openOn RX15 5 (some FieldType.int) "openOn" 1 25 (qf_ D cy σ0 z (some (.int r))) σ0 z σ 40 [] [.int t0] := by
  unfold f_X15_openOn_b40 at hf
  exact v_iret hf dX15_openOn_40
def f_X15_openOn_b38 (σ : TH) (l4 : Int32) : Option (Int32 × TH) :=
  f_X15_openOn_b40 σ l4
set_option maxHeartbeats 4000000 in
set_option maxRecDepth 100000 in
theorem t_X15_openOn_b38 {l : Launch} {D : va_G} {cy : Nat → ClassId} {ka : Nat → Nat} {σ0 z : TH} {r : Int32}  {σ : TH} {l4 : Int32} (hf : f_X15_openOn_b38 σ l4 = some (r, z)) : v_ l D cy ka cX15_openOn RX15 5 (some FieldType.int) "openOn" 1 25 (qf_ D cy σ0 z (some (.int r))) σ0 z σ 38 [(4, .int l4)] [] := by
  unfold f_X15_openOn_b38 at hf
  refine v_iload (x := l4) dX15_openOn_38 0 rfl ?_
  refine v_sub [] (L2 := []) rfl ?_
  exact t_X15_openOn_b40  hf
/-- LivesAheadModel.openOn(III)I -/
def f_X15_openOn (σ : TH) (p0 : Nat) (p1 : Int32) (p2 : Int32) (p3 : Int32) : Option (Int32 × TH) :=
  gt_ (kd_ σ p0 = 17) <| bd_ (f_X15_tellingOn σ p0 p1 p2 p3) fun x1 s2 => if x1 = (-1 : Int32) then (f_X15_openOn_b38 s2 x1) else (lt_ (fr_ s2 1624 p0) fun r3 => nn_ r3 fun a4 => gt_ (kd_ s2 a4 = 22) <| gt_ (¬ (x1 < 0 ∨ ln_ s2 a4 ≤ x1.toNatClampNeg)) <| lt_ (ai_ s2 a4 x1.toNatClampNeg) fun x5 => if x5 = 0 then (f_X15_openOn_b38 s2 x1) else (bd_ (f_X15_isDeadBy s2 p0 p1 p3) fun x6 s7 => if x6 = 0 then (f_X15_openOn_b40 s7 (-1 : Int32)) else (f_X15_openOn_b38 s7 x1)))
set_option maxHeartbeats 4000000 in
set_option maxRecDepth 100000 in
theorem c_X15_openOn {l : Launch} {D : va_G} {cy : Nat → ClassId} {ka : Nat → Nat} {σ z : TH} {p0 : Nat} {p1 : Int32} {p2 : Int32} {p3 : Int32} {r : Int32} (hf : f_X15_openOn σ p0 p1 p2 p3 = some (r, z)) : ct_ l D cy ka yX15_openOn 1 25 [va_rf (some p0), .int p1, .int p2, .int p3] σ (some (.int r)) z := by
  unfold f_X15_openOn at hf
  refine v_start (cc := cX15_openOn) (own := RX15) (maxL := 5) (ret := (some FieldType.int)) (nm := "openOn") (by decide +kernel) kw_1997 rfl rfl (by simp [lg_sl, va_rf_cat, cat_i, cat_l]) ?_
  refine v_eqL (L2 := [(0, va_rf (some p0)), (1, .int p1), (2, .int p2), (3, .int p3)]) (by simp [lv_args, va_rf_cat, cat_i, cat_l]) ?_
  refine v_aload_n (x := (some p0)) dX15_openOn_0 rfl 0 rfl ?_
  refine v_iload_n (x := p1) dX15_openOn_1 rfl 1 rfl ?_
  refine v_iload_n (x := p2) dX15_openOn_2 rfl 2 rfl ?_
  refine v_iload_n (x := p3) dX15_openOn_3 rfl 3 rfl ?_
  obtain ⟨hk_p0, hf⟩ := gt_of hf
  obtain ⟨x1, s2, hcs2, hf⟩ := bd_of hf
  have hts2 := c_X15_tellingOn (l := l) (D := D) (cy := cy) (ka := ka) hcs2
  refine v_callV cb_16 hk_p0 (As := [.int p1, .int p2, .int p3]) (rest := []) hts2 yb_X15_tellingOn kw_1833 kw_1835 kp_92 rfl ⟨Nat.le_of_ble_eq_true rfl, Nat.le_of_ble_eq_true rfl⟩ rfl (cat_len (Nat.le_of_ble_eq_true rfl)) dX15_openOn_4 ?_
  have hk_p0 := tk_ hts2.1 hk_p0
  show v_ l D cy ka cX15_openOn RX15 5 (some FieldType.int) "openOn" 1 25 (qf_ D cy σ z (some (.int r))) σ z _ 7 [(0, va_rf (some p0)), (1, .int p1), (2, .int p2), (3, .int p3)] [.int x1]
  refine v_istore [(4, .int x1), (0, va_rf (some p0)), (1, .int p1), (2, .int p2), (3, .int p3)] dX15_openOn_7 (by decide) rfl ?_
  refine v_iload (x := x1) dX15_openOn_9 0 rfl ?_
  refine v_iconst (v := (-1)) dX15_openOn_11 (by decide) ?_
  refine v_icmp_eq (tgt := 38) hf dX15_openOn_12 (by decide) (fun hq hf => ?_) (fun hq hf => ?_)
  · refine v_sub [0] (L2 := [(4, .int x1)]) rfl ?_
    exact t_X15_openOn_b38  hf
  · refine v_aload_n (x := (some p0)) dX15_openOn_15 rfl 1 rfl ?_
    refine v_getr cb_16 hk_p0 24 1624 rfl (by decide) rfl (lk_n kw_1481 rfl) hf dX15_openOn_16 (fun r3 hf => ?_)
    refine v_iload (x := x1) dX15_openOn_19 0 rfl ?_
    obtain ⟨a4, rfl, hf⟩ := nn_of hf
    obtain ⟨hk_a4, hf⟩ := gt_of hf
    refine v_zald hk_a4 hf dX15_openOn_21 (fun x5 hf => ?_)
    refine v_if_eq (tgt := 38) hf dX15_openOn_22 (by decide) (fun hq hf => ?_) (fun hq hf => ?_)
    · refine v_sub [0] (L2 := [(4, .int x1)]) rfl ?_
      exact t_X15_openOn_b38  hf
    · refine v_aload_n (x := (some p0)) dX15_openOn_25 rfl 1 rfl ?_
      refine v_iload_n (x := p1) dX15_openOn_26 rfl 2 rfl ?_
      refine v_iload_n (x := p3) dX15_openOn_27 rfl 4 rfl ?_
      obtain ⟨x6, s7, hcs7, hf⟩ := bd_of hf
      have hts7 := c_X15_isDeadBy (l := l) (D := D) (cy := cy) (ka := ka) hcs7
      refine v_callV cb_16 hk_p0 (As := [.int p1, .int p3]) (rest := []) hts7 yb_X15_isDeadBy kw_1782 kw_1784 kp_86 rfl ⟨Nat.le_of_ble_eq_true rfl, Nat.le_of_ble_eq_true rfl⟩ rfl (cat_len (Nat.le_of_ble_eq_true rfl)) dX15_openOn_28 ?_
      have hk_p0 := tk_ hts7.1 hk_p0
      show v_ l D cy ka cX15_openOn RX15 5 (some FieldType.int) "openOn" 1 25 (qf_ D cy σ z (some (.int r))) σ z _ 31 [(4, .int x1), (0, va_rf (some p0)), (1, .int p1), (2, .int p2), (3, .int p3)] [.int x6]
      refine v_if_ne (tgt := 38) hf dX15_openOn_31 (by decide) (fun hq hf => ?_) (fun hq hf => ?_)
      · refine v_iconst (v := (-1)) dX15_openOn_34 (by decide) ?_
        refine v_goto (tgt := 40) dX15_openOn_35 (by decide) ?_
        refine v_sub [] (L2 := []) rfl ?_
        exact t_X15_openOn_b40  hf
      · refine v_sub [0] (L2 := [(4, .int x1)]) rfl ?_
        exact t_X15_openOn_b38  hf
theorem dX15_isPlain_0 : decode cX15_isPlain 0 = .ok (.iload_n 0, 1) := by decide +kernel
theorem dX15_isPlain_1 : decode cX15_isPlain 1 = .ok (.bipush 32, 2) := by decide +kernel
theorem dX15_isPlain_3 : decode cX15_isPlain 3 = .ok (.if_icmp .lt 31, 3) := by decide +kernel
theorem dX15_isPlain_6 : decode cX15_isPlain 6 = .ok (.iload_n 0, 1) := by decide +kernel
theorem dX15_isPlain_7 : decode cX15_isPlain 7 = .ok (.bipush 126, 2) := by decide +kernel
theorem dX15_isPlain_9 : decode cX15_isPlain 9 = .ok (.if_icmp .gt 25, 3) := by decide +kernel
theorem dX15_isPlain_12 : decode cX15_isPlain 12 = .ok (.iload_n 0, 1) := by decide +kernel
theorem dX15_isPlain_13 : decode cX15_isPlain 13 = .ok (.bipush 123, 2) := by decide +kernel
theorem dX15_isPlain_15 : decode cX15_isPlain 15 = .ok (.if_icmp .eq 19, 3) := by decide +kernel
theorem dX15_isPlain_18 : decode cX15_isPlain 18 = .ok (.iload_n 0, 1) := by decide +kernel
theorem dX15_isPlain_19 : decode cX15_isPlain 19 = .ok (.bipush 125, 2) := by decide +kernel
theorem dX15_isPlain_21 : decode cX15_isPlain 21 = .ok (.if_icmp .eq 13, 3) := by decide +kernel
theorem dX15_isPlain_24 : decode cX15_isPlain 24 = .ok (.iload_n 0, 1) := by decide +kernel
theorem dX15_isPlain_25 : decode cX15_isPlain 25 = .ok (.bipush 124, 2) := by decide +kernel
theorem dX15_isPlain_27 : decode cX15_isPlain 27 = .ok (.if_icmp .eq 7, 3) := by decide +kernel
theorem dX15_isPlain_30 : decode cX15_isPlain 30 = .ok (.iconst 1, 1) := by decide +kernel
theorem dX15_isPlain_31 : decode cX15_isPlain 31 = .ok (.goto 4, 3) := by decide +kernel
theorem dX15_isPlain_34 : decode cX15_isPlain 34 = .ok (.iconst 0, 1) := by decide +kernel
theorem dX15_isPlain_35 : decode cX15_isPlain 35 = .ok (.ireturn, 1) := by decide +kernel
def f_X15_isPlain_b35 (σ : TH) (t0 : Int32) : Option (Int32 × TH) :=
  gt_ (t0 = 0 ∨ t0 = 1) <| some (t0, σ)
set_option maxHeartbeats 4000000 in
set_option maxRecDepth 100000 in
theorem t_X15_isPlain_b35 {l : Launch} {D : va_G} {cy : Nat → ClassId} {ka : Nat → Nat} {σ0 z : TH} {r : Int32}  {σ : TH} {t0 : Int32} (hf : f_X15_isPlain_b35 σ t0 = some (r, z)) : v_ l D cy ka cX15_isPlain RX15 1 (some FieldType.boolean) "isPlain" 0 0 (qf_ D cy σ0 z (some (.int r))) σ0 z σ 35 [] [.int t0] := by
  unfold f_X15_isPlain_b35 at hf
  obtain ⟨hb9, hf⟩ := gt_of hf
  exact v_zret hf (nz_ hb9) dX15_isPlain_35
def f_X15_isPlain_b34 (σ : TH) : Option (Int32 × TH) :=
  f_X15_isPlain_b35 σ (0 : Int32)
set_option maxHeartbeats 4000000 in
set_option maxRecDepth 100000 in
theorem t_X15_isPlain_b34 {l : Launch} {D : va_G} {cy : Nat → ClassId} {ka : Nat → Nat} {σ0 z : TH} {r : Int32}  {σ : TH}  (hf : f_X15_isPlain_b34 σ  = some (r, z)) : v_ l D cy ka cX15_isPlain RX15 1 (some FieldType.boolean) "isPlain" 0 0 (qf_ D cy σ0 z (some (.int r))) σ0 z σ 34 [] [] := by
  unfold f_X15_isPlain_b34 at hf
  refine v_iconst (v := 0) dX15_isPlain_34 (by decide) ?_
  refine v_sub [] (L2 := []) rfl ?_
  exact t_X15_isPlain_b35  hf
/-- LivesAheadModel.isPlain(I)Z -/
def f_X15_isPlain (σ : TH) (p0 : Int32) : Option (Int32 × TH) :=
  if p0 < (32 : Int32) then (f_X15_isPlain_b34 σ ) else (if (126 : Int32) < p0 then (f_X15_isPlain_b34 σ ) else (if p0 = (123 : Int32) then (f_X15_isPlain_b34 σ ) else (if p0 = (125 : Int32) then (f_X15_isPlain_b34 σ ) else (if p0 = (124 : Int32) then (f_X15_isPlain_b34 σ ) else (f_X15_isPlain_b35 σ (1 : Int32))))))
set_option maxHeartbeats 4000000 in
set_option maxRecDepth 100000 in
theorem c_X15_isPlain {l : Launch} {D : va_G} {cy : Nat → ClassId} {ka : Nat → Nat} {σ z : TH} {p0 : Int32} {r : Int32} (hf : f_X15_isPlain σ p0 = some (r, z)) : ct_ l D cy ka yX15_isPlain 0 0 [.int p0] σ (some (.int r)) z := by
  unfold f_X15_isPlain at hf
  refine v_start (cc := cX15_isPlain) (own := RX15) (maxL := 1) (ret := (some FieldType.boolean)) (nm := "isPlain") (by decide +kernel) kw_1887 rfl rfl (by simp [lg_sl, va_rf_cat, cat_i, cat_l]) ?_
  refine v_eqL (L2 := [(0, .int p0)]) (by simp [lv_args, va_rf_cat, cat_i, cat_l]) ?_
  refine v_iload_n (x := p0) dX15_isPlain_0 rfl 0 rfl ?_
  refine v_bipush (v := 32) dX15_isPlain_1 (by decide) ?_
  refine v_icmp_lt (tgt := 34) hf dX15_isPlain_3 (by decide) (fun hq hf => ?_) (fun hq hf => ?_)
  · refine v_sub [] (L2 := []) rfl ?_
    exact t_X15_isPlain_b34  hf
  · refine v_iload_n (x := p0) dX15_isPlain_6 rfl 0 rfl ?_
    refine v_bipush (v := 126) dX15_isPlain_7 (by decide) ?_
    refine v_icmp_gt (tgt := 34) hf dX15_isPlain_9 (by decide) (fun hq hf => ?_) (fun hq hf => ?_)
    · refine v_sub [] (L2 := []) rfl ?_
      exact t_X15_isPlain_b34  hf
    · refine v_iload_n (x := p0) dX15_isPlain_12 rfl 0 rfl ?_
      refine v_bipush (v := 123) dX15_isPlain_13 (by decide) ?_
      refine v_icmp_eq (tgt := 34) hf dX15_isPlain_15 (by decide) (fun hq hf => ?_) (fun hq hf => ?_)
      · refine v_sub [] (L2 := []) rfl ?_
        exact t_X15_isPlain_b34  hf
      · refine v_iload_n (x := p0) dX15_isPlain_18 rfl 0 rfl ?_
        refine v_bipush (v := 125) dX15_isPlain_19 (by decide) ?_
        refine v_icmp_eq (tgt := 34) hf dX15_isPlain_21 (by decide) (fun hq hf => ?_) (fun hq hf => ?_)
        · refine v_sub [] (L2 := []) rfl ?_
          exact t_X15_isPlain_b34  hf
        · refine v_iload_n (x := p0) dX15_isPlain_24 rfl 0 rfl ?_
          refine v_bipush (v := 124) dX15_isPlain_25 (by decide) ?_
          refine v_icmp_eq (tgt := 34) hf dX15_isPlain_27 (by decide) (fun hq hf => ?_) (fun hq hf => ?_)
          · refine v_sub [] (L2 := []) rfl ?_
            exact t_X15_isPlain_b34  hf
          · refine v_iconst (v := 1) dX15_isPlain_30 (by decide) ?_
            refine v_goto (tgt := 35) dX15_isPlain_31 (by decide) ?_
            refine v_sub [] (L2 := []) rfl ?_
            exact t_X15_isPlain_b35  hf
theorem dX15_starts_0 : decode cX15_starts 0 = .ok (.aload_n 0, 1) := by decide +kernel
theorem dX15_starts_1 : decode cX15_starts 1 = .ok (.aload_n 1, 1) := by decide +kernel
theorem dX15_starts_2 : decode cX15_starts 2 = .ok (.putfield 89, 3) := by decide +kernel
theorem dX15_starts_5 : decode cX15_starts 5 = .ok (.aload_n 0, 1) := by decide +kernel
theorem dX15_starts_6 : decode cX15_starts 6 = .ok (.iload_n 2, 1) := by decide +kernel
theorem dX15_starts_7 : decode cX15_starts 7 = .ok (.putfield 275, 3) := by decide +kernel
theorem dX15_starts_10 : decode cX15_starts 10 = .ok (.aload_n 0, 1) := by decide +kernel
theorem dX15_starts_11 : decode cX15_starts 11 = .ok (.iconst 0, 1) := by decide +kernel
theorem dX15_starts_12 : decode cX15_starts 12 = .ok (.putfield 289, 3) := by decide +kernel
theorem dX15_starts_15 : decode cX15_starts 15 = .ok (.aload_n 0, 1) := by decide +kernel
theorem dX15_starts_16 : decode cX15_starts 16 = .ok (.iconst 0, 1) := by decide +kernel
theorem dX15_starts_17 : decode cX15_starts 17 = .ok (.putfield 345, 3) := by decide +kernel
theorem dX15_starts_20 : decode cX15_starts 20 = .ok (.aload_n 0, 1) := by decide +kernel
theorem dX15_starts_21 : decode cX15_starts 21 = .ok (.iconst 0, 1) := by decide +kernel
theorem dX15_starts_22 : decode cX15_starts 22 = .ok (.putfield 425, 3) := by decide +kernel
theorem dX15_starts_25 : decode cX15_starts 25 = .ok (.aload_n 0, 1) := by decide +kernel
theorem dX15_starts_26 : decode cX15_starts 26 = .ok (.iconst 0, 1) := by decide +kernel
theorem dX15_starts_27 : decode cX15_starts 27 = .ok (.putfield 399, 3) := by decide +kernel
theorem dX15_starts_30 : decode cX15_starts 30 = .ok (.aload_n 0, 1) := by decide +kernel
theorem dX15_starts_31 : decode cX15_starts 31 = .ok (.iconst 0, 1) := by decide +kernel
theorem dX15_starts_32 : decode cX15_starts 32 = .ok (.putfield 327, 3) := by decide +kernel
theorem dX15_starts_35 : decode cX15_starts 35 = .ok (.aload_n 0, 1) := by decide +kernel
theorem dX15_starts_36 : decode cX15_starts 36 = .ok (.iload_n 3, 1) := by decide +kernel
theorem dX15_starts_37 : decode cX15_starts 37 = .ok (.putfield 402, 3) := by decide +kernel
theorem dX15_starts_40 : decode cX15_starts 40 = .ok (.aload_n 0, 1) := by decide +kernel
theorem dX15_starts_41 : decode cX15_starts 41 = .ok (.aload_n 0, 1) := by decide +kernel
theorem dX15_starts_42 : decode cX15_starts 42 = .ok (.invokevirtual 230, 3) := by decide +kernel
theorem dX15_starts_45 : decode cX15_starts 45 = .ok (.putfield 405, 3) := by decide +kernel
theorem dX15_starts_48 : decode cX15_starts 48 = .ok (.return_, 1) := by decide +kernel
/-- LivesAheadModel.starts([BII)V -/
def f_X15_starts (σ : TH) (p0 : Nat) (p1 : Option Nat) (p2 : Int32) (p3 : Int32) : Option (Unit × TH) :=
  gt_ (kd_ σ p0 = 17) <| lt_ (sr_ σ 1629 p0 p1) fun s1 => lt_ (si_ s1 1631 p0 p2) fun s2 => lt_ (si_ s2 1632 p0 (0 : Int32)) fun s3 => lt_ (si_ s3 1638 p0 (0 : Int32)) fun s4 => lt_ (si_ s4 1639 p0 (0 : Int32)) fun s5 => lt_ (si_ s5 1640 p0 (0 : Int32)) fun s6 => lt_ (si_ s6 1641 p0 (0 : Int32)) fun s7 => lt_ (si_ s7 1643 p0 p3) fun s8 => bd_ (f_X15_today s8 p0) fun x9 s10 => lt_ (si_ s10 1644 p0 x9) fun s11 => some ((), s11)
set_option maxHeartbeats 4000000 in
set_option maxRecDepth 100000 in
theorem c_X15_starts {l : Launch} {D : va_G} {cy : Nat → ClassId} {ka : Nat → Nat} {σ z : TH} {p0 : Nat} {p1 : Option Nat} {p2 : Int32} {p3 : Int32} {r : Unit} (hf : f_X15_starts σ p0 p1 p2 p3 = some (r, z)) : ct_ l D cy ka yX15_starts 1 20 [va_rf (some p0), va_rf p1, .int p2, .int p3] σ none z := by
  unfold f_X15_starts at hf
  refine v_start (cc := cX15_starts) (own := RX15) (maxL := 4) (ret := none) (nm := "starts") (by decide +kernel) kw_1876 rfl rfl (by simp [lg_sl, va_rf_cat, cat_i, cat_l]) ?_
  refine v_eqL (L2 := [(0, va_rf (some p0)), (1, va_rf p1), (2, .int p2), (3, .int p3)]) (by simp [lv_args, va_rf_cat, cat_i, cat_l]) ?_
  refine v_aload_n (x := (some p0)) dX15_starts_0 rfl 0 rfl ?_
  refine v_aload_n (x := p1) dX15_starts_1 rfl 1 rfl ?_
  obtain ⟨hk_p0, hf⟩ := gt_of hf
  refine v_putr2 cb_16 hk_p0 29 1629 rfl (by decide) rfl (lk_n kw_1486 rfl) (Or.inl rfl) (nr_ _ (Or.inr ⟨_, rfl⟩)) (fr9_ _ (Or.inr ⟨_, rfl⟩)) hf dX15_starts_2 (fun s1 hts1 hf => ?_)
  have hk_p0 := tk_ hts1 hk_p0
  refine v_aload_n (x := (some p0)) dX15_starts_5 rfl 0 rfl ?_
  refine v_iload_n (x := p2) dX15_starts_6 rfl 2 rfl ?_
  refine v_puti2 cb_16 hk_p0 31 1631 rfl (by decide) rfl (lk_n kw_1488 rfl) (Or.inl rfl) rfl rfl hf dX15_starts_7 (fun s2 hts2 hf => ?_)
  have hk_p0 := tk_ hts2 hk_p0
  refine v_aload_n (x := (some p0)) dX15_starts_10 rfl 0 rfl ?_
  refine v_iconst (v := 0) dX15_starts_11 (by decide) ?_
  refine v_puti2 cb_16 hk_p0 32 1632 rfl (by decide) rfl (lk_n kw_1489 rfl) (Or.inl rfl) rfl rfl hf dX15_starts_12 (fun s3 hts3 hf => ?_)
  have hk_p0 := tk_ hts3 hk_p0
  refine v_aload_n (x := (some p0)) dX15_starts_15 rfl 0 rfl ?_
  refine v_iconst (v := 0) dX15_starts_16 (by decide) ?_
  refine v_puti2 cb_16 hk_p0 38 1638 rfl (by decide) rfl (lk_n kw_1495 rfl) (Or.inl rfl) rfl rfl hf dX15_starts_17 (fun s4 hts4 hf => ?_)
  have hk_p0 := tk_ hts4 hk_p0
  refine v_aload_n (x := (some p0)) dX15_starts_20 rfl 0 rfl ?_
  refine v_iconst (v := 0) dX15_starts_21 (by decide) ?_
  refine v_puti2 cb_16 hk_p0 39 1639 rfl (by decide) rfl (lk_n kw_1496 rfl) (Or.inl rfl) rfl rfl hf dX15_starts_22 (fun s5 hts5 hf => ?_)
  have hk_p0 := tk_ hts5 hk_p0
  refine v_aload_n (x := (some p0)) dX15_starts_25 rfl 0 rfl ?_
  refine v_iconst (v := 0) dX15_starts_26 (by decide) ?_
  refine v_puti2 cb_16 hk_p0 40 1640 rfl (by decide) rfl (lk_n kw_1497 rfl) (Or.inl rfl) rfl rfl hf dX15_starts_27 (fun s6 hts6 hf => ?_)
  have hk_p0 := tk_ hts6 hk_p0
  refine v_aload_n (x := (some p0)) dX15_starts_30 rfl 0 rfl ?_
  refine v_iconst (v := 0) dX15_starts_31 (by decide) ?_
  refine v_puti2 cb_16 hk_p0 41 1641 rfl (by decide) rfl (lk_n kw_1498 rfl) (Or.inl rfl) rfl rfl hf dX15_starts_32 (fun s7 hts7 hf => ?_)
  have hk_p0 := tk_ hts7 hk_p0
  refine v_aload_n (x := (some p0)) dX15_starts_35 rfl 0 rfl ?_
  refine v_iload_n (x := p3) dX15_starts_36 rfl 3 rfl ?_
  refine v_puti2 cb_16 hk_p0 43 1643 rfl (by decide) rfl (lk_n kw_1500 rfl) (Or.inl rfl) rfl rfl hf dX15_starts_37 (fun s8 hts8 hf => ?_)
  have hk_p0 := tk_ hts8 hk_p0
  refine v_aload_n (x := (some p0)) dX15_starts_40 rfl 0 rfl ?_
  refine v_aload_n (x := (some p0)) dX15_starts_41 rfl 0 rfl ?_
  obtain ⟨x9, s10, hcs10, hf⟩ := bd_of hf
  have hts10 := c_X15_today (l := l) (D := D) (cy := cy) (ka := ka) hcs10
  refine v_callV cb_16 hk_p0 (As := []) (rest := [va_rf (some p0)]) hts10 yb_X15_today kw_1774 kw_1776 kp_84 rfl ⟨Nat.le_of_ble_eq_true rfl, Nat.le_of_ble_eq_true rfl⟩ rfl (cat_len (Nat.le_of_ble_eq_true rfl)) dX15_starts_42 ?_
  have hk_p0 := tk_ hts10.1 hk_p0
  show v_ l D cy ka cX15_starts RX15 4 none "starts" 1 20 (qf_ D cy σ z none) σ z _ 45 [(0, va_rf (some p0)), (1, va_rf p1), (2, .int p2), (3, .int p3)] [.int x9, va_rf (some p0)]
  refine v_puti2 cb_16 hk_p0 44 1644 rfl (by decide) rfl (lk_n kw_1501 rfl) (Or.inl rfl) rfl rfl hf dX15_starts_45 (fun s11 hts11 hf => ?_)
  have hk_p0 := tk_ hts11 hk_p0
  exact v_vret hf dX15_starts_48
theorem dX15_cutLong_0 : decode cX15_cutLong 0 = .ok (.aload_n 0, 1) := by decide +kernel
theorem dX15_cutLong_1 : decode cX15_cutLong 1 = .ok (.iconst 0, 1) := by decide +kernel
theorem dX15_cutLong_2 : decode cX15_cutLong 2 = .ok (.putfield 1, 3) := by decide +kernel
theorem dX15_cutLong_5 : decode cX15_cutLong 5 = .ok (.aload_n 0, 1) := by decide +kernel
theorem dX15_cutLong_6 : decode cX15_cutLong 6 = .ok (.getfield 113, 3) := by decide +kernel
theorem dX15_cutLong_9 : decode cX15_cutLong 9 = .ok (.ireturn, 1) := by decide +kernel
/-- LivesAheadModel.cutLong()I -/
def f_X15_cutLong (σ : TH) (p0 : Nat) : Option (Int32 × TH) :=
  gt_ (kd_ σ p0 = 17) <| lt_ (si_ σ 1600 p0 (0 : Int32)) fun s1 => lt_ (fi_ s1 1657 p0) fun x2 => some (x2, s1)
set_option maxHeartbeats 4000000 in
set_option maxRecDepth 100000 in
theorem c_X15_cutLong {l : Launch} {D : va_G} {cy : Nat → ClassId} {ka : Nat → Nat} {σ z : TH} {p0 : Nat} {r : Int32} (hf : f_X15_cutLong σ p0 = some (r, z)) : ct_ l D cy ka yX15_cutLong 0 0 [va_rf (some p0)] σ (some (.int r)) z := by
  unfold f_X15_cutLong at hf
  refine v_start (cc := cX15_cutLong) (own := RX15) (maxL := 1) (ret := (some FieldType.int)) (nm := "cutLong") (by decide +kernel) kw_2105 rfl rfl (by simp [lg_sl, va_rf_cat, cat_i, cat_l]) ?_
  refine v_eqL (L2 := [(0, va_rf (some p0))]) (by simp [lv_args, va_rf_cat, cat_i, cat_l]) ?_
  refine v_aload_n (x := (some p0)) dX15_cutLong_0 rfl 0 rfl ?_
  refine v_iconst (v := 0) dX15_cutLong_1 (by decide) ?_
  obtain ⟨hk_p0, hf⟩ := gt_of hf
  refine v_puti2 cb_16 hk_p0 0 1600 rfl (by decide) rfl (lk_n kw_1457 rfl) (Or.inl rfl) rfl rfl hf dX15_cutLong_2 (fun s1 hts1 hf => ?_)
  have hk_p0 := tk_ hts1 hk_p0
  refine v_aload_n (x := (some p0)) dX15_cutLong_5 rfl 0 rfl ?_
  refine v_geti cb_16 hk_p0 57 1657 rfl (by decide) rfl (lk_n kw_1514 rfl) hf dX15_cutLong_6 (fun x2 hf => ?_)
  exact v_iret hf dX15_cutLong_9
theorem dX15_cutOf_0 : decode cX15_cutOf 0 = .ok (.aload_n 0, 1) := by decide +kernel
theorem dX15_cutOf_1 : decode cX15_cutOf 1 = .ok (.iconst 0, 1) := by decide +kernel
theorem dX15_cutOf_2 : decode cX15_cutOf 2 = .ok (.putfield 1, 3) := by decide +kernel
theorem dX15_cutOf_5 : decode cX15_cutOf 5 = .ok (.aload_n 0, 1) := by decide +kernel
theorem dX15_cutOf_6 : decode cX15_cutOf 6 = .ok (.getfield 110, 3) := by decide +kernel
theorem dX15_cutOf_9 : decode cX15_cutOf 9 = .ok (.ireturn, 1) := by decide +kernel
/-- LivesAheadModel.cutOf()I -/
def f_X15_cutOf (σ : TH) (p0 : Nat) : Option (Int32 × TH) :=
  gt_ (kd_ σ p0 = 17) <| lt_ (si_ σ 1600 p0 (0 : Int32)) fun s1 => lt_ (fi_ s1 1656 p0) fun x2 => some (x2, s1)
set_option maxHeartbeats 4000000 in
set_option maxRecDepth 100000 in
theorem c_X15_cutOf {l : Launch} {D : va_G} {cy : Nat → ClassId} {ka : Nat → Nat} {σ z : TH} {p0 : Nat} {r : Int32} (hf : f_X15_cutOf σ p0 = some (r, z)) : ct_ l D cy ka yX15_cutOf 0 0 [va_rf (some p0)] σ (some (.int r)) z := by
  unfold f_X15_cutOf at hf
  refine v_start (cc := cX15_cutOf) (own := RX15) (maxL := 1) (ret := (some FieldType.int)) (nm := "cutOf") (by decide +kernel) kw_2101 rfl rfl (by simp [lg_sl, va_rf_cat, cat_i, cat_l]) ?_
  refine v_eqL (L2 := [(0, va_rf (some p0))]) (by simp [lv_args, va_rf_cat, cat_i, cat_l]) ?_
  refine v_aload_n (x := (some p0)) dX15_cutOf_0 rfl 0 rfl ?_
  refine v_iconst (v := 0) dX15_cutOf_1 (by decide) ?_
  obtain ⟨hk_p0, hf⟩ := gt_of hf
  refine v_puti2 cb_16 hk_p0 0 1600 rfl (by decide) rfl (lk_n kw_1457 rfl) (Or.inl rfl) rfl rfl hf dX15_cutOf_2 (fun s1 hts1 hf => ?_)
  have hk_p0 := tk_ hts1 hk_p0
  refine v_aload_n (x := (some p0)) dX15_cutOf_5 rfl 0 rfl ?_
  refine v_geti cb_16 hk_p0 56 1656 rfl (by decide) rfl (lk_n kw_1513 rfl) hf dX15_cutOf_6 (fun x2 hf => ?_)
  exact v_iret hf dX15_cutOf_9
theorem dX12_init_0 : decode cX12_init 0 = .ok (.aload_n 0, 1) := by decide +kernel
theorem dX12_init_1 : decode cX12_init 1 = .ok (.invokespecial 3, 3) := by decide +kernel
theorem dX12_init_4 : decode cX12_init 4 = .ok (.aload_n 0, 1) := by decide +kernel
theorem dX12_init_5 : decode cX12_init 5 = .ok (.bipush 10, 2) := by decide +kernel
theorem dX12_init_7 : decode cX12_init 7 = .ok (.newarray .int, 2) := by decide +kernel
theorem dX12_init_9 : decode cX12_init 9 = .ok (.putfield 9, 3) := by decide +kernel
theorem dX12_init_12 : decode cX12_init 12 = .ok (.aload_n 0, 1) := by decide +kernel
theorem dX12_init_13 : decode cX12_init 13 = .ok (.bipush 10, 2) := by decide +kernel
theorem dX12_init_15 : decode cX12_init 15 = .ok (.newarray .int, 2) := by decide +kernel
theorem dX12_init_17 : decode cX12_init 17 = .ok (.putfield 15, 3) := by decide +kernel
theorem dX12_init_20 : decode cX12_init 20 = .ok (.return_, 1) := by decide +kernel
/-- LivesAheadModel$Edition.<init>()V -/
def f_X12_init (σ : TH) (p0 : Nat) : Option (Unit × TH) :=
  gt_ (¬ (10 : Int32) < 0 ∧ (10 : Int32).toNatClampNeg ≤ 100000 ∧ kd_ σ (nx_ σ) = 0) <| lt_ (nx_ σ) fun a1 => lt_ (nw_ σ 20 ((10 : Int32).toNatClampNeg) ((10 : Int32).toNatClampNeg)) fun s2 => gt_ (kd_ s2 p0 = 14) <| lt_ (sr_ s2 1309 p0 ((some a1))) fun s3 => gt_ (¬ (10 : Int32) < 0 ∧ (10 : Int32).toNatClampNeg ≤ 100000 ∧ kd_ s3 (nx_ s3) = 0) <| lt_ (nx_ s3) fun a4 => lt_ (nw_ s3 20 ((10 : Int32).toNatClampNeg) ((10 : Int32).toNatClampNeg)) fun s5 => lt_ (sr_ s5 1310 p0 ((some a4))) fun s6 => some ((), s6)
set_option maxHeartbeats 4000000 in
set_option maxRecDepth 100000 in
theorem c_X12_init {l : Launch} {D : va_G} {cy : Nat → ClassId} {ka : Nat → Nat} {σ z : TH} {p0 : Nat} {r : Unit} (hf : f_X12_init σ p0 = some (r, z)) : ct_ l D cy ka yX12_init 1 20 [va_rf (some p0)] σ none z := by
  unfold f_X12_init at hf
  refine v_start (cc := cX12_init) (own := RX12) (maxL := 1) (ret := none) (nm := "<init>") (by decide +kernel) kw_2173 rfl rfl (by simp [lg_sl, va_rf_cat, cat_i, cat_l]) ?_
  refine v_eqL (L2 := [(0, va_rf (some p0))]) (by simp [lv_args, va_rf_cat, cat_i, cat_l]) ?_
  refine v_aload_n (x := (some p0)) dX12_init_0 rfl 0 rfl ?_
  refine v_objInit kw_2174 kw_40 kw_41 (by decide) (by decide) (cat_len (Nat.le_of_ble_eq_true rfl)) dX12_init_1 ?_
  refine v_aload_n (x := (some p0)) dX12_init_4 rfl 0 rfl ?_
  refine v_bipush (v := 10) dX12_init_5 (by decide) ?_
  refine v_newaI2 kw_135 hf dX12_init_7 (fun a1 s2 hts2 hk_a1 hf => ?_)
  obtain ⟨hk_p0, hf⟩ := gt_of hf
  refine v_putr2 cb_13 hk_p0 9 1309 rfl (by decide) rfl (lk_n kw_2184 rfl) (Or.inr ⟨rfl, rfl, rfl, rfl, kw_2184⟩) (nr_ _ (Or.inr ⟨_, rfl⟩)) (fr9_ _ (Or.inr ⟨_, rfl⟩)) hf dX12_init_9 (fun s3 hts3 hf => ?_)
  have hk_p0 := tk_ hts3 hk_p0
  refine v_aload_n (x := (some p0)) dX12_init_12 rfl 0 rfl ?_
  refine v_bipush (v := 10) dX12_init_13 (by decide) ?_
  refine v_newaI2 kw_135 hf dX12_init_15 (fun a4 s5 hts5 hk_a4 hf => ?_)
  have hk_p0 := tk_ hts5 hk_p0
  refine v_putr2 cb_13 hk_p0 10 1310 rfl (by decide) rfl (lk_n kw_2186 rfl) (Or.inr ⟨rfl, rfl, rfl, rfl, kw_2186⟩) (nr_ _ (Or.inr ⟨_, rfl⟩)) (fr9_ _ (Or.inr ⟨_, rfl⟩)) hf dX12_init_17 (fun s6 hts6 hf => ?_)
  have hk_p0 := tk_ hts6 hk_p0
  exact v_vret hf dX12_init_20
theorem dX15_bestPicture_0 : decode cX15_bestPicture 0 = .ok (.bipush (-2), 2) := by decide +kernel
theorem dX15_bestPicture_2 : decode cX15_bestPicture 2 = .ok (.istore_n 2, 1) := by decide +kernel
theorem dX15_bestPicture_3 : decode cX15_bestPicture 3 = .ok (.iconst 0, 1) := by decide +kernel
theorem dX15_bestPicture_4 : decode cX15_bestPicture 4 = .ok (.istore_n 3, 1) := by decide +kernel
theorem dX15_bestPicture_5 : decode cX15_bestPicture 5 = .ok (.iload_n 3, 1) := by decide +kernel
theorem dX15_bestPicture_6 : decode cX15_bestPicture 6 = .ok (.aload_n 0, 1) := by decide +kernel
theorem dX15_bestPicture_7 : decode cX15_bestPicture 7 = .ok (.getfield 559, 3) := by decide +kernel
theorem dX15_bestPicture_10 : decode cX15_bestPicture 10 = .ok (.if_icmp .ge 82, 3) := by decide +kernel
theorem dX15_bestPicture_13 : decode cX15_bestPicture 13 = .ok (.aload_n 0, 1) := by decide +kernel
theorem dX15_bestPicture_14 : decode cX15_bestPicture 14 = .ok (.getfield 143, 3) := by decide +kernel
theorem dX15_bestPicture_17 : decode cX15_bestPicture 17 = .ok (.iload_n 3, 1) := by decide +kernel
theorem dX15_bestPicture_18 : decode cX15_bestPicture 18 = .ok (.iaload, 1) := by decide +kernel
theorem dX15_bestPicture_19 : decode cX15_bestPicture 19 = .ok (.iload_n 1, 1) := by decide +kernel
theorem dX15_bestPicture_20 : decode cX15_bestPicture 20 = .ok (.if_icmp .ne 66, 3) := by decide +kernel
theorem dX15_bestPicture_23 : decode cX15_bestPicture 23 = .ok (.aload_n 0, 1) := by decide +kernel
theorem dX15_bestPicture_24 : decode cX15_bestPicture 24 = .ok (.invokevirtual 230, 3) := by decide +kernel
theorem dX15_bestPicture_27 : decode cX15_bestPicture 27 = .ok (.aload_n 0, 1) := by decide +kernel
theorem dX15_bestPicture_28 : decode cX15_bestPicture 28 = .ok (.getfield 149, 3) := by decide +kernel
theorem dX15_bestPicture_31 : decode cX15_bestPicture 31 = .ok (.iload_n 3, 1) := by decide +kernel
theorem dX15_bestPicture_32 : decode cX15_bestPicture 32 = .ok (.iaload, 1) := by decide +kernel
theorem dX15_bestPicture_33 : decode cX15_bestPicture 33 = .ok (.aload_n 0, 1) := by decide +kernel
theorem dX15_bestPicture_34 : decode cX15_bestPicture 34 = .ok (.getfield 152, 3) := by decide +kernel
theorem dX15_bestPicture_37 : decode cX15_bestPicture 37 = .ok (.iload_n 3, 1) := by decide +kernel
theorem dX15_bestPicture_38 : decode cX15_bestPicture 38 = .ok (.iaload, 1) := by decide +kernel
theorem dX15_bestPicture_39 : decode cX15_bestPicture 39 = .ok (.invokestatic 197, 3) := by decide +kernel
theorem dX15_bestPicture_42 : decode cX15_bestPicture 42 = .ok (.ifCond .eq 44, 3) := by decide +kernel
theorem dX15_bestPicture_45 : decode cX15_bestPicture 45 = .ok (.aload_n 0, 1) := by decide +kernel
theorem dX15_bestPicture_46 : decode cX15_bestPicture 46 = .ok (.getfield 158, 3) := by decide +kernel
theorem dX15_bestPicture_49 : decode cX15_bestPicture 49 = .ok (.iload_n 3, 1) := by decide +kernel
theorem dX15_bestPicture_50 : decode cX15_bestPicture 50 = .ok (.iaload, 1) := by decide +kernel
theorem dX15_bestPicture_51 : decode cX15_bestPicture 51 = .ok (.aload_n 0, 1) := by decide +kernel
theorem dX15_bestPicture_52 : decode cX15_bestPicture 52 = .ok (.getfield 155, 3) := by decide +kernel
theorem dX15_bestPicture_55 : decode cX15_bestPicture 55 = .ok (.iload_n 3, 1) := by decide +kernel
theorem dX15_bestPicture_56 : decode cX15_bestPicture 56 = .ok (.iaload, 1) := by decide +kernel
theorem dX15_bestPicture_57 : decode cX15_bestPicture 57 = .ok (.if_icmp .lt 6, 3) := by decide +kernel
theorem dX15_bestPicture_60 : decode cX15_bestPicture 60 = .ok (.goto 26, 3) := by decide +kernel
theorem dX15_bestPicture_63 : decode cX15_bestPicture 63 = .ok (.iload_n 2, 1) := by decide +kernel
theorem dX15_bestPicture_64 : decode cX15_bestPicture 64 = .ok (.bipush (-2), 2) := by decide +kernel
theorem dX15_bestPicture_66 : decode cX15_bestPicture 66 = .ok (.if_icmp .eq 18, 3) := by decide +kernel
theorem dX15_bestPicture_69 : decode cX15_bestPicture 69 = .ok (.aload_n 0, 1) := by decide +kernel
theorem dX15_bestPicture_70 : decode cX15_bestPicture 70 = .ok (.getfield 146, 3) := by decide +kernel
theorem dX15_bestPicture_73 : decode cX15_bestPicture 73 = .ok (.iload_n 3, 1) := by decide +kernel
theorem dX15_bestPicture_74 : decode cX15_bestPicture 74 = .ok (.iaload, 1) := by decide +kernel
theorem dX15_bestPicture_75 : decode cX15_bestPicture 75 = .ok (.aload_n 0, 1) := by decide +kernel
theorem dX15_bestPicture_76 : decode cX15_bestPicture 76 = .ok (.getfield 146, 3) := by decide +kernel
theorem dX15_bestPicture_79 : decode cX15_bestPicture 79 = .ok (.iload_n 2, 1) := by decide +kernel
theorem dX15_bestPicture_80 : decode cX15_bestPicture 80 = .ok (.iaload, 1) := by decide +kernel
theorem dX15_bestPicture_81 : decode cX15_bestPicture 81 = .ok (.if_icmp .le 5, 3) := by decide +kernel
theorem dX15_bestPicture_84 : decode cX15_bestPicture 84 = .ok (.iload_n 3, 1) := by decide +kernel
theorem dX15_bestPicture_85 : decode cX15_bestPicture 85 = .ok (.istore_n 2, 1) := by decide +kernel
theorem dX15_bestPicture_86 : decode cX15_bestPicture 86 = .ok (.iinc 3 1, 3) := by decide +kernel
theorem dX15_bestPicture_89 : decode cX15_bestPicture 89 = .ok (.goto (-84), 3) := by decide +kernel
theorem dX15_bestPicture_92 : decode cX15_bestPicture 92 = .ok (.iload_n 2, 1) := by decide +kernel
theorem dX15_bestPicture_93 : decode cX15_bestPicture 93 = .ok (.ireturn, 1) := by decide +kernel
def f_X15_bestPicture_b86 (rec_5 : TH → Nat → Int32 → Int32 → Int32 → Option (Int32 × TH)) (σ : TH) (l0 : Nat) (l1 : Int32) (l2 : Int32) (l3 : Int32) : Option (Int32 × TH) :=
  lt_ (l3 + 1) fun x15 => rec_5 σ l0 l1 l2 x15
set_option maxHeartbeats 4000000 in
set_option maxRecDepth 100000 in
theorem t_X15_bestPicture_b86 {l : Launch} {D : va_G} {cy : Nat → ClassId} {ka : Nat → Nat} {σ0 z : TH} {r : Int32} {rec_5 : TH → Nat → Int32 → Int32 → Int32 → Option (Int32 × TH)} (hrec_5 : ∀ (σ : TH) (l0 : Nat) (l1 : Int32) (l2 : Int32) (l3 : Int32), rec_5 σ l0 l1 l2 l3 = some (r, z) → v_ l D cy ka cX15_bestPicture RX15 4 (some FieldType.int) "bestPicture" 1 22 (qf_ D cy σ0 z (some (.int r))) σ0 z σ 5 [(0, va_rf (some l0)), (1, .int l1), (2, .int l2), (3, .int l3)] []) {σ : TH} {l0 : Nat} {l1 : Int32} {l2 : Int32} {l3 : Int32} (hf : f_X15_bestPicture_b86 rec_5 σ l0 l1 l2 l3 = some (r, z)) : v_ l D cy ka cX15_bestPicture RX15 4 (some FieldType.int) "bestPicture" 1 22 (qf_ D cy σ0 z (some (.int r))) σ0 z σ 86 [(0, va_rf (some l0)), (1, .int l1), (2, .int l2), (3, .int l3)] [] := by
  unfold f_X15_bestPicture_b86 at hf
  obtain ⟨x15, ex15⟩ : ∃ y : Int32, y = l3 + 1 := ⟨_, rfl⟩
  rw [lt_e, ← ex15] at hf
  refine v_iinc (v := x15) [(3, .int x15), (0, va_rf (some l0)), (1, .int l1), (2, .int l2)] dX15_bestPicture_86 3 rfl (by rw [ex15]; rfl) (by decide) rfl ?_
  refine v_goto (tgt := 5) dX15_bestPicture_89 (by decide) ?_
  refine v_sub [1, 2, 3, 0] (L2 := [(0, va_rf (some l0)), (1, .int l1), (2, .int l2), (3, .int x15)]) rfl ?_
  exact hrec_5 _ _ _ _ _ hf
def f_X15_bestPicture_b84 (rec_5 : TH → Nat → Int32 → Int32 → Int32 → Option (Int32 × TH)) (σ : TH) (l0 : Nat) (l1 : Int32) (l3 : Int32) : Option (Int32 × TH) :=
  f_X15_bestPicture_b86 rec_5 σ l0 l1 l3 l3
set_option maxHeartbeats 4000000 in
set_option maxRecDepth 100000 in
theorem t_X15_bestPicture_b84 {l : Launch} {D : va_G} {cy : Nat → ClassId} {ka : Nat → Nat} {σ0 z : TH} {r : Int32} {rec_5 : TH → Nat → Int32 → Int32 → Int32 → Option (Int32 × TH)} (hrec_5 : ∀ (σ : TH) (l0 : Nat) (l1 : Int32) (l2 : Int32) (l3 : Int32), rec_5 σ l0 l1 l2 l3 = some (r, z) → v_ l D cy ka cX15_bestPicture RX15 4 (some FieldType.int) "bestPicture" 1 22 (qf_ D cy σ0 z (some (.int r))) σ0 z σ 5 [(0, va_rf (some l0)), (1, .int l1), (2, .int l2), (3, .int l3)] []) {σ : TH} {l0 : Nat} {l1 : Int32} {l3 : Int32} (hf : f_X15_bestPicture_b84 rec_5 σ l0 l1 l3 = some (r, z)) : v_ l D cy ka cX15_bestPicture RX15 4 (some FieldType.int) "bestPicture" 1 22 (qf_ D cy σ0 z (some (.int r))) σ0 z σ 84 [(0, va_rf (some l0)), (1, .int l1), (3, .int l3)] [] := by
  unfold f_X15_bestPicture_b84 at hf
  refine v_iload_n (x := l3) dX15_bestPicture_84 rfl 2 rfl ?_
  refine v_istore_n [(2, .int l3), (0, va_rf (some l0)), (1, .int l1), (3, .int l3)] dX15_bestPicture_85 rfl (by decide) rfl ?_
  refine v_sub [1, 2, 0, 3] (L2 := [(0, va_rf (some l0)), (1, .int l1), (2, .int l3), (3, .int l3)]) rfl ?_
  exact t_X15_bestPicture_b86 hrec_5 hf
def f_X15_bestPicture_b5 : Nat → TH → Nat → Int32 → Int32 → Int32 → Option (Int32 × TH)
  | 0, _, _, _, _, _ => none
  | n + 1, σ, l0, l1, l2, l3 => gt_ (kd_ σ l0 = 17) <| lt_ (fi_ σ 1669 l0) fun x1 => if x1 ≤ l3 then (some (l2, σ)) else (lt_ (fr_ σ 1672 l0) fun r2 => nn_ r2 fun a3 => gt_ (kd_ σ a3 = 20) <| gt_ (¬ (l3 < 0 ∨ ln_ σ a3 ≤ l3.toNatClampNeg)) <| lt_ (ai_ σ a3 l3.toNatClampNeg) fun x4 => if x4 = l1 then (bd_ (f_X15_today σ l0) fun x5 s6 => lt_ (fr_ s6 1674 l0) fun r7 => nn_ r7 fun a8 => gt_ (kd_ s6 a8 = 20) <| gt_ (¬ (l3 < 0 ∨ ln_ s6 a8 ≤ l3.toNatClampNeg)) <| lt_ (ai_ s6 a8 l3.toNatClampNeg) fun x9 => lt_ (fr_ s6 1675 l0) fun r10 => nn_ r10 fun a11 => gt_ (kd_ s6 a11 = 20) <| gt_ (¬ (l3 < 0 ∨ ln_ s6 a11 ≤ l3.toNatClampNeg)) <| lt_ (ai_ s6 a11 l3.toNatClampNeg) fun x12 => bd_ (f_X15_in s6 x5 x9 x12) fun x13 s14 => if x13 = 0 then (f_X15_bestPicture_b86 (f_X15_bestPicture_b5 n) s14 l0 l1 l2 l3) else (lt_ (fr_ s14 1677 l0) fun r16 => nn_ r16 fun a17 => gt_ (kd_ s14 a17 = 20) <| gt_ (¬ (l3 < 0 ∨ ln_ s14 a17 ≤ l3.toNatClampNeg)) <| lt_ (ai_ s14 a17 l3.toNatClampNeg) fun x18 => lt_ (fr_ s14 1676 l0) fun r19 => nn_ r19 fun a20 => gt_ (kd_ s14 a20 = 20) <| gt_ (¬ (l3 < 0 ∨ ln_ s14 a20 ≤ l3.toNatClampNeg)) <| lt_ (ai_ s14 a20 l3.toNatClampNeg) fun x21 => if x18 < x21 then (if l2 = (-2 : Int32) then (f_X15_bestPicture_b84 (f_X15_bestPicture_b5 n) s14 l0 l1 l3) else (lt_ (fr_ s14 1673 l0) fun r22 => nn_ r22 fun a23 => gt_ (kd_ s14 a23 = 20) <| gt_ (¬ (l3 < 0 ∨ ln_ s14 a23 ≤ l3.toNatClampNeg)) <| lt_ (ai_ s14 a23 l3.toNatClampNeg) fun x24 => lt_ (fr_ s14 1673 l0) fun r25 => nn_ r25 fun a26 => gt_ (kd_ s14 a26 = 20) <| gt_ (¬ (l2 < 0 ∨ ln_ s14 a26 ≤ l2.toNatClampNeg)) <| lt_ (ai_ s14 a26 l2.toNatClampNeg) fun x27 => if x24 ≤ x27 then (f_X15_bestPicture_b86 (f_X15_bestPicture_b5 n) s14 l0 l1 l2 l3) else (f_X15_bestPicture_b84 (f_X15_bestPicture_b5 n) s14 l0 l1 l3))) else (f_X15_bestPicture_b86 (f_X15_bestPicture_b5 n) s14 l0 l1 l2 l3))) else (f_X15_bestPicture_b86 (f_X15_bestPicture_b5 n) σ l0 l1 l2 l3))
set_option maxHeartbeats 4000000 in
set_option maxRecDepth 100000 in
theorem t_X15_bestPicture_b5 {l : Launch} {D : va_G} {cy : Nat → ClassId} {ka : Nat → Nat} {σ0 z : TH} {r : Int32}  : ∀ (n : Nat) (σ : TH) (l0 : Nat) (l1 : Int32) (l2 : Int32) (l3 : Int32), f_X15_bestPicture_b5 n σ l0 l1 l2 l3 = some (r, z) → v_ l D cy ka cX15_bestPicture RX15 4 (some FieldType.int) "bestPicture" 1 22 (qf_ D cy σ0 z (some (.int r))) σ0 z σ 5 [(0, va_rf (some l0)), (1, .int l1), (2, .int l2), (3, .int l3)] [] := by
  intro n
  induction n with
  | zero => intro σ l0 l1 l2 l3 hf; unfold f_X15_bestPicture_b5 at hf; cases hf
  | succ n ih =>
    intro σ l0 l1 l2 l3 hf
    unfold f_X15_bestPicture_b5 at hf
    have hrec_5 := ih
    refine v_iload_n (x := l3) dX15_bestPicture_5 rfl 3 rfl ?_
    refine v_aload_n (x := (some l0)) dX15_bestPicture_6 rfl 0 rfl ?_
    obtain ⟨hk_l0, hf⟩ := gt_of hf
    refine v_geti cb_16 hk_l0 69 1669 rfl (by decide) rfl (lk_n kw_1526 rfl) hf dX15_bestPicture_7 (fun x1 hf => ?_)
    refine v_icmp_ge (tgt := 92) hf dX15_bestPicture_10 (by decide) (fun hq hf => ?_) (fun hq hf => ?_)
    · refine v_iload_n (x := l2) dX15_bestPicture_92 rfl 2 rfl ?_
      exact v_iret hf dX15_bestPicture_93
    · refine v_aload_n (x := (some l0)) dX15_bestPicture_13 rfl 0 rfl ?_
      refine v_getr cb_16 hk_l0 72 1672 rfl (by decide) rfl (lk_n kw_1529 rfl) hf dX15_bestPicture_14 (fun r2 hf => ?_)
      refine v_iload_n (x := l3) dX15_bestPicture_17 rfl 3 rfl ?_
      obtain ⟨a3, rfl, hf⟩ := nn_of hf
      obtain ⟨hk_a3, hf⟩ := gt_of hf
      refine v_iald hk_a3 hf dX15_bestPicture_18 (fun x4 hf => ?_)
      refine v_iload_n (x := l1) dX15_bestPicture_19 rfl 1 rfl ?_
      refine v_icmp_ne (tgt := 86) hf dX15_bestPicture_20 (by decide) (fun hq hf => ?_) (fun hq hf => ?_)
      · refine v_aload_n (x := (some l0)) dX15_bestPicture_23 rfl 0 rfl ?_
        obtain ⟨x5, s6, hcs6, hf⟩ := bd_of hf
        have hts6 := c_X15_today (l := l) (D := D) (cy := cy) (ka := ka) hcs6
        refine v_callV cb_16 hk_l0 (As := []) (rest := []) hts6 yb_X15_today kw_1774 kw_1776 kp_84 rfl ⟨Nat.le_of_ble_eq_true rfl, Nat.le_of_ble_eq_true rfl⟩ rfl (cat_len (Nat.le_of_ble_eq_true rfl)) dX15_bestPicture_24 ?_
        have hk_l0 := tk_ hts6.1 hk_l0
        show v_ l D cy ka cX15_bestPicture RX15 4 (some FieldType.int) "bestPicture" 1 22 (qf_ D cy σ0 z (some (.int r))) σ0 z _ 27 [(0, va_rf (some l0)), (1, .int l1), (2, .int l2), (3, .int l3)] [.int x5]
        refine v_aload_n (x := (some l0)) dX15_bestPicture_27 rfl 0 rfl ?_
        refine v_getr cb_16 hk_l0 74 1674 rfl (by decide) rfl (lk_n kw_1531 rfl) hf dX15_bestPicture_28 (fun r7 hf => ?_)
        refine v_iload_n (x := l3) dX15_bestPicture_31 rfl 3 rfl ?_
        obtain ⟨a8, rfl, hf⟩ := nn_of hf
        obtain ⟨hk_a8, hf⟩ := gt_of hf
        refine v_iald hk_a8 hf dX15_bestPicture_32 (fun x9 hf => ?_)
        refine v_aload_n (x := (some l0)) dX15_bestPicture_33 rfl 0 rfl ?_
        refine v_getr cb_16 hk_l0 75 1675 rfl (by decide) rfl (lk_n kw_1532 rfl) hf dX15_bestPicture_34 (fun r10 hf => ?_)
        refine v_iload_n (x := l3) dX15_bestPicture_37 rfl 3 rfl ?_
        obtain ⟨a11, rfl, hf⟩ := nn_of hf
        obtain ⟨hk_a11, hf⟩ := gt_of hf
        refine v_iald hk_a11 hf dX15_bestPicture_38 (fun x12 hf => ?_)
        obtain ⟨x13, s14, hcs14, hf⟩ := bd_of hf
        have hts14 := c_X15_in (l := l) (D := D) (cy := cy) (ka := ka) hcs14
        refine v_callS (As := [.int x5, .int x9, .int x12]) (rest := []) hts14 yb_X15_in kw_1726 kw_1727 rfl ⟨Nat.le_of_ble_eq_true rfl, Nat.le_of_ble_eq_true rfl⟩ rfl (cat_len (Nat.le_of_ble_eq_true rfl)) dX15_bestPicture_39 ?_
        have hk_l0 := tk_ hts14.1 hk_l0
        show v_ l D cy ka cX15_bestPicture RX15 4 (some FieldType.int) "bestPicture" 1 22 (qf_ D cy σ0 z (some (.int r))) σ0 z _ 42 [(0, va_rf (some l0)), (1, .int l1), (2, .int l2), (3, .int l3)] [.int x13]
        refine v_if_eq (tgt := 86) hf dX15_bestPicture_42 (by decide) (fun hq hf => ?_) (fun hq hf => ?_)
        · refine v_sub [0, 1, 2, 3] (L2 := [(0, va_rf (some l0)), (1, .int l1), (2, .int l2), (3, .int l3)]) rfl ?_
          exact t_X15_bestPicture_b86 hrec_5 hf
        · refine v_aload_n (x := (some l0)) dX15_bestPicture_45 rfl 0 rfl ?_
          refine v_getr cb_16 hk_l0 77 1677 rfl (by decide) rfl (lk_n kw_1534 rfl) hf dX15_bestPicture_46 (fun r16 hf => ?_)
          refine v_iload_n (x := l3) dX15_bestPicture_49 rfl 3 rfl ?_
          obtain ⟨a17, rfl, hf⟩ := nn_of hf
          obtain ⟨hk_a17, hf⟩ := gt_of hf
          refine v_iald hk_a17 hf dX15_bestPicture_50 (fun x18 hf => ?_)
          refine v_aload_n (x := (some l0)) dX15_bestPicture_51 rfl 0 rfl ?_
          refine v_getr cb_16 hk_l0 76 1676 rfl (by decide) rfl (lk_n kw_1533 rfl) hf dX15_bestPicture_52 (fun r19 hf => ?_)
          refine v_iload_n (x := l3) dX15_bestPicture_55 rfl 3 rfl ?_
          obtain ⟨a20, rfl, hf⟩ := nn_of hf
          obtain ⟨hk_a20, hf⟩ := gt_of hf
          refine v_iald hk_a20 hf dX15_bestPicture_56 (fun x21 hf => ?_)
          refine v_icmp_lt (tgt := 63) hf dX15_bestPicture_57 (by decide) (fun hq hf => ?_) (fun hq hf => ?_)
          · refine v_iload_n (x := l2) dX15_bestPicture_63 rfl 2 rfl ?_
            refine v_bipush (v := (-2)) dX15_bestPicture_64 (by decide) ?_
            refine v_icmp_eq (tgt := 84) hf dX15_bestPicture_66 (by decide) (fun hq hf => ?_) (fun hq hf => ?_)
            · refine v_sub [0, 1, 3] (L2 := [(0, va_rf (some l0)), (1, .int l1), (3, .int l3)]) rfl ?_
              exact t_X15_bestPicture_b84 hrec_5 hf
            · refine v_aload_n (x := (some l0)) dX15_bestPicture_69 rfl 0 rfl ?_
              refine v_getr cb_16 hk_l0 73 1673 rfl (by decide) rfl (lk_n kw_1530 rfl) hf dX15_bestPicture_70 (fun r22 hf => ?_)
              refine v_iload_n (x := l3) dX15_bestPicture_73 rfl 3 rfl ?_
              obtain ⟨a23, rfl, hf⟩ := nn_of hf
              obtain ⟨hk_a23, hf⟩ := gt_of hf
              refine v_iald hk_a23 hf dX15_bestPicture_74 (fun x24 hf => ?_)
              refine v_aload_n (x := (some l0)) dX15_bestPicture_75 rfl 0 rfl ?_
              refine v_getr cb_16 hk_l0 73 1673 rfl (by decide) rfl (lk_n kw_1530 rfl) hf dX15_bestPicture_76 (fun r25 hf => ?_)
              refine v_iload_n (x := l2) dX15_bestPicture_79 rfl 2 rfl ?_
              obtain ⟨a26, rfl, hf⟩ := nn_of hf
              obtain ⟨hk_a26, hf⟩ := gt_of hf
              refine v_iald hk_a26 hf dX15_bestPicture_80 (fun x27 hf => ?_)
              refine v_icmp_le (tgt := 86) hf dX15_bestPicture_81 (by decide) (fun hq hf => ?_) (fun hq hf => ?_)
              · refine v_sub [0, 1, 2, 3] (L2 := [(0, va_rf (some l0)), (1, .int l1), (2, .int l2), (3, .int l3)]) rfl ?_
                exact t_X15_bestPicture_b86 hrec_5 hf
              · refine v_sub [0, 1, 3] (L2 := [(0, va_rf (some l0)), (1, .int l1), (3, .int l3)]) rfl ?_
                exact t_X15_bestPicture_b84 hrec_5 hf
          · refine v_goto (tgt := 86) dX15_bestPicture_60 (by decide) ?_
            refine v_sub [0, 1, 2, 3] (L2 := [(0, va_rf (some l0)), (1, .int l1), (2, .int l2), (3, .int l3)]) rfl ?_
            exact t_X15_bestPicture_b86 hrec_5 hf
      · refine v_sub [0, 1, 2, 3] (L2 := [(0, va_rf (some l0)), (1, .int l1), (2, .int l2), (3, .int l3)]) rfl ?_
        exact t_X15_bestPicture_b86 hrec_5 hf
/-- LivesAheadModel.bestPicture(I)I -/
def f_X15_bestPicture (σ : TH) (p0 : Nat) (p1 : Int32) : Option (Int32 × TH) :=
  f_X15_bestPicture_b5 fu_ σ p0 p1 (-2 : Int32) (0 : Int32)
set_option maxHeartbeats 4000000 in
set_option maxRecDepth 100000 in
theorem c_X15_bestPicture {l : Launch} {D : va_G} {cy : Nat → ClassId} {ka : Nat → Nat} {σ z : TH} {p0 : Nat} {p1 : Int32} {r : Int32} (hf : f_X15_bestPicture σ p0 p1 = some (r, z)) : ct_ l D cy ka yX15_bestPicture 1 22 [va_rf (some p0), .int p1] σ (some (.int r)) z := by
  unfold f_X15_bestPicture at hf
  refine v_start (cc := cX15_bestPicture) (own := RX15) (maxL := 4) (ret := (some FieldType.int)) (nm := "bestPicture") (by decide +kernel) kw_2214 rfl rfl (by simp [lg_sl, va_rf_cat, cat_i, cat_l]) ?_
  refine v_eqL (L2 := [(0, va_rf (some p0)), (1, .int p1)]) (by simp [lv_args, va_rf_cat, cat_i, cat_l]) ?_
  refine v_bipush (v := (-2)) dX15_bestPicture_0 (by decide) ?_
  refine v_istore_n [(2, .int (-2 : Int32)), (0, va_rf (some p0)), (1, .int p1)] dX15_bestPicture_2 rfl (by decide) rfl ?_
  refine v_iconst (v := 0) dX15_bestPicture_3 (by decide) ?_
  refine v_istore_n [(3, .int (0 : Int32)), (2, .int (-2 : Int32)), (0, va_rf (some p0)), (1, .int p1)] dX15_bestPicture_4 rfl (by decide) rfl ?_
  refine v_sub [2, 3, 1, 0] (L2 := [(0, va_rf (some p0)), (1, .int p1), (2, .int (-2 : Int32)), (3, .int (0 : Int32))]) rfl ?_
  exact t_X15_bestPicture_b5  _ _ _ _ _ _ hf
theorem dX15_editionOf_0 : decode cX15_editionOf 0 = .ok (.aload_n 0, 1) := by decide +kernel
theorem dX15_editionOf_1 : decode cX15_editionOf 1 = .ok (.iconst 0, 1) := by decide +kernel
theorem dX15_editionOf_2 : decode cX15_editionOf 2 = .ok (.putfield 1, 3) := by decide +kernel
theorem dX15_editionOf_5 : decode cX15_editionOf 5 = .ok (.aload_n 0, 1) := by decide +kernel
theorem dX15_editionOf_6 : decode cX15_editionOf 6 = .ok (.iload_n 1, 1) := by decide +kernel
theorem dX15_editionOf_7 : decode cX15_editionOf 7 = .ok (.invokevirtual 587, 3) := by decide +kernel
theorem dX15_editionOf_10 : decode cX15_editionOf 10 = .ok (.ifCond .ne 5, 3) := by decide +kernel
theorem dX15_editionOf_13 : decode cX15_editionOf 13 = .ok (.iconst (-1), 1) := by decide +kernel
theorem dX15_editionOf_14 : decode cX15_editionOf 14 = .ok (.ireturn, 1) := by decide +kernel
theorem dX15_editionOf_15 : decode cX15_editionOf 15 = .ok (.aload_n 0, 1) := by decide +kernel
theorem dX15_editionOf_16 : decode cX15_editionOf 16 = .ok (.getfield 175, 3) := by decide +kernel
theorem dX15_editionOf_19 : decode cX15_editionOf 19 = .ok (.iload_n 1, 1) := by decide +kernel
theorem dX15_editionOf_20 : decode cX15_editionOf 20 = .ok (.aaload, 1) := by decide +kernel
theorem dX15_editionOf_21 : decode cX15_editionOf 21 = .ok (.astore_n 3, 1) := by decide +kernel
theorem dX15_editionOf_22 : decode cX15_editionOf 22 = .ok (.iload_n 2, 1) := by decide +kernel
theorem dX15_editionOf_23 : decode cX15_editionOf 23 = .ok (.tableswitch 85 0 7 #[45, 50, 55, 60, 65, 70, 75, 80], 45) := by decide +kernel
theorem dX15_editionOf_68 : decode cX15_editionOf 68 = .ok (.aload_n 3, 1) := by decide +kernel
theorem dX15_editionOf_69 : decode cX15_editionOf 69 = .ok (.getfield 569, 3) := by decide +kernel
theorem dX15_editionOf_72 : decode cX15_editionOf 72 = .ok (.ireturn, 1) := by decide +kernel
theorem dX15_editionOf_73 : decode cX15_editionOf 73 = .ok (.aload_n 3, 1) := by decide +kernel
theorem dX15_editionOf_74 : decode cX15_editionOf 74 = .ok (.getfield 570, 3) := by decide +kernel
theorem dX15_editionOf_77 : decode cX15_editionOf 77 = .ok (.ireturn, 1) := by decide +kernel
theorem dX15_editionOf_78 : decode cX15_editionOf 78 = .ok (.aload_n 3, 1) := by decide +kernel
theorem dX15_editionOf_79 : decode cX15_editionOf 79 = .ok (.getfield 581, 3) := by decide +kernel
theorem dX15_editionOf_82 : decode cX15_editionOf 82 = .ok (.ireturn, 1) := by decide +kernel
theorem dX15_editionOf_83 : decode cX15_editionOf 83 = .ok (.aload_n 3, 1) := by decide +kernel
theorem dX15_editionOf_84 : decode cX15_editionOf 84 = .ok (.getfield 578, 3) := by decide +kernel
theorem dX15_editionOf_87 : decode cX15_editionOf 87 = .ok (.ireturn, 1) := by decide +kernel
theorem dX15_editionOf_88 : decode cX15_editionOf 88 = .ok (.aload_n 3, 1) := by decide +kernel
theorem dX15_editionOf_89 : decode cX15_editionOf 89 = .ok (.getfield 574, 3) := by decide +kernel
theorem dX15_editionOf_92 : decode cX15_editionOf 92 = .ok (.ireturn, 1) := by decide +kernel
theorem dX15_editionOf_93 : decode cX15_editionOf 93 = .ok (.aload_n 3, 1) := by decide +kernel
theorem dX15_editionOf_94 : decode cX15_editionOf 94 = .ok (.getfield 577, 3) := by decide +kernel
theorem dX15_editionOf_97 : decode cX15_editionOf 97 = .ok (.ireturn, 1) := by decide +kernel
theorem dX15_editionOf_98 : decode cX15_editionOf 98 = .ok (.aload_n 3, 1) := by decide +kernel
theorem dX15_editionOf_99 : decode cX15_editionOf 99 = .ok (.getfield 583, 3) := by decide +kernel
theorem dX15_editionOf_102 : decode cX15_editionOf 102 = .ok (.ireturn, 1) := by decide +kernel
theorem dX15_editionOf_103 : decode cX15_editionOf 103 = .ok (.aload_n 3, 1) := by decide +kernel
theorem dX15_editionOf_104 : decode cX15_editionOf 104 = .ok (.getfield 590, 3) := by decide +kernel
theorem dX15_editionOf_107 : decode cX15_editionOf 107 = .ok (.ireturn, 1) := by decide +kernel
theorem dX15_editionOf_108 : decode cX15_editionOf 108 = .ok (.iconst (-1), 1) := by decide +kernel
theorem dX15_editionOf_109 : decode cX15_editionOf 109 = .ok (.ireturn, 1) := by decide +kernel
/-- LivesAheadModel.editionOf(II)I -/
def f_X15_editionOf (σ : TH) (p0 : Nat) (p1 : Int32) (p2 : Int32) : Option (Int32 × TH) :=
  gt_ (kd_ σ p0 = 17) <| lt_ (si_ σ 1600 p0 (0 : Int32)) fun s1 => bd_ (f_X15_isEdition s1 p0 p1) fun x2 s3 => if x2 = 0 then (some ((-1 : Int32), s3)) else (lt_ (fr_ s3 1682 p0) fun r4 => nn_ r4 fun a5 => gt_ (kd_ s3 a5 = 28) <| gt_ (¬ (p1 < 0 ∨ ln_ s3 a5 ≤ p1.toNatClampNeg)) <| lt_ (ar_ s3 a5 p1.toNatClampNeg) fun r6 => if p2 = 0 then (nn_ r6 fun a7 => gt_ (kd_ s3 a7 = 14) <| lt_ (fi_ s3 1300 a7) fun x8 => some (x8, s3)) else if p2 = 1 then (nn_ r6 fun a9 => gt_ (kd_ s3 a9 = 14) <| lt_ (fi_ s3 1301 a9) fun x10 => some (x10, s3)) else if p2 = 2 then (nn_ r6 fun a11 => gt_ (kd_ s3 a11 = 14) <| lt_ (fi_ s3 1302 a11) fun x12 => some (x12, s3)) else if p2 = 3 then (nn_ r6 fun a13 => gt_ (kd_ s3 a13 = 14) <| lt_ (fi_ s3 1303 a13) fun x14 => some (x14, s3)) else if p2 = 4 then (nn_ r6 fun a15 => gt_ (kd_ s3 a15 = 14) <| lt_ (fi_ s3 1304 a15) fun x16 => some (x16, s3)) else if p2 = 5 then (nn_ r6 fun a17 => gt_ (kd_ s3 a17 = 14) <| lt_ (fi_ s3 1305 a17) fun x18 => some (x18, s3)) else if p2 = 6 then (nn_ r6 fun a19 => gt_ (kd_ s3 a19 = 14) <| lt_ (fi_ s3 1306 a19) fun x20 => some (x20, s3)) else if p2 = 7 then (nn_ r6 fun a21 => gt_ (kd_ s3 a21 = 14) <| lt_ (fi_ s3 1308 a21) fun x22 => some (x22, s3)) else (some ((-1 : Int32), s3)))
set_option maxHeartbeats 4000000 in
set_option maxRecDepth 100000 in
theorem c_X15_editionOf {l : Launch} {D : va_G} {cy : Nat → ClassId} {ka : Nat → Nat} {σ z : TH} {p0 : Nat} {p1 : Int32} {p2 : Int32} {r : Int32} (hf : f_X15_editionOf σ p0 p1 p2 = some (r, z)) : ct_ l D cy ka yX15_editionOf 1 21 [va_rf (some p0), .int p1, .int p2] σ (some (.int r)) z := by
  unfold f_X15_editionOf at hf
  refine v_start (cc := cX15_editionOf) (own := RX15) (maxL := 4) (ret := (some FieldType.int)) (nm := "editionOf") (by decide +kernel) kw_2218 rfl rfl (by simp [lg_sl, va_rf_cat, cat_i, cat_l]) ?_
  refine v_eqL (L2 := [(0, va_rf (some p0)), (1, .int p1), (2, .int p2)]) (by simp [lv_args, va_rf_cat, cat_i, cat_l]) ?_
  refine v_aload_n (x := (some p0)) dX15_editionOf_0 rfl 0 rfl ?_
  refine v_iconst (v := 0) dX15_editionOf_1 (by decide) ?_
  obtain ⟨hk_p0, hf⟩ := gt_of hf
  refine v_puti2 cb_16 hk_p0 0 1600 rfl (by decide) rfl (lk_n kw_1457 rfl) (Or.inl rfl) rfl rfl hf dX15_editionOf_2 (fun s1 hts1 hf => ?_)
  have hk_p0 := tk_ hts1 hk_p0
  refine v_aload_n (x := (some p0)) dX15_editionOf_5 rfl 0 rfl ?_
  refine v_iload_n (x := p1) dX15_editionOf_6 rfl 1 rfl ?_
  obtain ⟨x2, s3, hcs3, hf⟩ := bd_of hf
  have hts3 := c_X15_isEdition (l := l) (D := D) (cy := cy) (ka := ka) hcs3
  refine v_callV cb_16 hk_p0 (As := [.int p1]) (rest := []) hts3 yb_X15_isEdition kw_2219 kw_2221 kp_133 rfl ⟨Nat.le_of_ble_eq_true rfl, Nat.le_of_ble_eq_true rfl⟩ rfl (cat_len (Nat.le_of_ble_eq_true rfl)) dX15_editionOf_7 ?_
  have hk_p0 := tk_ hts3.1 hk_p0
  show v_ l D cy ka cX15_editionOf RX15 4 (some FieldType.int) "editionOf" 1 21 (qf_ D cy σ z (some (.int r))) σ z _ 10 [(0, va_rf (some p0)), (1, .int p1), (2, .int p2)] [.int x2]
  refine v_if_ne (tgt := 15) hf dX15_editionOf_10 (by decide) (fun hq hf => ?_) (fun hq hf => ?_)
  · refine v_iconst (v := (-1)) dX15_editionOf_13 (by decide) ?_
    exact v_iret hf dX15_editionOf_14
  · refine v_aload_n (x := (some p0)) dX15_editionOf_15 rfl 0 rfl ?_
    refine v_getr cb_16 hk_p0 82 1682 rfl (by decide) rfl (lk_n kw_1539 rfl) hf dX15_editionOf_16 (fun r4 hf => ?_)
    refine v_iload_n (x := p1) dX15_editionOf_19 rfl 1 rfl ?_
    obtain ⟨a5, rfl, hf⟩ := nn_of hf
    obtain ⟨hk_a5, hf⟩ := gt_of hf
    refine v_aald 27 8 RX12 hk_a5 (by decide) rfl hf dX15_editionOf_20 (fun r6 hf => ?_)
    refine v_astore_n [(3, va_rf r6), (0, va_rf (some p0)), (1, .int p1), (2, .int p2)] dX15_editionOf_21 rfl (by decide) rfl ?_
    refine v_iload_n (x := p2) dX15_editionOf_22 rfl 3 rfl ?_
    by_cases hq0 : p2 = 0
    · rw [if_pos hq0] at hf
      refine v_tswIn (tgt := 68) (c9 := 0) hq0 dX15_editionOf_23 (by decide) (by decide) rfl (by decide) ?_
      refine v_aload_n (x := r6) dX15_editionOf_68 rfl 0 rfl ?_
      obtain ⟨a7, rfl, hf⟩ := nn_of hf
      obtain ⟨hk_a7, hf⟩ := gt_of hf
      refine v_geti cb_13 hk_a7 0 1300 rfl (by decide) rfl (lk_N kw_2175 rfl) hf dX15_editionOf_69 (fun x8 hf => ?_)
      exact v_iret hf dX15_editionOf_72
    rw [if_neg hq0] at hf
    by_cases hq1 : p2 = 1
    · rw [if_pos hq1] at hf
      refine v_tswIn (tgt := 73) (c9 := 1) hq1 dX15_editionOf_23 (by decide) (by decide) rfl (by decide) ?_
      refine v_aload_n (x := r6) dX15_editionOf_73 rfl 0 rfl ?_
      obtain ⟨a9, rfl, hf⟩ := nn_of hf
      obtain ⟨hk_a9, hf⟩ := gt_of hf
      refine v_geti cb_13 hk_a9 1 1301 rfl (by decide) rfl (lk_N kw_2176 rfl) hf dX15_editionOf_74 (fun x10 hf => ?_)
      exact v_iret hf dX15_editionOf_77
    rw [if_neg hq1] at hf
    by_cases hq2 : p2 = 2
    · rw [if_pos hq2] at hf
      refine v_tswIn (tgt := 78) (c9 := 2) hq2 dX15_editionOf_23 (by decide) (by decide) rfl (by decide) ?_
      refine v_aload_n (x := r6) dX15_editionOf_78 rfl 0 rfl ?_
      obtain ⟨a11, rfl, hf⟩ := nn_of hf
      obtain ⟨hk_a11, hf⟩ := gt_of hf
      refine v_geti cb_13 hk_a11 2 1302 rfl (by decide) rfl (lk_N kw_2177 rfl) hf dX15_editionOf_79 (fun x12 hf => ?_)
      exact v_iret hf dX15_editionOf_82
    rw [if_neg hq2] at hf
    by_cases hq3 : p2 = 3
    · rw [if_pos hq3] at hf
      refine v_tswIn (tgt := 83) (c9 := 3) hq3 dX15_editionOf_23 (by decide) (by decide) rfl (by decide) ?_
      refine v_aload_n (x := r6) dX15_editionOf_83 rfl 0 rfl ?_
      obtain ⟨a13, rfl, hf⟩ := nn_of hf
      obtain ⟨hk_a13, hf⟩ := gt_of hf
      refine v_geti cb_13 hk_a13 3 1303 rfl (by decide) rfl (lk_N kw_2178 rfl) hf dX15_editionOf_84 (fun x14 hf => ?_)
      exact v_iret hf dX15_editionOf_87
    rw [if_neg hq3] at hf
    by_cases hq4 : p2 = 4
    · rw [if_pos hq4] at hf
      refine v_tswIn (tgt := 88) (c9 := 4) hq4 dX15_editionOf_23 (by decide) (by decide) rfl (by decide) ?_
      refine v_aload_n (x := r6) dX15_editionOf_88 rfl 0 rfl ?_
      obtain ⟨a15, rfl, hf⟩ := nn_of hf
      obtain ⟨hk_a15, hf⟩ := gt_of hf
      refine v_geti cb_13 hk_a15 4 1304 rfl (by decide) rfl (lk_N kw_2179 rfl) hf dX15_editionOf_89 (fun x16 hf => ?_)
      exact v_iret hf dX15_editionOf_92
    rw [if_neg hq4] at hf
    by_cases hq5 : p2 = 5
    · rw [if_pos hq5] at hf
      refine v_tswIn (tgt := 93) (c9 := 5) hq5 dX15_editionOf_23 (by decide) (by decide) rfl (by decide) ?_
      refine v_aload_n (x := r6) dX15_editionOf_93 rfl 0 rfl ?_
      obtain ⟨a17, rfl, hf⟩ := nn_of hf
      obtain ⟨hk_a17, hf⟩ := gt_of hf
      refine v_geti cb_13 hk_a17 5 1305 rfl (by decide) rfl (lk_N kw_2180 rfl) hf dX15_editionOf_94 (fun x18 hf => ?_)
      exact v_iret hf dX15_editionOf_97
    rw [if_neg hq5] at hf
    by_cases hq6 : p2 = 6
    · rw [if_pos hq6] at hf
      refine v_tswIn (tgt := 98) (c9 := 6) hq6 dX15_editionOf_23 (by decide) (by decide) rfl (by decide) ?_
      refine v_aload_n (x := r6) dX15_editionOf_98 rfl 0 rfl ?_
      obtain ⟨a19, rfl, hf⟩ := nn_of hf
      obtain ⟨hk_a19, hf⟩ := gt_of hf
      refine v_geti cb_13 hk_a19 6 1306 rfl (by decide) rfl (lk_N kw_2181 rfl) hf dX15_editionOf_99 (fun x20 hf => ?_)
      exact v_iret hf dX15_editionOf_102
    rw [if_neg hq6] at hf
    by_cases hq7 : p2 = 7
    · rw [if_pos hq7] at hf
      refine v_tswIn (tgt := 103) (c9 := 7) hq7 dX15_editionOf_23 (by decide) (by decide) rfl (by decide) ?_
      refine v_aload_n (x := r6) dX15_editionOf_103 rfl 0 rfl ?_
      obtain ⟨a21, rfl, hf⟩ := nn_of hf
      obtain ⟨hk_a21, hf⟩ := gt_of hf
      refine v_geti cb_13 hk_a21 8 1308 rfl (by decide) rfl (lk_N kw_2183 rfl) hf dX15_editionOf_104 (fun x22 hf => ?_)
      exact v_iret hf dX15_editionOf_107
    rw [if_neg hq7] at hf
    refine v_tswOut (tgt := 108) 8 0 (by decide) (by decide) (fun j hj => ?_) (by decide) (by decide) dX15_editionOf_23 (by decide) ?_
    · match j, hj with
      | 0, _ => exact hq0
      | 1, _ => exact hq1
      | 2, _ => exact hq2
      | 3, _ => exact hq3
      | 4, _ => exact hq4
      | 5, _ => exact hq5
      | 6, _ => exact hq6
      | 7, _ => exact hq7
      | j + 8, hj => exact absurd hj (by omega)
    · refine v_iconst (v := (-1)) dX15_editionOf_108 (by decide) ?_
      exact v_iret hf dX15_editionOf_109
theorem dX15_embargo_0 : decode cX15_embargo 0 = .ok (.aload_n 0, 1) := by decide +kernel
theorem dX15_embargo_1 : decode cX15_embargo 1 = .ok (.iconst 0, 1) := by decide +kernel
theorem dX15_embargo_2 : decode cX15_embargo 2 = .ok (.putfield 1, 3) := by decide +kernel
theorem dX15_embargo_5 : decode cX15_embargo 5 = .ok (.aload_n 0, 1) := by decide +kernel
theorem dX15_embargo_6 : decode cX15_embargo 6 = .ok (.iload_n 1, 1) := by decide +kernel
theorem dX15_embargo_7 : decode cX15_embargo 7 = .ok (.invokevirtual 227, 3) := by decide +kernel
theorem dX15_embargo_10 : decode cX15_embargo 10 = .ok (.ifCond .ne 9, 3) := by decide +kernel
theorem dX15_embargo_13 : decode cX15_embargo 13 = .ok (.aload_n 0, 1) := by decide +kernel
theorem dX15_embargo_14 : decode cX15_embargo 14 = .ok (.iconst 1, 1) := by decide +kernel
theorem dX15_embargo_15 : decode cX15_embargo 15 = .ok (.invokevirtual 212, 3) := by decide +kernel
theorem dX15_embargo_18 : decode cX15_embargo 18 = .ok (.ireturn, 1) := by decide +kernel
theorem dX15_embargo_19 : decode cX15_embargo 19 = .ok (.iload_n 2, 1) := by decide +kernel
theorem dX15_embargo_20 : decode cX15_embargo 20 = .ok (.iconst 0, 1) := by decide +kernel
theorem dX15_embargo_21 : decode cX15_embargo 21 = .ok (.sipush 3650, 3) := by decide +kernel
theorem dX15_embargo_24 : decode cX15_embargo 24 = .ok (.invokestatic 197, 3) := by decide +kernel
theorem dX15_embargo_27 : decode cX15_embargo 27 = .ok (.ifCond .eq 14, 3) := by decide +kernel
theorem dX15_embargo_30 : decode cX15_embargo 30 = .ok (.iload_n 3, 1) := by decide +kernel
theorem dX15_embargo_31 : decode cX15_embargo 31 = .ok (.iconst 0, 1) := by decide +kernel
theorem dX15_embargo_32 : decode cX15_embargo 32 = .ok (.sipush 1439, 3) := by decide +kernel
theorem dX15_embargo_35 : decode cX15_embargo 35 = .ok (.invokestatic 197, 3) := by decide +kernel
theorem dX15_embargo_38 : decode cX15_embargo 38 = .ok (.ifCond .ne 9, 3) := by decide +kernel
theorem dX15_embargo_41 : decode cX15_embargo 41 = .ok (.aload_n 0, 1) := by decide +kernel
theorem dX15_embargo_42 : decode cX15_embargo 42 = .ok (.iconst 2, 1) := by decide +kernel
theorem dX15_embargo_43 : decode cX15_embargo 43 = .ok (.invokevirtual 212, 3) := by decide +kernel
theorem dX15_embargo_46 : decode cX15_embargo 46 = .ok (.ireturn, 1) := by decide +kernel
theorem dX15_embargo_47 : decode cX15_embargo 47 = .ok (.aload_n 0, 1) := by decide +kernel
theorem dX15_embargo_48 : decode cX15_embargo 48 = .ok (.getfield 38, 3) := by decide +kernel
theorem dX15_embargo_51 : decode cX15_embargo 51 = .ok (.iload_n 1, 1) := by decide +kernel
theorem dX15_embargo_52 : decode cX15_embargo 52 = .ok (.sipush 1440, 3) := by decide +kernel
theorem dX15_embargo_55 : decode cX15_embargo 55 = .ok (.iload_n 2, 1) := by decide +kernel
theorem dX15_embargo_56 : decode cX15_embargo 56 = .ok (.imul, 1) := by decide +kernel
theorem dX15_embargo_57 : decode cX15_embargo 57 = .ok (.iload_n 3, 1) := by decide +kernel
theorem dX15_embargo_58 : decode cX15_embargo 58 = .ok (.iadd, 1) := by decide +kernel
theorem dX15_embargo_59 : decode cX15_embargo 59 = .ok (.iastore, 1) := by decide +kernel
theorem dX15_embargo_60 : decode cX15_embargo 60 = .ok (.aload_n 0, 1) := by decide +kernel
theorem dX15_embargo_61 : decode cX15_embargo 61 = .ok (.invokevirtual 215, 3) := by decide +kernel
theorem dX15_embargo_64 : decode cX15_embargo 64 = .ok (.ireturn, 1) := by decide +kernel
def f_X15_embargo_b41 (σ : TH) (l0 : Nat) : Option (Int32 × TH) :=
  gt_ (kd_ σ l0 = 17) <| bd_ (f_X15_denied σ l0 (2 : Int32)) fun x8 s9 => gt_ (x8 = 0 ∨ x8 = 1) <| some (x8, s9)
set_option maxHeartbeats 4000000 in
set_option maxRecDepth 100000 in
theorem t_X15_embargo_b41 {l : Launch} {D : va_G} {cy : Nat → ClassId} {ka : Nat → Nat} {σ0 z : TH} {r : Int32}  {σ : TH} {l0 : Nat} (hf : f_X15_embargo_b41 σ l0 = some (r, z)) : v_ l D cy ka cX15_embargo RX15 4 (some FieldType.boolean) "embargo" 1 22 (qf_ D cy σ0 z (some (.int r))) σ0 z σ 41 [(0, va_rf (some l0))] [] := by
  unfold f_X15_embargo_b41 at hf
  refine v_aload_n (x := (some l0)) dX15_embargo_41 rfl 0 rfl ?_
  refine v_iconst (v := 2) dX15_embargo_42 (by decide) ?_
  obtain ⟨hk_l0, hf⟩ := gt_of hf
  obtain ⟨x8, s9, hcs9, hf⟩ := bd_of hf
  have hts9 := c_X15_denied (l := l) (D := D) (cy := cy) (ka := ka) hcs9
  refine v_callV cb_16 hk_l0 (As := [.int (2 : Int32)]) (rest := []) hts9 yb_X15_denied kw_1745 kw_1747 kp_80 rfl ⟨Nat.le_of_ble_eq_true rfl, Nat.le_of_ble_eq_true rfl⟩ rfl (cat_len (Nat.le_of_ble_eq_true rfl)) dX15_embargo_43 ?_
  have hk_l0 := tk_ hts9.1 hk_l0
  show v_ l D cy ka cX15_embargo RX15 4 (some FieldType.boolean) "embargo" 1 22 (qf_ D cy σ0 z (some (.int r))) σ0 z _ 46 [(0, va_rf (some l0))] [.int x8]
  obtain ⟨hb9, hf⟩ := gt_of hf
  exact v_zret hf (nz_ hb9) dX15_embargo_46
/-- LivesAheadModel.embargo(III)Z -/
def f_X15_embargo (σ : TH) (p0 : Nat) (p1 : Int32) (p2 : Int32) (p3 : Int32) : Option (Int32 × TH) :=
  gt_ (kd_ σ p0 = 17) <| lt_ (si_ σ 1600 p0 (0 : Int32)) fun s1 => bd_ (f_X15_isPerson s1 p0 p1) fun x2 s3 => if x2 = 0 then (bd_ (f_X15_denied s3 p0 (1 : Int32)) fun x4 s5 => gt_ (x4 = 0 ∨ x4 = 1) <| some (x4, s5)) else (bd_ (f_X15_in s3 p2 (0 : Int32) (3650 : Int32)) fun x6 s7 => if x6 = 0 then (f_X15_embargo_b41 s7 p0) else (bd_ (f_X15_in s7 p3 (0 : Int32) (1439 : Int32)) fun x10 s11 => if x10 = 0 then (f_X15_embargo_b41 s11 p0) else (lt_ (fr_ s11 1613 p0) fun r12 => nn_ r12 fun a13 => gt_ (kd_ s11 a13 = 20) <| gt_ (¬ (p1 < 0 ∨ ln_ s11 a13 ≤ p1.toNatClampNeg)) <| lt_ (sa_ s11 a13 p1.toNatClampNeg (((1440 : Int32) * p2) + p3)) fun s14 => bd_ (f_X15_granted s14 p0) fun x15 s16 => gt_ (x15 = 0 ∨ x15 = 1) <| some (x15, s16))))
set_option maxHeartbeats 4000000 in
set_option maxRecDepth 100000 in
theorem c_X15_embargo {l : Launch} {D : va_G} {cy : Nat → ClassId} {ka : Nat → Nat} {σ z : TH} {p0 : Nat} {p1 : Int32} {p2 : Int32} {p3 : Int32} {r : Int32} (hf : f_X15_embargo σ p0 p1 p2 p3 = some (r, z)) : ct_ l D cy ka yX15_embargo 1 22 [va_rf (some p0), .int p1, .int p2, .int p3] σ (some (.int r)) z := by
  unfold f_X15_embargo at hf
  refine v_start (cc := cX15_embargo) (own := RX15) (maxL := 4) (ret := (some FieldType.boolean)) (nm := "embargo") (by decide +kernel) kw_2165 rfl rfl (by simp [lg_sl, va_rf_cat, cat_i, cat_l]) ?_
  refine v_eqL (L2 := [(0, va_rf (some p0)), (1, .int p1), (2, .int p2), (3, .int p3)]) (by simp [lv_args, va_rf_cat, cat_i, cat_l]) ?_
  refine v_aload_n (x := (some p0)) dX15_embargo_0 rfl 0 rfl ?_
  refine v_iconst (v := 0) dX15_embargo_1 (by decide) ?_
  obtain ⟨hk_p0, hf⟩ := gt_of hf
  refine v_puti2 cb_16 hk_p0 0 1600 rfl (by decide) rfl (lk_n kw_1457 rfl) (Or.inl rfl) rfl rfl hf dX15_embargo_2 (fun s1 hts1 hf => ?_)
  have hk_p0 := tk_ hts1 hk_p0
  refine v_aload_n (x := (some p0)) dX15_embargo_5 rfl 0 rfl ?_
  refine v_iload_n (x := p1) dX15_embargo_6 rfl 1 rfl ?_
  obtain ⟨x2, s3, hcs3, hf⟩ := bd_of hf
  have hts3 := c_X15_isPerson (l := l) (D := D) (cy := cy) (ka := ka) hcs3
  refine v_callV cb_16 hk_p0 (As := [.int p1]) (rest := []) hts3 yb_X15_isPerson kw_1770 kw_1772 kp_83 rfl ⟨Nat.le_of_ble_eq_true rfl, Nat.le_of_ble_eq_true rfl⟩ rfl (cat_len (Nat.le_of_ble_eq_true rfl)) dX15_embargo_7 ?_
  have hk_p0 := tk_ hts3.1 hk_p0
  show v_ l D cy ka cX15_embargo RX15 4 (some FieldType.boolean) "embargo" 1 22 (qf_ D cy σ z (some (.int r))) σ z _ 10 [(0, va_rf (some p0)), (1, .int p1), (2, .int p2), (3, .int p3)] [.int x2]
  refine v_if_ne (tgt := 19) hf dX15_embargo_10 (by decide) (fun hq hf => ?_) (fun hq hf => ?_)
  · refine v_aload_n (x := (some p0)) dX15_embargo_13 rfl 0 rfl ?_
    refine v_iconst (v := 1) dX15_embargo_14 (by decide) ?_
    obtain ⟨x4, s5, hcs5, hf⟩ := bd_of hf
    have hts5 := c_X15_denied (l := l) (D := D) (cy := cy) (ka := ka) hcs5
    refine v_callV cb_16 hk_p0 (As := [.int (1 : Int32)]) (rest := []) hts5 yb_X15_denied kw_1745 kw_1747 kp_80 rfl ⟨Nat.le_of_ble_eq_true rfl, Nat.le_of_ble_eq_true rfl⟩ rfl (cat_len (Nat.le_of_ble_eq_true rfl)) dX15_embargo_15 ?_
    have hk_p0 := tk_ hts5.1 hk_p0
    show v_ l D cy ka cX15_embargo RX15 4 (some FieldType.boolean) "embargo" 1 22 (qf_ D cy σ z (some (.int r))) σ z _ 18 [(0, va_rf (some p0)), (1, .int p1), (2, .int p2), (3, .int p3)] [.int x4]
    obtain ⟨hb9, hf⟩ := gt_of hf
    exact v_zret hf (nz_ hb9) dX15_embargo_18
  · refine v_iload_n (x := p2) dX15_embargo_19 rfl 2 rfl ?_
    refine v_iconst (v := 0) dX15_embargo_20 (by decide) ?_
    refine v_sipush (v := 3650) dX15_embargo_21 (by decide) ?_
    obtain ⟨x6, s7, hcs7, hf⟩ := bd_of hf
    have hts7 := c_X15_in (l := l) (D := D) (cy := cy) (ka := ka) hcs7
    refine v_callS (As := [.int p2, .int (0 : Int32), .int (3650 : Int32)]) (rest := []) hts7 yb_X15_in kw_1726 kw_1727 rfl ⟨Nat.le_of_ble_eq_true rfl, Nat.le_of_ble_eq_true rfl⟩ rfl (cat_len (Nat.le_of_ble_eq_true rfl)) dX15_embargo_24 ?_
    have hk_p0 := tk_ hts7.1 hk_p0
    show v_ l D cy ka cX15_embargo RX15 4 (some FieldType.boolean) "embargo" 1 22 (qf_ D cy σ z (some (.int r))) σ z _ 27 [(0, va_rf (some p0)), (1, .int p1), (2, .int p2), (3, .int p3)] [.int x6]
    refine v_if_eq (tgt := 41) hf dX15_embargo_27 (by decide) (fun hq hf => ?_) (fun hq hf => ?_)
    · refine v_sub [0] (L2 := [(0, va_rf (some p0))]) rfl ?_
      exact t_X15_embargo_b41  hf
    · refine v_iload_n (x := p3) dX15_embargo_30 rfl 3 rfl ?_
      refine v_iconst (v := 0) dX15_embargo_31 (by decide) ?_
      refine v_sipush (v := 1439) dX15_embargo_32 (by decide) ?_
      obtain ⟨x10, s11, hcs11, hf⟩ := bd_of hf
      have hts11 := c_X15_in (l := l) (D := D) (cy := cy) (ka := ka) hcs11
      refine v_callS (As := [.int p3, .int (0 : Int32), .int (1439 : Int32)]) (rest := []) hts11 yb_X15_in kw_1726 kw_1727 rfl ⟨Nat.le_of_ble_eq_true rfl, Nat.le_of_ble_eq_true rfl⟩ rfl (cat_len (Nat.le_of_ble_eq_true rfl)) dX15_embargo_35 ?_
      have hk_p0 := tk_ hts11.1 hk_p0
      show v_ l D cy ka cX15_embargo RX15 4 (some FieldType.boolean) "embargo" 1 22 (qf_ D cy σ z (some (.int r))) σ z _ 38 [(0, va_rf (some p0)), (1, .int p1), (2, .int p2), (3, .int p3)] [.int x10]
      refine v_if_ne (tgt := 47) hf dX15_embargo_38 (by decide) (fun hq hf => ?_) (fun hq hf => ?_)
      · refine v_sub [0] (L2 := [(0, va_rf (some p0))]) rfl ?_
        exact t_X15_embargo_b41  hf
      · refine v_aload_n (x := (some p0)) dX15_embargo_47 rfl 0 rfl ?_
        refine v_getr cb_16 hk_p0 13 1613 rfl (by decide) rfl (lk_n kw_1470 rfl) hf dX15_embargo_48 (fun r12 hf => ?_)
        refine v_iload_n (x := p1) dX15_embargo_51 rfl 1 rfl ?_
        refine v_sipush (v := 1440) dX15_embargo_52 (by decide) ?_
        refine v_iload_n (x := p2) dX15_embargo_55 rfl 2 rfl ?_
        refine v_imul dX15_embargo_56 ?_
        refine v_iload_n (x := p3) dX15_embargo_57 rfl 3 rfl ?_
        refine v_iadd dX15_embargo_58 ?_
        obtain ⟨a13, rfl, hf⟩ := nn_of hf
        obtain ⟨hk_a13, hf⟩ := gt_of hf
        refine v_iast2 hk_a13 hf dX15_embargo_59 (fun s14 hts14 hf => ?_)
        have hk_p0 := tk_ hts14 hk_p0
        refine v_aload_n (x := (some p0)) dX15_embargo_60 rfl 0 rfl ?_
        obtain ⟨x15, s16, hcs16, hf⟩ := bd_of hf
        have hts16 := c_X15_granted (l := l) (D := D) (cy := cy) (ka := ka) hcs16
        refine v_callV cb_16 hk_p0 (As := []) (rest := []) hts16 yb_X15_granted kw_1749 kw_1751 kp_81 rfl ⟨Nat.le_of_ble_eq_true rfl, Nat.le_of_ble_eq_true rfl⟩ rfl (cat_len (Nat.le_of_ble_eq_true rfl)) dX15_embargo_61 ?_
        have hk_p0 := tk_ hts16.1 hk_p0
        show v_ l D cy ka cX15_embargo RX15 4 (some FieldType.boolean) "embargo" 1 22 (qf_ D cy σ z (some (.int r))) σ z _ 64 [(0, va_rf (some p0)), (1, .int p1), (2, .int p2), (3, .int p3)] [.int x15]
        obtain ⟨hb9, hf⟩ := gt_of hf
        exact v_zret hf (nz_ hb9) dX15_embargo_64
theorem dX15_many_0 : decode cX15_many 0 = .ok (.iconst 0, 1) := by decide +kernel
theorem dX15_many_1 : decode cX15_many 1 = .ok (.istore_n 3, 1) := by decide +kernel
theorem dX15_many_2 : decode cX15_many 2 = .ok (.iconst 0, 1) := by decide +kernel
theorem dX15_many_3 : decode cX15_many 3 = .ok (.istore 4, 2) := by decide +kernel
theorem dX15_many_5 : decode cX15_many 5 = .ok (.iload 4, 2) := by decide +kernel
theorem dX15_many_7 : decode cX15_many 7 = .ok (.aload_n 0, 1) := by decide +kernel
theorem dX15_many_8 : decode cX15_many 8 = .ok (.getfield 253, 3) := by decide +kernel
theorem dX15_many_11 : decode cX15_many 11 = .ok (.if_icmp .ge 39, 3) := by decide +kernel
theorem dX15_many_14 : decode cX15_many 14 = .ok (.iload_n 3, 1) := by decide +kernel
theorem dX15_many_15 : decode cX15_many 15 = .ok (.aload_n 0, 1) := by decide +kernel
theorem dX15_many_16 : decode cX15_many 16 = .ok (.getfield 57, 3) := by decide +kernel
theorem dX15_many_19 : decode cX15_many 19 = .ok (.iload 4, 2) := by decide +kernel
theorem dX15_many_21 : decode cX15_many 21 = .ok (.iaload, 1) := by decide +kernel
theorem dX15_many_22 : decode cX15_many 22 = .ok (.iload_n 1, 1) := by decide +kernel
theorem dX15_many_23 : decode cX15_many 23 = .ok (.if_icmp .ne 18, 3) := by decide +kernel
theorem dX15_many_26 : decode cX15_many 26 = .ok (.aload_n 0, 1) := by decide +kernel
theorem dX15_many_27 : decode cX15_many 27 = .ok (.getfield 60, 3) := by decide +kernel
theorem dX15_many_30 : decode cX15_many 30 = .ok (.iload 4, 2) := by decide +kernel
theorem dX15_many_32 : decode cX15_many 32 = .ok (.iaload, 1) := by decide +kernel
theorem dX15_many_33 : decode cX15_many 33 = .ok (.iload_n 2, 1) := by decide +kernel
theorem dX15_many_34 : decode cX15_many 34 = .ok (.if_icmp .ne 7, 3) := by decide +kernel
theorem dX15_many_37 : decode cX15_many 37 = .ok (.iconst 1, 1) := by decide +kernel
theorem dX15_many_38 : decode cX15_many 38 = .ok (.goto 4, 3) := by decide +kernel
theorem dX15_many_41 : decode cX15_many 41 = .ok (.iconst 0, 1) := by decide +kernel
theorem dX15_many_42 : decode cX15_many 42 = .ok (.iadd, 1) := by decide +kernel
theorem dX15_many_43 : decode cX15_many 43 = .ok (.istore_n 3, 1) := by decide +kernel
theorem dX15_many_44 : decode cX15_many 44 = .ok (.iinc 4 1, 3) := by decide +kernel
theorem dX15_many_47 : decode cX15_many 47 = .ok (.goto (-42), 3) := by decide +kernel
theorem dX15_many_50 : decode cX15_many 50 = .ok (.iload_n 3, 1) := by decide +kernel
theorem dX15_many_51 : decode cX15_many 51 = .ok (.ireturn, 1) := by decide +kernel
def f_X15_many_b42 (rec_5 : TH → Nat → Int32 → Int32 → Int32 → Int32 → Option (Int32 × TH)) (σ : TH) (l0 : Nat) (l1 : Int32) (l2 : Int32) (l4 : Int32) (t0 : Int32) (t1 : Int32) : Option (Int32 × TH) :=
  lt_ (t1 + t0) fun x8 => lt_ (l4 + 1) fun x9 => rec_5 σ l0 l1 l2 x8 x9
set_option maxHeartbeats 4000000 in
set_option maxRecDepth 100000 in
theorem t_X15_many_b42 {l : Launch} {D : va_G} {cy : Nat → ClassId} {ka : Nat → Nat} {σ0 z : TH} {r : Int32} {rec_5 : TH → Nat → Int32 → Int32 → Int32 → Int32 → Option (Int32 × TH)} (hrec_5 : ∀ (σ : TH) (l0 : Nat) (l1 : Int32) (l2 : Int32) (l3 : Int32) (l4 : Int32), rec_5 σ l0 l1 l2 l3 l4 = some (r, z) → v_ l D cy ka cX15_many RX15 5 (some FieldType.int) "many" 0 0 (qf_ D cy σ0 z (some (.int r))) σ0 z σ 5 [(0, va_rf (some l0)), (1, .int l1), (2, .int l2), (3, .int l3), (4, .int l4)] []) {σ : TH} {l0 : Nat} {l1 : Int32} {l2 : Int32} {l4 : Int32} {t0 : Int32} {t1 : Int32} (hf : f_X15_many_b42 rec_5 σ l0 l1 l2 l4 t0 t1 = some (r, z)) : v_ l D cy ka cX15_many RX15 5 (some FieldType.int) "many" 0 0 (qf_ D cy σ0 z (some (.int r))) σ0 z σ 42 [(0, va_rf (some l0)), (1, .int l1), (2, .int l2), (4, .int l4)] [.int t0, .int t1] := by
  unfold f_X15_many_b42 at hf
  refine v_iadd dX15_many_42 ?_
  obtain ⟨x8, ex8⟩ : ∃ y : Int32, y = t1 + t0 := ⟨_, rfl⟩
  rw [lt_e, ← ex8] at hf
  rw [← ex8]
  refine v_istore_n [(3, .int x8), (0, va_rf (some l0)), (1, .int l1), (2, .int l2), (4, .int l4)] dX15_many_43 rfl (by decide) rfl ?_
  obtain ⟨x9, ex9⟩ : ∃ y : Int32, y = l4 + 1 := ⟨_, rfl⟩
  rw [lt_e, ← ex9] at hf
  refine v_iinc (v := x9) [(4, .int x9), (3, .int x8), (0, va_rf (some l0)), (1, .int l1), (2, .int l2)] dX15_many_44 4 rfl (by rw [ex9]; rfl) (by decide) rfl ?_
  refine v_goto (tgt := 5) dX15_many_47 (by decide) ?_
  refine v_sub [2, 3, 4, 1, 0] (L2 := [(0, va_rf (some l0)), (1, .int l1), (2, .int l2), (3, .int x8), (4, .int x9)]) rfl ?_
  exact hrec_5 _ _ _ _ _ _ hf
def f_X15_many_b41 (rec_5 : TH → Nat → Int32 → Int32 → Int32 → Int32 → Option (Int32 × TH)) (σ : TH) (l0 : Nat) (l1 : Int32) (l2 : Int32) (l4 : Int32) (t0 : Int32) : Option (Int32 × TH) :=
  f_X15_many_b42 rec_5 σ l0 l1 l2 l4 (0 : Int32) t0
set_option maxHeartbeats 4000000 in
set_option maxRecDepth 100000 in
theorem t_X15_many_b41 {l : Launch} {D : va_G} {cy : Nat → ClassId} {ka : Nat → Nat} {σ0 z : TH} {r : Int32} {rec_5 : TH → Nat → Int32 → Int32 → Int32 → Int32 → Option (Int32 × TH)} (hrec_5 : ∀ (σ : TH) (l0 : Nat) (l1 : Int32) (l2 : Int32) (l3 : Int32) (l4 : Int32), rec_5 σ l0 l1 l2 l3 l4 = some (r, z) → v_ l D cy ka cX15_many RX15 5 (some FieldType.int) "many" 0 0 (qf_ D cy σ0 z (some (.int r))) σ0 z σ 5 [(0, va_rf (some l0)), (1, .int l1), (2, .int l2), (3, .int l3), (4, .int l4)] []) {σ : TH} {l0 : Nat} {l1 : Int32} {l2 : Int32} {l4 : Int32} {t0 : Int32} (hf : f_X15_many_b41 rec_5 σ l0 l1 l2 l4 t0 = some (r, z)) : v_ l D cy ka cX15_many RX15 5 (some FieldType.int) "many" 0 0 (qf_ D cy σ0 z (some (.int r))) σ0 z σ 41 [(0, va_rf (some l0)), (1, .int l1), (2, .int l2), (4, .int l4)] [.int t0] := by
  unfold f_X15_many_b41 at hf
  refine v_iconst (v := 0) dX15_many_41 (by decide) ?_
  refine v_sub [0, 1, 2, 3] (L2 := [(0, va_rf (some l0)), (1, .int l1), (2, .int l2), (4, .int l4)]) rfl ?_
  exact t_X15_many_b42 hrec_5 hf
def f_X15_many_b5 : Nat → TH → Nat → Int32 → Int32 → Int32 → Int32 → Option (Int32 × TH)
  | 0, _, _, _, _, _, _ => none
  | n + 1, σ, l0, l1, l2, l3, l4 => gt_ (kd_ σ l0 = 17) <| lt_ (fi_ σ 1617 l0) fun x1 => if x1 ≤ l4 then (some (l3, σ)) else (lt_ (fr_ σ 1620 l0) fun r2 => nn_ r2 fun a3 => gt_ (kd_ σ a3 = 20) <| gt_ (¬ (l4 < 0 ∨ ln_ σ a3 ≤ l4.toNatClampNeg)) <| lt_ (ai_ σ a3 l4.toNatClampNeg) fun x4 => if x4 = l1 then (lt_ (fr_ σ 1621 l0) fun r5 => nn_ r5 fun a6 => gt_ (kd_ σ a6 = 20) <| gt_ (¬ (l4 < 0 ∨ ln_ σ a6 ≤ l4.toNatClampNeg)) <| lt_ (ai_ σ a6 l4.toNatClampNeg) fun x7 => if x7 = l2 then (f_X15_many_b42 (f_X15_many_b5 n) σ l0 l1 l2 l4 (1 : Int32) l3) else (f_X15_many_b41 (f_X15_many_b5 n) σ l0 l1 l2 l4 l3)) else (f_X15_many_b41 (f_X15_many_b5 n) σ l0 l1 l2 l4 l3))
set_option maxHeartbeats 4000000 in
set_option maxRecDepth 100000 in
theorem t_X15_many_b5 {l : Launch} {D : va_G} {cy : Nat → ClassId} {ka : Nat → Nat} {σ0 z : TH} {r : Int32}  : ∀ (n : Nat) (σ : TH) (l0 : Nat) (l1 : Int32) (l2 : Int32) (l3 : Int32) (l4 : Int32), f_X15_many_b5 n σ l0 l1 l2 l3 l4 = some (r, z) → v_ l D cy ka cX15_many RX15 5 (some FieldType.int) "many" 0 0 (qf_ D cy σ0 z (some (.int r))) σ0 z σ 5 [(0, va_rf (some l0)), (1, .int l1), (2, .int l2), (3, .int l3), (4, .int l4)] [] := by
  intro n
  induction n with
  | zero => intro σ l0 l1 l2 l3 l4 hf; unfold f_X15_many_b5 at hf; cases hf
  | succ n ih =>
    intro σ l0 l1 l2 l3 l4 hf
    unfold f_X15_many_b5 at hf
    have hrec_5 := ih
    refine v_iload (x := l4) dX15_many_5 4 rfl ?_
    refine v_aload_n (x := (some l0)) dX15_many_7 rfl 0 rfl ?_
    obtain ⟨hk_l0, hf⟩ := gt_of hf
    refine v_geti cb_16 hk_l0 17 1617 rfl (by decide) rfl (lk_n kw_1474 rfl) hf dX15_many_8 (fun x1 hf => ?_)
    refine v_icmp_ge (tgt := 50) hf dX15_many_11 (by decide) (fun hq hf => ?_) (fun hq hf => ?_)
    · refine v_iload_n (x := l3) dX15_many_50 rfl 3 rfl ?_
      exact v_iret hf dX15_many_51
    · refine v_iload_n (x := l3) dX15_many_14 rfl 3 rfl ?_
      refine v_aload_n (x := (some l0)) dX15_many_15 rfl 0 rfl ?_
      refine v_getr cb_16 hk_l0 20 1620 rfl (by decide) rfl (lk_n kw_1477 rfl) hf dX15_many_16 (fun r2 hf => ?_)
      refine v_iload (x := l4) dX15_many_19 4 rfl ?_
      obtain ⟨a3, rfl, hf⟩ := nn_of hf
      obtain ⟨hk_a3, hf⟩ := gt_of hf
      refine v_iald hk_a3 hf dX15_many_21 (fun x4 hf => ?_)
      refine v_iload_n (x := l1) dX15_many_22 rfl 1 rfl ?_
      refine v_icmp_ne (tgt := 41) hf dX15_many_23 (by decide) (fun hq hf => ?_) (fun hq hf => ?_)
      · refine v_aload_n (x := (some l0)) dX15_many_26 rfl 0 rfl ?_
        refine v_getr cb_16 hk_l0 21 1621 rfl (by decide) rfl (lk_n kw_1478 rfl) hf dX15_many_27 (fun r5 hf => ?_)
        refine v_iload (x := l4) dX15_many_30 4 rfl ?_
        obtain ⟨a6, rfl, hf⟩ := nn_of hf
        obtain ⟨hk_a6, hf⟩ := gt_of hf
        refine v_iald hk_a6 hf dX15_many_32 (fun x7 hf => ?_)
        refine v_iload_n (x := l2) dX15_many_33 rfl 2 rfl ?_
        refine v_icmp_ne (tgt := 41) hf dX15_many_34 (by decide) (fun hq hf => ?_) (fun hq hf => ?_)
        · refine v_iconst (v := 1) dX15_many_37 (by decide) ?_
          refine v_goto (tgt := 42) dX15_many_38 (by decide) ?_
          refine v_sub [0, 1, 2, 4] (L2 := [(0, va_rf (some l0)), (1, .int l1), (2, .int l2), (4, .int l4)]) rfl ?_
          exact t_X15_many_b42 hrec_5 hf
        · refine v_sub [0, 1, 2, 4] (L2 := [(0, va_rf (some l0)), (1, .int l1), (2, .int l2), (4, .int l4)]) rfl ?_
          exact t_X15_many_b41 hrec_5 hf
      · refine v_sub [0, 1, 2, 4] (L2 := [(0, va_rf (some l0)), (1, .int l1), (2, .int l2), (4, .int l4)]) rfl ?_
        exact t_X15_many_b41 hrec_5 hf
/-- LivesAheadModel.many(II)I -/
def f_X15_many (σ : TH) (p0 : Nat) (p1 : Int32) (p2 : Int32) : Option (Int32 × TH) :=
  f_X15_many_b5 fu_ σ p0 p1 p2 (0 : Int32) (0 : Int32)
set_option maxHeartbeats 4000000 in
set_option maxRecDepth 100000 in
theorem c_X15_many {l : Launch} {D : va_G} {cy : Nat → ClassId} {ka : Nat → Nat} {σ z : TH} {p0 : Nat} {p1 : Int32} {p2 : Int32} {r : Int32} (hf : f_X15_many σ p0 p1 p2 = some (r, z)) : ct_ l D cy ka yX15_many 0 0 [va_rf (some p0), .int p1, .int p2] σ (some (.int r)) z := by
  unfold f_X15_many at hf
  refine v_start (cc := cX15_many) (own := RX15) (maxL := 5) (ret := (some FieldType.int)) (nm := "many") (by decide +kernel) kw_1823 rfl rfl (by simp [lg_sl, va_rf_cat, cat_i, cat_l]) ?_
  refine v_eqL (L2 := [(0, va_rf (some p0)), (1, .int p1), (2, .int p2)]) (by simp [lv_args, va_rf_cat, cat_i, cat_l]) ?_
  refine v_iconst (v := 0) dX15_many_0 (by decide) ?_
  refine v_istore_n [(3, .int (0 : Int32)), (0, va_rf (some p0)), (1, .int p1), (2, .int p2)] dX15_many_1 rfl (by decide) rfl ?_
  refine v_iconst (v := 0) dX15_many_2 (by decide) ?_
  refine v_istore [(4, .int (0 : Int32)), (3, .int (0 : Int32)), (0, va_rf (some p0)), (1, .int p1), (2, .int p2)] dX15_many_3 (by decide) rfl ?_
  refine v_sub [2, 3, 4, 1, 0] (L2 := [(0, va_rf (some p0)), (1, .int p1), (2, .int p2), (3, .int (0 : Int32)), (4, .int (0 : Int32))]) rfl ?_
  exact t_X15_many_b5  _ _ _ _ _ _ _ hf
