/-! Functions over the typed heap and contracts, by wip/gen/gen.py: X15_cuts X15_cut X15_edition X15_may X15_tell X15_paragraphOf X15_print -/
theorem dX15_cuts_0 : decode cX15_cuts 0 = .ok (.aload_n 0, 1) := by decide +kernel
theorem dX15_cuts_1 : decode cX15_cuts 1 = .ok (.iload_n 1, 1) := by decide +kernel
theorem dX15_cuts_2 : decode cX15_cuts 2 = .ok (.invokevirtual 238, 3) := by decide +kernel
theorem dX15_cuts_5 : decode cX15_cuts 5 = .ok (.istore 4, 2) := by decide +kernel
theorem dX15_cuts_7 : decode cX15_cuts 7 = .ok (.iconst 0, 1) := by decide +kernel
theorem dX15_cuts_8 : decode cX15_cuts 8 = .ok (.istore 5, 2) := by decide +kernel
theorem dX15_cuts_10 : decode cX15_cuts 10 = .ok (.iload 5, 2) := by decide +kernel
theorem dX15_cuts_12 : decode cX15_cuts 12 = .ok (.iload 4, 2) := by decide +kernel
theorem dX15_cuts_14 : decode cX15_cuts 14 = .ok (.if_icmp .ge 80, 3) := by decide +kernel
theorem dX15_cuts_17 : decode cX15_cuts 17 = .ok (.aload_n 0, 1) := by decide +kernel
theorem dX15_cuts_18 : decode cX15_cuts 18 = .ok (.iload_n 1, 1) := by decide +kernel
theorem dX15_cuts_19 : decode cX15_cuts 19 = .ok (.iload 5, 2) := by decide +kernel
theorem dX15_cuts_21 : decode cX15_cuts 21 = .ok (.invokevirtual 506, 3) := by decide +kernel
theorem dX15_cuts_24 : decode cX15_cuts 24 = .ok (.astore 6, 2) := by decide +kernel
theorem dX15_cuts_26 : decode cX15_cuts 26 = .ok (.aload_n 0, 1) := by decide +kernel
theorem dX15_cuts_27 : decode cX15_cuts 27 = .ok (.getfield 98, 3) := by decide +kernel
theorem dX15_cuts_30 : decode cX15_cuts 30 = .ok (.iload 5, 2) := by decide +kernel
theorem dX15_cuts_32 : decode cX15_cuts 32 = .ok (.aload_n 0, 1) := by decide +kernel
theorem dX15_cuts_33 : decode cX15_cuts 33 = .ok (.aload 6, 2) := by decide +kernel
theorem dX15_cuts_35 : decode cX15_cuts 35 = .ok (.invokevirtual 509, 3) := by decide +kernel
theorem dX15_cuts_38 : decode cX15_cuts 38 = .ok (.iastore, 1) := by decide +kernel
theorem dX15_cuts_39 : decode cX15_cuts 39 = .ok (.aload_n 0, 1) := by decide +kernel
theorem dX15_cuts_40 : decode cX15_cuts 40 = .ok (.getfield 101, 3) := by decide +kernel
theorem dX15_cuts_43 : decode cX15_cuts 43 = .ok (.iload 5, 2) := by decide +kernel
theorem dX15_cuts_45 : decode cX15_cuts 45 = .ok (.aload 6, 2) := by decide +kernel
theorem dX15_cuts_47 : decode cX15_cuts 47 = .ok (.getfield 499, 3) := by decide +kernel
theorem dX15_cuts_50 : decode cX15_cuts 50 = .ok (.iastore, 1) := by decide +kernel
theorem dX15_cuts_51 : decode cX15_cuts 51 = .ok (.aload_n 0, 1) := by decide +kernel
theorem dX15_cuts_52 : decode cX15_cuts 52 = .ok (.getfield 104, 3) := by decide +kernel
theorem dX15_cuts_55 : decode cX15_cuts 55 = .ok (.iload 5, 2) := by decide +kernel
theorem dX15_cuts_57 : decode cX15_cuts 57 = .ok (.aload 6, 2) := by decide +kernel
theorem dX15_cuts_59 : decode cX15_cuts 59 = .ok (.getfield 497, 3) := by decide +kernel
theorem dX15_cuts_62 : decode cX15_cuts 62 = .ok (.iastore, 1) := by decide +kernel
theorem dX15_cuts_63 : decode cX15_cuts 63 = .ok (.aload_n 0, 1) := by decide +kernel
theorem dX15_cuts_64 : decode cX15_cuts 64 = .ok (.getfield 107, 3) := by decide +kernel
theorem dX15_cuts_67 : decode cX15_cuts 67 = .ok (.iload 5, 2) := by decide +kernel
theorem dX15_cuts_69 : decode cX15_cuts 69 = .ok (.iload_n 3, 1) := by decide +kernel
theorem dX15_cuts_70 : decode cX15_cuts 70 = .ok (.ifCond .eq 12, 3) := by decide +kernel
theorem dX15_cuts_73 : decode cX15_cuts 73 = .ok (.aload_n 0, 1) := by decide +kernel
theorem dX15_cuts_74 : decode cX15_cuts 74 = .ok (.aload 6, 2) := by decide +kernel
theorem dX15_cuts_76 : decode cX15_cuts 76 = .ok (.invokevirtual 513, 3) := by decide +kernel
theorem dX15_cuts_79 : decode cX15_cuts 79 = .ok (.ifCond .ne 7, 3) := by decide +kernel
theorem dX15_cuts_82 : decode cX15_cuts 82 = .ok (.iconst 1, 1) := by decide +kernel
theorem dX15_cuts_83 : decode cX15_cuts 83 = .ok (.goto 4, 3) := by decide +kernel
theorem dX15_cuts_86 : decode cX15_cuts 86 = .ok (.iconst 0, 1) := by decide +kernel
theorem dX15_cuts_87 : decode cX15_cuts 87 = .ok (.bastore, 1) := by decide +kernel
theorem dX15_cuts_88 : decode cX15_cuts 88 = .ok (.iinc 5 1, 3) := by decide +kernel
theorem dX15_cuts_91 : decode cX15_cuts 91 = .ok (.goto (-81), 3) := by decide +kernel
theorem dX15_cuts_94 : decode cX15_cuts 94 = .ok (.aload_n 0, 1) := by decide +kernel
theorem dX15_cuts_95 : decode cX15_cuts 95 = .ok (.iconst 0, 1) := by decide +kernel
theorem dX15_cuts_96 : decode cX15_cuts 96 = .ok (.putfield 520, 3) := by decide +kernel
theorem dX15_cuts_99 : decode cX15_cuts 99 = .ok (.aload_n 0, 1) := by decide +kernel
theorem dX15_cuts_100 : decode cX15_cuts 100 = .ok (.iconst 0, 1) := by decide +kernel
theorem dX15_cuts_101 : decode cX15_cuts 101 = .ok (.putfield 523, 3) := by decide +kernel
theorem dX15_cuts_104 : decode cX15_cuts 104 = .ok (.aload_n 0, 1) := by decide +kernel
theorem dX15_cuts_105 : decode cX15_cuts 105 = .ok (.iconst 0, 1) := by decide +kernel
theorem dX15_cuts_106 : decode cX15_cuts 106 = .ok (.putfield 526, 3) := by decide +kernel
theorem dX15_cuts_109 : decode cX15_cuts 109 = .ok (.iconst 1, 1) := by decide +kernel
theorem dX15_cuts_110 : decode cX15_cuts 110 = .ok (.istore 5, 2) := by decide +kernel
theorem dX15_cuts_112 : decode cX15_cuts 112 = .ok (.iload 5, 2) := by decide +kernel
theorem dX15_cuts_114 : decode cX15_cuts 114 = .ok (.iconst 1, 1) := by decide +kernel
theorem dX15_cuts_115 : decode cX15_cuts 115 = .ok (.iload 4, 2) := by decide +kernel
theorem dX15_cuts_117 : decode cX15_cuts 117 = .ok (.ishl, 1) := by decide +kernel
theorem dX15_cuts_118 : decode cX15_cuts 118 = .ok (.if_icmp .ge 230, 3) := by decide +kernel
theorem dX15_cuts_121 : decode cX15_cuts 121 = .ok (.iload 5, 2) := by decide +kernel
theorem dX15_cuts_123 : decode cX15_cuts 123 = .ok (.invokestatic 244, 3) := by decide +kernel
theorem dX15_cuts_126 : decode cX15_cuts 126 = .ok (.iconst 1, 1) := by decide +kernel
theorem dX15_cuts_127 : decode cX15_cuts 127 = .ok (.isub, 1) := by decide +kernel
theorem dX15_cuts_128 : decode cX15_cuts 128 = .ok (.istore 6, 2) := by decide +kernel
theorem dX15_cuts_130 : decode cX15_cuts 130 = .ok (.iconst 0, 1) := by decide +kernel
theorem dX15_cuts_131 : decode cX15_cuts 131 = .ok (.istore 7, 2) := by decide +kernel
theorem dX15_cuts_133 : decode cX15_cuts 133 = .ok (.iconst 1, 1) := by decide +kernel
theorem dX15_cuts_134 : decode cX15_cuts 134 = .ok (.istore 8, 2) := by decide +kernel
theorem dX15_cuts_136 : decode cX15_cuts 136 = .ok (.iconst 0, 1) := by decide +kernel
theorem dX15_cuts_137 : decode cX15_cuts 137 = .ok (.istore 9, 2) := by decide +kernel
theorem dX15_cuts_139 : decode cX15_cuts 139 = .ok (.iload 9, 2) := by decide +kernel
theorem dX15_cuts_141 : decode cX15_cuts 141 = .ok (.iload 4, 2) := by decide +kernel
theorem dX15_cuts_143 : decode cX15_cuts 143 = .ok (.if_icmp .ge 95, 3) := by decide +kernel
theorem dX15_cuts_146 : decode cX15_cuts 146 = .ok (.iload 8, 2) := by decide +kernel
theorem dX15_cuts_148 : decode cX15_cuts 148 = .ok (.ifCond .eq 90, 3) := by decide +kernel
theorem dX15_cuts_151 : decode cX15_cuts 151 = .ok (.iload 5, 2) := by decide +kernel
theorem dX15_cuts_153 : decode cX15_cuts 153 = .ok (.iload 9, 2) := by decide +kernel
theorem dX15_cuts_155 : decode cX15_cuts 155 = .ok (.ishr, 1) := by decide +kernel
theorem dX15_cuts_156 : decode cX15_cuts 156 = .ok (.iconst 1, 1) := by decide +kernel
theorem dX15_cuts_157 : decode cX15_cuts 157 = .ok (.iand, 1) := by decide +kernel
theorem dX15_cuts_158 : decode cX15_cuts 158 = .ok (.ifCond .ne 6, 3) := by decide +kernel
theorem dX15_cuts_161 : decode cX15_cuts 161 = .ok (.goto 71, 3) := by decide +kernel
theorem dX15_cuts_164 : decode cX15_cuts 164 = .ok (.aload_n 0, 1) := by decide +kernel
theorem dX15_cuts_165 : decode cX15_cuts 165 = .ok (.getfield 107, 3) := by decide +kernel
theorem dX15_cuts_168 : decode cX15_cuts 168 = .ok (.iload 9, 2) := by decide +kernel
theorem dX15_cuts_170 : decode cX15_cuts 170 = .ok (.baload, 1) := by decide +kernel
theorem dX15_cuts_171 : decode cX15_cuts 171 = .ok (.ifCond .eq 34, 3) := by decide +kernel
theorem dX15_cuts_174 : decode cX15_cuts 174 = .ok (.aload_n 0, 1) := by decide +kernel
theorem dX15_cuts_175 : decode cX15_cuts 175 = .ok (.getfield 101, 3) := by decide +kernel
theorem dX15_cuts_178 : decode cX15_cuts 178 = .ok (.iload 9, 2) := by decide +kernel
theorem dX15_cuts_180 : decode cX15_cuts 180 = .ok (.iaload, 1) := by decide +kernel
theorem dX15_cuts_181 : decode cX15_cuts 181 = .ok (.iconst (-1), 1) := by decide +kernel
theorem dX15_cuts_182 : decode cX15_cuts 182 = .ok (.if_icmp .eq 19, 3) := by decide +kernel
theorem dX15_cuts_185 : decode cX15_cuts 185 = .ok (.iload 5, 2) := by decide +kernel
theorem dX15_cuts_187 : decode cX15_cuts 187 = .ok (.aload_n 0, 1) := by decide +kernel
theorem dX15_cuts_188 : decode cX15_cuts 188 = .ok (.getfield 101, 3) := by decide +kernel
theorem dX15_cuts_191 : decode cX15_cuts 191 = .ok (.iload 9, 2) := by decide +kernel
theorem dX15_cuts_193 : decode cX15_cuts 193 = .ok (.iaload, 1) := by decide +kernel
theorem dX15_cuts_194 : decode cX15_cuts 194 = .ok (.ishr, 1) := by decide +kernel
theorem dX15_cuts_195 : decode cX15_cuts 195 = .ok (.iconst 1, 1) := by decide +kernel
theorem dX15_cuts_196 : decode cX15_cuts 196 = .ok (.iand, 1) := by decide +kernel
theorem dX15_cuts_197 : decode cX15_cuts 197 = .ok (.iconst 1, 1) := by decide +kernel
theorem dX15_cuts_198 : decode cX15_cuts 198 = .ok (.if_icmp .ne 7, 3) := by decide +kernel
theorem dX15_cuts_201 : decode cX15_cuts 201 = .ok (.iconst 1, 1) := by decide +kernel
theorem dX15_cuts_202 : decode cX15_cuts 202 = .ok (.goto 4, 3) := by decide +kernel
theorem dX15_cuts_205 : decode cX15_cuts 205 = .ok (.iconst 0, 1) := by decide +kernel
theorem dX15_cuts_206 : decode cX15_cuts 206 = .ok (.istore 8, 2) := by decide +kernel
theorem dX15_cuts_208 : decode cX15_cuts 208 = .ok (.iload 6, 2) := by decide +kernel
theorem dX15_cuts_210 : decode cX15_cuts 210 = .ok (.aload_n 0, 1) := by decide +kernel
theorem dX15_cuts_211 : decode cX15_cuts 211 = .ok (.getfield 98, 3) := by decide +kernel
theorem dX15_cuts_214 : decode cX15_cuts 214 = .ok (.iload 9, 2) := by decide +kernel
theorem dX15_cuts_216 : decode cX15_cuts 216 = .ok (.iaload, 1) := by decide +kernel
theorem dX15_cuts_217 : decode cX15_cuts 217 = .ok (.iadd, 1) := by decide +kernel
theorem dX15_cuts_218 : decode cX15_cuts 218 = .ok (.istore 6, 2) := by decide +kernel
theorem dX15_cuts_220 : decode cX15_cuts 220 = .ok (.iload 7, 2) := by decide +kernel
theorem dX15_cuts_222 : decode cX15_cuts 222 = .ok (.aload_n 0, 1) := by decide +kernel
theorem dX15_cuts_223 : decode cX15_cuts 223 = .ok (.getfield 104, 3) := by decide +kernel
theorem dX15_cuts_226 : decode cX15_cuts 226 = .ok (.iload 9, 2) := by decide +kernel
theorem dX15_cuts_228 : decode cX15_cuts 228 = .ok (.iaload, 1) := by decide +kernel
theorem dX15_cuts_229 : decode cX15_cuts 229 = .ok (.iadd, 1) := by decide +kernel
theorem dX15_cuts_230 : decode cX15_cuts 230 = .ok (.istore 7, 2) := by decide +kernel
theorem dX15_cuts_232 : decode cX15_cuts 232 = .ok (.iinc 9 1, 3) := by decide +kernel
theorem dX15_cuts_235 : decode cX15_cuts 235 = .ok (.goto (-96), 3) := by decide +kernel
theorem dX15_cuts_238 : decode cX15_cuts 238 = .ok (.iload 8, 2) := by decide +kernel
theorem dX15_cuts_240 : decode cX15_cuts 240 = .ok (.ifCond .eq 102, 3) := by decide +kernel
theorem dX15_cuts_243 : decode cX15_cuts 243 = .ok (.iload 6, 2) := by decide +kernel
theorem dX15_cuts_245 : decode cX15_cuts 245 = .ok (.iload_n 2, 1) := by decide +kernel
theorem dX15_cuts_246 : decode cX15_cuts 246 = .ok (.if_icmp .gt 96, 3) := by decide +kernel
theorem dX15_cuts_249 : decode cX15_cuts 249 = .ok (.iload 7, 2) := by decide +kernel
theorem dX15_cuts_251 : decode cX15_cuts 251 = .ok (.aload_n 0, 1) := by decide +kernel
theorem dX15_cuts_252 : decode cX15_cuts 252 = .ok (.getfield 523, 3) := by decide +kernel
theorem dX15_cuts_255 : decode cX15_cuts 255 = .ok (.if_icmp .ge 6, 3) := by decide +kernel
theorem dX15_cuts_258 : decode cX15_cuts 258 = .ok (.goto 84, 3) := by decide +kernel
theorem dX15_cuts_261 : decode cX15_cuts 261 = .ok (.iload 5, 2) := by decide +kernel
theorem dX15_cuts_263 : decode cX15_cuts 263 = .ok (.aload_n 0, 1) := by decide +kernel
theorem dX15_cuts_264 : decode cX15_cuts 264 = .ok (.getfield 520, 3) := by decide +kernel
theorem dX15_cuts_267 : decode cX15_cuts 267 = .ok (.ixor, 1) := by decide +kernel
theorem dX15_cuts_268 : decode cX15_cuts 268 = .ok (.istore 9, 2) := by decide +kernel
theorem dX15_cuts_270 : decode cX15_cuts 270 = .ok (.iload 7, 2) := by decide +kernel
theorem dX15_cuts_272 : decode cX15_cuts 272 = .ok (.aload_n 0, 1) := by decide +kernel
theorem dX15_cuts_273 : decode cX15_cuts 273 = .ok (.getfield 523, 3) := by decide +kernel
theorem dX15_cuts_276 : decode cX15_cuts 276 = .ok (.if_icmp .gt 33, 3) := by decide +kernel
theorem dX15_cuts_279 : decode cX15_cuts 279 = .ok (.iload 6, 2) := by decide +kernel
theorem dX15_cuts_281 : decode cX15_cuts 281 = .ok (.aload_n 0, 1) := by decide +kernel
theorem dX15_cuts_282 : decode cX15_cuts 282 = .ok (.getfield 526, 3) := by decide +kernel
theorem dX15_cuts_285 : decode cX15_cuts 285 = .ok (.if_icmp .lt 24, 3) := by decide +kernel
theorem dX15_cuts_288 : decode cX15_cuts 288 = .ok (.iload 6, 2) := by decide +kernel
theorem dX15_cuts_290 : decode cX15_cuts 290 = .ok (.aload_n 0, 1) := by decide +kernel
theorem dX15_cuts_291 : decode cX15_cuts 291 = .ok (.getfield 526, 3) := by decide +kernel
theorem dX15_cuts_294 : decode cX15_cuts 294 = .ok (.if_icmp .ne 19, 3) := by decide +kernel
theorem dX15_cuts_297 : decode cX15_cuts 297 = .ok (.iload 9, 2) := by decide +kernel
theorem dX15_cuts_299 : decode cX15_cuts 299 = .ok (.iload 9, 2) := by decide +kernel
theorem dX15_cuts_301 : decode cX15_cuts 301 = .ok (.ineg, 1) := by decide +kernel
theorem dX15_cuts_302 : decode cX15_cuts 302 = .ok (.iand, 1) := by decide +kernel
theorem dX15_cuts_303 : decode cX15_cuts 303 = .ok (.iload 5, 2) := by decide +kernel
theorem dX15_cuts_305 : decode cX15_cuts 305 = .ok (.iand, 1) := by decide +kernel
theorem dX15_cuts_306 : decode cX15_cuts 306 = .ok (.ifCond .eq 7, 3) := by decide +kernel
theorem dX15_cuts_309 : decode cX15_cuts 309 = .ok (.iconst 1, 1) := by decide +kernel
theorem dX15_cuts_310 : decode cX15_cuts 310 = .ok (.goto 4, 3) := by decide +kernel
theorem dX15_cuts_313 : decode cX15_cuts 313 = .ok (.iconst 0, 1) := by decide +kernel
theorem dX15_cuts_314 : decode cX15_cuts 314 = .ok (.istore 10, 2) := by decide +kernel
theorem dX15_cuts_316 : decode cX15_cuts 316 = .ok (.iload 10, 2) := by decide +kernel
theorem dX15_cuts_318 : decode cX15_cuts 318 = .ok (.ifCond .ne 6, 3) := by decide +kernel
theorem dX15_cuts_321 : decode cX15_cuts 321 = .ok (.goto 21, 3) := by decide +kernel
theorem dX15_cuts_324 : decode cX15_cuts 324 = .ok (.aload_n 0, 1) := by decide +kernel
theorem dX15_cuts_325 : decode cX15_cuts 325 = .ok (.iload 5, 2) := by decide +kernel
theorem dX15_cuts_327 : decode cX15_cuts 327 = .ok (.putfield 520, 3) := by decide +kernel
theorem dX15_cuts_330 : decode cX15_cuts 330 = .ok (.aload_n 0, 1) := by decide +kernel
theorem dX15_cuts_331 : decode cX15_cuts 331 = .ok (.iload 7, 2) := by decide +kernel
theorem dX15_cuts_333 : decode cX15_cuts 333 = .ok (.putfield 523, 3) := by decide +kernel
theorem dX15_cuts_336 : decode cX15_cuts 336 = .ok (.aload_n 0, 1) := by decide +kernel
theorem dX15_cuts_337 : decode cX15_cuts 337 = .ok (.iload 6, 2) := by decide +kernel
theorem dX15_cuts_339 : decode cX15_cuts 339 = .ok (.putfield 526, 3) := by decide +kernel
theorem dX15_cuts_342 : decode cX15_cuts 342 = .ok (.iinc 5 1, 3) := by decide +kernel
theorem dX15_cuts_345 : decode cX15_cuts 345 = .ok (.goto (-233), 3) := by decide +kernel
theorem dX15_cuts_348 : decode cX15_cuts 348 = .ok (.return_, 1) := by decide +kernel
def f_X15_cuts_b342 (rec_112 : TH → Nat → Int32 → Int32 → Int32 → Option (Unit × TH)) (σ : TH) (l0 : Nat) (l2 : Int32) (l4 : Int32) (l5 : Int32) : Option (Unit × TH) :=
  lt_ (l5 + 1) fun x9 => rec_112 σ l0 l2 l4 x9
set_option maxHeartbeats 4000000 in
set_option maxRecDepth 100000 in
theorem t_X15_cuts_b342 {l : Launch} {D : va_G} {cy : Nat → ClassId} {ka : Nat → Nat} {σ0 z : TH} {r : Unit} {rec_112 : TH → Nat → Int32 → Int32 → Int32 → Option (Unit × TH)} (hrec_112 : ∀ (σ : TH) (l0 : Nat) (l2 : Int32) (l4 : Int32) (l5 : Int32), rec_112 σ l0 l2 l4 l5 = some (r, z) → v_ l D cy ka cX15_cuts RX15 11 none "cuts" 41 938 (qf_ D cy σ0 z none) σ0 z σ 112 [(0, va_rf (some l0)), (2, .int l2), (4, .int l4), (5, .int l5)] []) {σ : TH} {l0 : Nat} {l2 : Int32} {l4 : Int32} {l5 : Int32} (hf : f_X15_cuts_b342 rec_112 σ l0 l2 l4 l5 = some (r, z)) : v_ l D cy ka cX15_cuts RX15 11 none "cuts" 41 938 (qf_ D cy σ0 z none) σ0 z σ 342 [(0, va_rf (some l0)), (2, .int l2), (4, .int l4), (5, .int l5)] [] := by
  unfold f_X15_cuts_b342 at hf
  obtain ⟨x9, ex9⟩ : ∃ y : Int32, y = l5 + 1 := ⟨_, rfl⟩
  rw [lt_e, ← ex9] at hf
  refine v_iinc (v := x9) [(5, .int x9), (0, va_rf (some l0)), (2, .int l2), (4, .int l4)] dX15_cuts_342 3 rfl (by rw [ex9]; rfl) (by decide) rfl ?_
  refine v_goto (tgt := 112) dX15_cuts_345 (by decide) ?_
  refine v_sub [1, 2, 3, 0] (L2 := [(0, va_rf (some l0)), (2, .int l2), (4, .int l4), (5, .int x9)]) rfl ?_
  exact hrec_112 _ _ _ _ _ hf
def f_X15_cuts_b314 (rec_112 : TH → Nat → Int32 → Int32 → Int32 → Option (Unit × TH)) (σ : TH) (l0 : Nat) (l2 : Int32) (l4 : Int32) (l5 : Int32) (l6 : Int32) (l7 : Int32) (t0 : Int32) : Option (Unit × TH) :=
  if t0 = 0 then (f_X15_cuts_b342 rec_112 σ l0 l2 l4 l5) else (gt_ (kd_ σ l0 = 17) <| lt_ (si_ σ 1653 l0 l5) fun s14 => lt_ (si_ s14 1654 l0 l7) fun s15 => lt_ (si_ s15 1655 l0 l6) fun s16 => f_X15_cuts_b342 rec_112 s16 l0 l2 l4 l5)
set_option maxHeartbeats 4000000 in
set_option maxRecDepth 100000 in
theorem t_X15_cuts_b314 {l : Launch} {D : va_G} {cy : Nat → ClassId} {ka : Nat → Nat} {σ0 z : TH} {r : Unit} {rec_112 : TH → Nat → Int32 → Int32 → Int32 → Option (Unit × TH)} (hrec_112 : ∀ (σ : TH) (l0 : Nat) (l2 : Int32) (l4 : Int32) (l5 : Int32), rec_112 σ l0 l2 l4 l5 = some (r, z) → v_ l D cy ka cX15_cuts RX15 11 none "cuts" 41 938 (qf_ D cy σ0 z none) σ0 z σ 112 [(0, va_rf (some l0)), (2, .int l2), (4, .int l4), (5, .int l5)] []) {σ : TH} {l0 : Nat} {l2 : Int32} {l4 : Int32} {l5 : Int32} {l6 : Int32} {l7 : Int32} {t0 : Int32} (hf : f_X15_cuts_b314 rec_112 σ l0 l2 l4 l5 l6 l7 t0 = some (r, z)) : v_ l D cy ka cX15_cuts RX15 11 none "cuts" 41 938 (qf_ D cy σ0 z none) σ0 z σ 314 [(0, va_rf (some l0)), (2, .int l2), (4, .int l4), (5, .int l5), (6, .int l6), (7, .int l7)] [.int t0] := by
  unfold f_X15_cuts_b314 at hf
  refine v_istore [(10, .int t0), (0, va_rf (some l0)), (2, .int l2), (4, .int l4), (5, .int l5), (6, .int l6), (7, .int l7)] dX15_cuts_314 (by decide) rfl ?_
  refine v_iload (x := t0) dX15_cuts_316 0 rfl ?_
  refine v_if_ne (tgt := 324) hf dX15_cuts_318 (by decide) (fun hq hf => ?_) (fun hq hf => ?_)
  · refine v_goto (tgt := 342) dX15_cuts_321 (by decide) ?_
    refine v_sub [1, 2, 3, 4] (L2 := [(0, va_rf (some l0)), (2, .int l2), (4, .int l4), (5, .int l5)]) rfl ?_
    exact t_X15_cuts_b342 hrec_112 hf
  · refine v_aload_n (x := (some l0)) dX15_cuts_324 rfl 1 rfl ?_
    refine v_iload (x := l5) dX15_cuts_325 4 rfl ?_
    obtain ⟨hk_l0, hf⟩ := gt_of hf
    refine v_puti2 cb_16 hk_l0 53 1653 rfl (by decide) rfl (lk_n kw_1510 rfl) (Or.inl rfl) rfl rfl hf dX15_cuts_327 (fun s14 hts14 hf => ?_)
    have hk_l0 := tk_ hts14 hk_l0
    refine v_aload_n (x := (some l0)) dX15_cuts_330 rfl 1 rfl ?_
    refine v_iload (x := l7) dX15_cuts_331 6 rfl ?_
    refine v_puti2 cb_16 hk_l0 54 1654 rfl (by decide) rfl (lk_n kw_1511 rfl) (Or.inl rfl) rfl rfl hf dX15_cuts_333 (fun s15 hts15 hf => ?_)
    have hk_l0 := tk_ hts15 hk_l0
    refine v_aload_n (x := (some l0)) dX15_cuts_336 rfl 1 rfl ?_
    refine v_iload (x := l6) dX15_cuts_337 5 rfl ?_
    refine v_puti2 cb_16 hk_l0 55 1655 rfl (by decide) rfl (lk_n kw_1512 rfl) (Or.inl rfl) rfl rfl hf dX15_cuts_339 (fun s16 hts16 hf => ?_)
    have hk_l0 := tk_ hts16 hk_l0
    refine v_sub [1, 2, 3, 4] (L2 := [(0, va_rf (some l0)), (2, .int l2), (4, .int l4), (5, .int l5)]) rfl ?_
    exact t_X15_cuts_b342 hrec_112 hf
def f_X15_cuts_b309 (rec_112 : TH → Nat → Int32 → Int32 → Int32 → Option (Unit × TH)) (σ : TH) (l0 : Nat) (l2 : Int32) (l4 : Int32) (l5 : Int32) (l6 : Int32) (l7 : Int32) : Option (Unit × TH) :=
  f_X15_cuts_b314 rec_112 σ l0 l2 l4 l5 l6 l7 (1 : Int32)
set_option maxHeartbeats 4000000 in
set_option maxRecDepth 100000 in
theorem t_X15_cuts_b309 {l : Launch} {D : va_G} {cy : Nat → ClassId} {ka : Nat → Nat} {σ0 z : TH} {r : Unit} {rec_112 : TH → Nat → Int32 → Int32 → Int32 → Option (Unit × TH)} (hrec_112 : ∀ (σ : TH) (l0 : Nat) (l2 : Int32) (l4 : Int32) (l5 : Int32), rec_112 σ l0 l2 l4 l5 = some (r, z) → v_ l D cy ka cX15_cuts RX15 11 none "cuts" 41 938 (qf_ D cy σ0 z none) σ0 z σ 112 [(0, va_rf (some l0)), (2, .int l2), (4, .int l4), (5, .int l5)] []) {σ : TH} {l0 : Nat} {l2 : Int32} {l4 : Int32} {l5 : Int32} {l6 : Int32} {l7 : Int32} (hf : f_X15_cuts_b309 rec_112 σ l0 l2 l4 l5 l6 l7 = some (r, z)) : v_ l D cy ka cX15_cuts RX15 11 none "cuts" 41 938 (qf_ D cy σ0 z none) σ0 z σ 309 [(0, va_rf (some l0)), (2, .int l2), (4, .int l4), (5, .int l5), (6, .int l6), (7, .int l7)] [] := by
  unfold f_X15_cuts_b309 at hf
  refine v_iconst (v := 1) dX15_cuts_309 (by decide) ?_
  refine v_goto (tgt := 314) dX15_cuts_310 (by decide) ?_
  refine v_sub [0, 1, 2, 3, 4, 5] (L2 := [(0, va_rf (some l0)), (2, .int l2), (4, .int l4), (5, .int l5), (6, .int l6), (7, .int l7)]) rfl ?_
  exact t_X15_cuts_b314 hrec_112 hf
def f_X15_cuts_b313 (rec_112 : TH → Nat → Int32 → Int32 → Int32 → Option (Unit × TH)) (σ : TH) (l0 : Nat) (l2 : Int32) (l4 : Int32) (l5 : Int32) (l6 : Int32) (l7 : Int32) : Option (Unit × TH) :=
  f_X15_cuts_b314 rec_112 σ l0 l2 l4 l5 l6 l7 (0 : Int32)
set_option maxHeartbeats 4000000 in
set_option maxRecDepth 100000 in
theorem t_X15_cuts_b313 {l : Launch} {D : va_G} {cy : Nat → ClassId} {ka : Nat → Nat} {σ0 z : TH} {r : Unit} {rec_112 : TH → Nat → Int32 → Int32 → Int32 → Option (Unit × TH)} (hrec_112 : ∀ (σ : TH) (l0 : Nat) (l2 : Int32) (l4 : Int32) (l5 : Int32), rec_112 σ l0 l2 l4 l5 = some (r, z) → v_ l D cy ka cX15_cuts RX15 11 none "cuts" 41 938 (qf_ D cy σ0 z none) σ0 z σ 112 [(0, va_rf (some l0)), (2, .int l2), (4, .int l4), (5, .int l5)] []) {σ : TH} {l0 : Nat} {l2 : Int32} {l4 : Int32} {l5 : Int32} {l6 : Int32} {l7 : Int32} (hf : f_X15_cuts_b313 rec_112 σ l0 l2 l4 l5 l6 l7 = some (r, z)) : v_ l D cy ka cX15_cuts RX15 11 none "cuts" 41 938 (qf_ D cy σ0 z none) σ0 z σ 313 [(0, va_rf (some l0)), (2, .int l2), (4, .int l4), (5, .int l5), (6, .int l6), (7, .int l7)] [] := by
  unfold f_X15_cuts_b313 at hf
  refine v_iconst (v := 0) dX15_cuts_313 (by decide) ?_
  refine v_sub [0, 1, 2, 3, 4, 5] (L2 := [(0, va_rf (some l0)), (2, .int l2), (4, .int l4), (5, .int l5), (6, .int l6), (7, .int l7)]) rfl ?_
  exact t_X15_cuts_b314 hrec_112 hf
def f_X15_cuts_b238 (rec_112 : TH → Nat → Int32 → Int32 → Int32 → Option (Unit × TH)) (σ : TH) (l0 : Nat) (l2 : Int32) (l4 : Int32) (l5 : Int32) (l6 : Int32) (l7 : Int32) (l8 : Int32) : Option (Unit × TH) :=
  if l8 = 0 then (f_X15_cuts_b342 rec_112 σ l0 l2 l4 l5) else (if l2 < l6 then (f_X15_cuts_b342 rec_112 σ l0 l2 l4 l5) else (gt_ (kd_ σ l0 = 17) <| lt_ (fi_ σ 1654 l0) fun x10 => if x10 ≤ l7 then (lt_ (fi_ σ 1653 l0) fun x11 => lt_ (l5 ^^^ x11) fun x12 => lt_ (fi_ σ 1654 l0) fun x13 => if x13 < l7 then (f_X15_cuts_b309 rec_112 σ l0 l2 l4 l5 l6 l7) else (lt_ (fi_ σ 1655 l0) fun x17 => if l6 < x17 then (f_X15_cuts_b309 rec_112 σ l0 l2 l4 l5 l6 l7) else (lt_ (fi_ σ 1655 l0) fun x18 => if l6 = x18 then (if ((x12 &&& (-x12)) &&& l5) = 0 then (f_X15_cuts_b313 rec_112 σ l0 l2 l4 l5 l6 l7) else (f_X15_cuts_b309 rec_112 σ l0 l2 l4 l5 l6 l7)) else (f_X15_cuts_b313 rec_112 σ l0 l2 l4 l5 l6 l7)))) else (f_X15_cuts_b342 rec_112 σ l0 l2 l4 l5)))
set_option maxHeartbeats 4000000 in
set_option maxRecDepth 100000 in
theorem t_X15_cuts_b238 {l : Launch} {D : va_G} {cy : Nat → ClassId} {ka : Nat → Nat} {σ0 z : TH} {r : Unit} {rec_112 : TH → Nat → Int32 → Int32 → Int32 → Option (Unit × TH)} (hrec_112 : ∀ (σ : TH) (l0 : Nat) (l2 : Int32) (l4 : Int32) (l5 : Int32), rec_112 σ l0 l2 l4 l5 = some (r, z) → v_ l D cy ka cX15_cuts RX15 11 none "cuts" 41 938 (qf_ D cy σ0 z none) σ0 z σ 112 [(0, va_rf (some l0)), (2, .int l2), (4, .int l4), (5, .int l5)] []) {σ : TH} {l0 : Nat} {l2 : Int32} {l4 : Int32} {l5 : Int32} {l6 : Int32} {l7 : Int32} {l8 : Int32} (hf : f_X15_cuts_b238 rec_112 σ l0 l2 l4 l5 l6 l7 l8 = some (r, z)) : v_ l D cy ka cX15_cuts RX15 11 none "cuts" 41 938 (qf_ D cy σ0 z none) σ0 z σ 238 [(0, va_rf (some l0)), (2, .int l2), (4, .int l4), (5, .int l5), (6, .int l6), (7, .int l7), (8, .int l8)] [] := by
  unfold f_X15_cuts_b238 at hf
  refine v_iload (x := l8) dX15_cuts_238 6 rfl ?_
  refine v_if_eq (tgt := 342) hf dX15_cuts_240 (by decide) (fun hq hf => ?_) (fun hq hf => ?_)
  · refine v_sub [0, 1, 2, 3] (L2 := [(0, va_rf (some l0)), (2, .int l2), (4, .int l4), (5, .int l5)]) rfl ?_
    exact t_X15_cuts_b342 hrec_112 hf
  · refine v_iload (x := l6) dX15_cuts_243 4 rfl ?_
    refine v_iload_n (x := l2) dX15_cuts_245 rfl 1 rfl ?_
    refine v_icmp_gt (tgt := 342) hf dX15_cuts_246 (by decide) (fun hq hf => ?_) (fun hq hf => ?_)
    · refine v_sub [0, 1, 2, 3] (L2 := [(0, va_rf (some l0)), (2, .int l2), (4, .int l4), (5, .int l5)]) rfl ?_
      exact t_X15_cuts_b342 hrec_112 hf
    · refine v_iload (x := l7) dX15_cuts_249 5 rfl ?_
      refine v_aload_n (x := (some l0)) dX15_cuts_251 rfl 0 rfl ?_
      obtain ⟨hk_l0, hf⟩ := gt_of hf
      refine v_geti cb_16 hk_l0 54 1654 rfl (by decide) rfl (lk_n kw_1511 rfl) hf dX15_cuts_252 (fun x10 hf => ?_)
      refine v_icmp_ge (tgt := 261) hf dX15_cuts_255 (by decide) (fun hq hf => ?_) (fun hq hf => ?_)
      · refine v_iload (x := l5) dX15_cuts_261 3 rfl ?_
        refine v_aload_n (x := (some l0)) dX15_cuts_263 rfl 0 rfl ?_
        refine v_geti cb_16 hk_l0 53 1653 rfl (by decide) rfl (lk_n kw_1510 rfl) hf dX15_cuts_264 (fun x11 hf => ?_)
        refine v_ixor dX15_cuts_267 ?_
        obtain ⟨x12, ex12⟩ : ∃ y : Int32, y = l5 ^^^ x11 := ⟨_, rfl⟩
        rw [lt_e, ← ex12] at hf
        rw [← ex12]
        refine v_istore [(9, .int x12), (0, va_rf (some l0)), (2, .int l2), (4, .int l4), (5, .int l5), (6, .int l6), (7, .int l7), (8, .int l8)] dX15_cuts_268 (by decide) rfl ?_
        refine v_iload (x := l7) dX15_cuts_270 6 rfl ?_
        refine v_aload_n (x := (some l0)) dX15_cuts_272 rfl 1 rfl ?_
        refine v_geti cb_16 hk_l0 54 1654 rfl (by decide) rfl (lk_n kw_1511 rfl) hf dX15_cuts_273 (fun x13 hf => ?_)
        refine v_icmp_gt (tgt := 309) hf dX15_cuts_276 (by decide) (fun hq hf => ?_) (fun hq hf => ?_)
        · refine v_sub [1, 2, 3, 4, 5, 6] (L2 := [(0, va_rf (some l0)), (2, .int l2), (4, .int l4), (5, .int l5), (6, .int l6), (7, .int l7)]) rfl ?_
          exact t_X15_cuts_b309 hrec_112 hf
        · refine v_iload (x := l6) dX15_cuts_279 5 rfl ?_
          refine v_aload_n (x := (some l0)) dX15_cuts_281 rfl 1 rfl ?_
          refine v_geti cb_16 hk_l0 55 1655 rfl (by decide) rfl (lk_n kw_1512 rfl) hf dX15_cuts_282 (fun x17 hf => ?_)
          refine v_icmp_lt (tgt := 309) hf dX15_cuts_285 (by decide) (fun hq hf => ?_) (fun hq hf => ?_)
          · refine v_sub [1, 2, 3, 4, 5, 6] (L2 := [(0, va_rf (some l0)), (2, .int l2), (4, .int l4), (5, .int l5), (6, .int l6), (7, .int l7)]) rfl ?_
            exact t_X15_cuts_b309 hrec_112 hf
          · refine v_iload (x := l6) dX15_cuts_288 5 rfl ?_
            refine v_aload_n (x := (some l0)) dX15_cuts_290 rfl 1 rfl ?_
            refine v_geti cb_16 hk_l0 55 1655 rfl (by decide) rfl (lk_n kw_1512 rfl) hf dX15_cuts_291 (fun x18 hf => ?_)
            refine v_icmp_ne (tgt := 313) hf dX15_cuts_294 (by decide) (fun hq hf => ?_) (fun hq hf => ?_)
            · refine v_iload (x := x12) dX15_cuts_297 0 rfl ?_
              refine v_iload (x := x12) dX15_cuts_299 0 rfl ?_
              refine v_ineg dX15_cuts_301 ?_
              refine v_iand dX15_cuts_302 ?_
              refine v_iload (x := l5) dX15_cuts_303 4 rfl ?_
              refine v_iand dX15_cuts_305 ?_
              refine v_if_eq (tgt := 313) hf dX15_cuts_306 (by decide) (fun hq hf => ?_) (fun hq hf => ?_)
              · refine v_sub [1, 2, 3, 4, 5, 6] (L2 := [(0, va_rf (some l0)), (2, .int l2), (4, .int l4), (5, .int l5), (6, .int l6), (7, .int l7)]) rfl ?_
                exact t_X15_cuts_b313 hrec_112 hf
              · refine v_sub [1, 2, 3, 4, 5, 6] (L2 := [(0, va_rf (some l0)), (2, .int l2), (4, .int l4), (5, .int l5), (6, .int l6), (7, .int l7)]) rfl ?_
                exact t_X15_cuts_b309 hrec_112 hf
            · refine v_sub [1, 2, 3, 4, 5, 6] (L2 := [(0, va_rf (some l0)), (2, .int l2), (4, .int l4), (5, .int l5), (6, .int l6), (7, .int l7)]) rfl ?_
              exact t_X15_cuts_b313 hrec_112 hf
      · refine v_goto (tgt := 342) dX15_cuts_258 (by decide) ?_
        refine v_sub [0, 1, 2, 3] (L2 := [(0, va_rf (some l0)), (2, .int l2), (4, .int l4), (5, .int l5)]) rfl ?_
        exact t_X15_cuts_b342 hrec_112 hf
def f_X15_cuts_b232 (rec_139 : TH → Nat → Int32 → Int32 → Int32 → Int32 → Int32 → Int32 → Int32 → Option (Unit × TH)) (σ : TH) (l0 : Nat) (l2 : Int32) (l4 : Int32) (l5 : Int32) (l6 : Int32) (l7 : Int32) (l8 : Int32) (l9 : Int32) : Option (Unit × TH) :=
  lt_ (l9 + 1) fun x19 => rec_139 σ l0 l2 l4 l5 l6 l7 l8 x19
set_option maxHeartbeats 4000000 in
set_option maxRecDepth 100000 in
theorem t_X15_cuts_b232 {l : Launch} {D : va_G} {cy : Nat → ClassId} {ka : Nat → Nat} {σ0 z : TH} {r : Unit} {rec_139 : TH → Nat → Int32 → Int32 → Int32 → Int32 → Int32 → Int32 → Int32 → Option (Unit × TH)} (hrec_139 : ∀ (σ : TH) (l0 : Nat) (l2 : Int32) (l4 : Int32) (l5 : Int32) (l6 : Int32) (l7 : Int32) (l8 : Int32) (l9 : Int32), rec_139 σ l0 l2 l4 l5 l6 l7 l8 l9 = some (r, z) → v_ l D cy ka cX15_cuts RX15 11 none "cuts" 41 938 (qf_ D cy σ0 z none) σ0 z σ 139 [(0, va_rf (some l0)), (2, .int l2), (4, .int l4), (5, .int l5), (6, .int l6), (7, .int l7), (8, .int l8), (9, .int l9)] []) {σ : TH} {l0 : Nat} {l2 : Int32} {l4 : Int32} {l5 : Int32} {l6 : Int32} {l7 : Int32} {l8 : Int32} {l9 : Int32} (hf : f_X15_cuts_b232 rec_139 σ l0 l2 l4 l5 l6 l7 l8 l9 = some (r, z)) : v_ l D cy ka cX15_cuts RX15 11 none "cuts" 41 938 (qf_ D cy σ0 z none) σ0 z σ 232 [(0, va_rf (some l0)), (2, .int l2), (4, .int l4), (5, .int l5), (6, .int l6), (7, .int l7), (8, .int l8), (9, .int l9)] [] := by
  unfold f_X15_cuts_b232 at hf
  obtain ⟨x19, ex19⟩ : ∃ y : Int32, y = l9 + 1 := ⟨_, rfl⟩
  rw [lt_e, ← ex19] at hf
  refine v_iinc (v := x19) [(9, .int x19), (0, va_rf (some l0)), (2, .int l2), (4, .int l4), (5, .int l5), (6, .int l6), (7, .int l7), (8, .int l8)] dX15_cuts_232 7 rfl (by rw [ex19]; rfl) (by decide) rfl ?_
  refine v_goto (tgt := 139) dX15_cuts_235 (by decide) ?_
  refine v_sub [1, 2, 3, 4, 5, 6, 7, 0] (L2 := [(0, va_rf (some l0)), (2, .int l2), (4, .int l4), (5, .int l5), (6, .int l6), (7, .int l7), (8, .int l8), (9, .int x19)]) rfl ?_
  exact hrec_139 _ _ _ _ _ _ _ _ _ hf
def f_X15_cuts_b206 (rec_139 : TH → Nat → Int32 → Int32 → Int32 → Int32 → Int32 → Int32 → Int32 → Option (Unit × TH)) (σ : TH) (l0 : Nat) (l2 : Int32) (l4 : Int32) (l5 : Int32) (l6 : Int32) (l7 : Int32) (l9 : Int32) (t0 : Int32) : Option (Unit × TH) :=
  gt_ (kd_ σ l0 = 17) <| lt_ (fr_ σ 1649 l0) fun r23 => nn_ r23 fun a24 => gt_ (kd_ σ a24 = 20) <| gt_ (¬ (l9 < 0 ∨ ln_ σ a24 ≤ l9.toNatClampNeg)) <| lt_ (ai_ σ a24 l9.toNatClampNeg) fun x25 => lt_ (l6 + x25) fun x26 => lt_ (fr_ σ 1651 l0) fun r27 => nn_ r27 fun a28 => gt_ (kd_ σ a28 = 20) <| gt_ (¬ (l9 < 0 ∨ ln_ σ a28 ≤ l9.toNatClampNeg)) <| lt_ (ai_ σ a28 l9.toNatClampNeg) fun x29 => lt_ (l7 + x29) fun x30 => f_X15_cuts_b232 rec_139 σ l0 l2 l4 l5 x26 x30 t0 l9
set_option maxHeartbeats 4000000 in
set_option maxRecDepth 100000 in
theorem t_X15_cuts_b206 {l : Launch} {D : va_G} {cy : Nat → ClassId} {ka : Nat → Nat} {σ0 z : TH} {r : Unit} {rec_139 : TH → Nat → Int32 → Int32 → Int32 → Int32 → Int32 → Int32 → Int32 → Option (Unit × TH)} (hrec_139 : ∀ (σ : TH) (l0 : Nat) (l2 : Int32) (l4 : Int32) (l5 : Int32) (l6 : Int32) (l7 : Int32) (l8 : Int32) (l9 : Int32), rec_139 σ l0 l2 l4 l5 l6 l7 l8 l9 = some (r, z) → v_ l D cy ka cX15_cuts RX15 11 none "cuts" 41 938 (qf_ D cy σ0 z none) σ0 z σ 139 [(0, va_rf (some l0)), (2, .int l2), (4, .int l4), (5, .int l5), (6, .int l6), (7, .int l7), (8, .int l8), (9, .int l9)] []) {σ : TH} {l0 : Nat} {l2 : Int32} {l4 : Int32} {l5 : Int32} {l6 : Int32} {l7 : Int32} {l9 : Int32} {t0 : Int32} (hf : f_X15_cuts_b206 rec_139 σ l0 l2 l4 l5 l6 l7 l9 t0 = some (r, z)) : v_ l D cy ka cX15_cuts RX15 11 none "cuts" 41 938 (qf_ D cy σ0 z none) σ0 z σ 206 [(0, va_rf (some l0)), (2, .int l2), (4, .int l4), (5, .int l5), (6, .int l6), (7, .int l7), (9, .int l9)] [.int t0] := by
  unfold f_X15_cuts_b206 at hf
  refine v_istore [(8, .int t0), (0, va_rf (some l0)), (2, .int l2), (4, .int l4), (5, .int l5), (6, .int l6), (7, .int l7), (9, .int l9)] dX15_cuts_206 (by decide) rfl ?_
  refine v_iload (x := l6) dX15_cuts_208 5 rfl ?_
  refine v_aload_n (x := (some l0)) dX15_cuts_210 rfl 1 rfl ?_
  obtain ⟨hk_l0, hf⟩ := gt_of hf
  refine v_getr cb_16 hk_l0 49 1649 rfl (by decide) rfl (lk_n kw_1506 rfl) hf dX15_cuts_211 (fun r23 hf => ?_)
  refine v_iload (x := l9) dX15_cuts_214 7 rfl ?_
  obtain ⟨a24, rfl, hf⟩ := nn_of hf
  obtain ⟨hk_a24, hf⟩ := gt_of hf
  refine v_iald hk_a24 hf dX15_cuts_216 (fun x25 hf => ?_)
  refine v_iadd dX15_cuts_217 ?_
  obtain ⟨x26, ex26⟩ : ∃ y : Int32, y = l6 + x25 := ⟨_, rfl⟩
  rw [lt_e, ← ex26] at hf
  rw [← ex26]
  refine v_istore [(6, .int x26), (8, .int t0), (0, va_rf (some l0)), (2, .int l2), (4, .int l4), (5, .int l5), (7, .int l7), (9, .int l9)] dX15_cuts_218 (by decide) rfl ?_
  refine v_iload (x := l7) dX15_cuts_220 6 rfl ?_
  refine v_aload_n (x := (some l0)) dX15_cuts_222 rfl 2 rfl ?_
  refine v_getr cb_16 hk_l0 51 1651 rfl (by decide) rfl (lk_n kw_1508 rfl) hf dX15_cuts_223 (fun r27 hf => ?_)
  refine v_iload (x := l9) dX15_cuts_226 7 rfl ?_
  obtain ⟨a28, rfl, hf⟩ := nn_of hf
  obtain ⟨hk_a28, hf⟩ := gt_of hf
  refine v_iald hk_a28 hf dX15_cuts_228 (fun x29 hf => ?_)
  refine v_iadd dX15_cuts_229 ?_
  obtain ⟨x30, ex30⟩ : ∃ y : Int32, y = l7 + x29 := ⟨_, rfl⟩
  rw [lt_e, ← ex30] at hf
  rw [← ex30]
  refine v_istore [(7, .int x30), (6, .int x26), (8, .int t0), (0, va_rf (some l0)), (2, .int l2), (4, .int l4), (5, .int l5), (9, .int l9)] dX15_cuts_230 (by decide) rfl ?_
  refine v_sub [3, 4, 5, 6, 1, 0, 2, 7] (L2 := [(0, va_rf (some l0)), (2, .int l2), (4, .int l4), (5, .int l5), (6, .int x26), (7, .int x30), (8, .int t0), (9, .int l9)]) rfl ?_
  exact t_X15_cuts_b232 hrec_139 hf
def f_X15_cuts_b205 (rec_139 : TH → Nat → Int32 → Int32 → Int32 → Int32 → Int32 → Int32 → Int32 → Option (Unit × TH)) (σ : TH) (l0 : Nat) (l2 : Int32) (l4 : Int32) (l5 : Int32) (l6 : Int32) (l7 : Int32) (l9 : Int32) : Option (Unit × TH) :=
  f_X15_cuts_b206 rec_139 σ l0 l2 l4 l5 l6 l7 l9 (0 : Int32)
set_option maxHeartbeats 4000000 in
set_option maxRecDepth 100000 in
theorem t_X15_cuts_b205 {l : Launch} {D : va_G} {cy : Nat → ClassId} {ka : Nat → Nat} {σ0 z : TH} {r : Unit} {rec_139 : TH → Nat → Int32 → Int32 → Int32 → Int32 → Int32 → Int32 → Int32 → Option (Unit × TH)} (hrec_139 : ∀ (σ : TH) (l0 : Nat) (l2 : Int32) (l4 : Int32) (l5 : Int32) (l6 : Int32) (l7 : Int32) (l8 : Int32) (l9 : Int32), rec_139 σ l0 l2 l4 l5 l6 l7 l8 l9 = some (r, z) → v_ l D cy ka cX15_cuts RX15 11 none "cuts" 41 938 (qf_ D cy σ0 z none) σ0 z σ 139 [(0, va_rf (some l0)), (2, .int l2), (4, .int l4), (5, .int l5), (6, .int l6), (7, .int l7), (8, .int l8), (9, .int l9)] []) {σ : TH} {l0 : Nat} {l2 : Int32} {l4 : Int32} {l5 : Int32} {l6 : Int32} {l7 : Int32} {l9 : Int32} (hf : f_X15_cuts_b205 rec_139 σ l0 l2 l4 l5 l6 l7 l9 = some (r, z)) : v_ l D cy ka cX15_cuts RX15 11 none "cuts" 41 938 (qf_ D cy σ0 z none) σ0 z σ 205 [(0, va_rf (some l0)), (2, .int l2), (4, .int l4), (5, .int l5), (6, .int l6), (7, .int l7), (9, .int l9)] [] := by
  unfold f_X15_cuts_b205 at hf
  refine v_iconst (v := 0) dX15_cuts_205 (by decide) ?_
  refine v_sub [0, 1, 2, 3, 4, 5, 6] (L2 := [(0, va_rf (some l0)), (2, .int l2), (4, .int l4), (5, .int l5), (6, .int l6), (7, .int l7), (9, .int l9)]) rfl ?_
  exact t_X15_cuts_b206 hrec_139 hf
def f_X15_cuts_b201 (rec_139 : TH → Nat → Int32 → Int32 → Int32 → Int32 → Int32 → Int32 → Int32 → Option (Unit × TH)) (σ : TH) (l0 : Nat) (l2 : Int32) (l4 : Int32) (l5 : Int32) (l6 : Int32) (l7 : Int32) (l9 : Int32) : Option (Unit × TH) :=
  f_X15_cuts_b206 rec_139 σ l0 l2 l4 l5 l6 l7 l9 (1 : Int32)
set_option maxHeartbeats 4000000 in
set_option maxRecDepth 100000 in
theorem t_X15_cuts_b201 {l : Launch} {D : va_G} {cy : Nat → ClassId} {ka : Nat → Nat} {σ0 z : TH} {r : Unit} {rec_139 : TH → Nat → Int32 → Int32 → Int32 → Int32 → Int32 → Int32 → Int32 → Option (Unit × TH)} (hrec_139 : ∀ (σ : TH) (l0 : Nat) (l2 : Int32) (l4 : Int32) (l5 : Int32) (l6 : Int32) (l7 : Int32) (l8 : Int32) (l9 : Int32), rec_139 σ l0 l2 l4 l5 l6 l7 l8 l9 = some (r, z) → v_ l D cy ka cX15_cuts RX15 11 none "cuts" 41 938 (qf_ D cy σ0 z none) σ0 z σ 139 [(0, va_rf (some l0)), (2, .int l2), (4, .int l4), (5, .int l5), (6, .int l6), (7, .int l7), (8, .int l8), (9, .int l9)] []) {σ : TH} {l0 : Nat} {l2 : Int32} {l4 : Int32} {l5 : Int32} {l6 : Int32} {l7 : Int32} {l9 : Int32} (hf : f_X15_cuts_b201 rec_139 σ l0 l2 l4 l5 l6 l7 l9 = some (r, z)) : v_ l D cy ka cX15_cuts RX15 11 none "cuts" 41 938 (qf_ D cy σ0 z none) σ0 z σ 201 [(0, va_rf (some l0)), (2, .int l2), (4, .int l4), (5, .int l5), (6, .int l6), (7, .int l7), (9, .int l9)] [] := by
  unfold f_X15_cuts_b201 at hf
  refine v_iconst (v := 1) dX15_cuts_201 (by decide) ?_
  refine v_goto (tgt := 206) dX15_cuts_202 (by decide) ?_
  refine v_sub [0, 1, 2, 3, 4, 5, 6] (L2 := [(0, va_rf (some l0)), (2, .int l2), (4, .int l4), (5, .int l5), (6, .int l6), (7, .int l7), (9, .int l9)]) rfl ?_
  exact t_X15_cuts_b206 hrec_139 hf
def f_X15_cuts_b139 (rec_112 : TH → Nat → Int32 → Int32 → Int32 → Option (Unit × TH)) : Nat → TH → Nat → Int32 → Int32 → Int32 → Int32 → Int32 → Int32 → Int32 → Option (Unit × TH)
  | 0, _, _, _, _, _, _, _, _, _ => none
  | n + 1, σ, l0, l2, l4, l5, l6, l7, l8, l9 => if l4 ≤ l9 then (f_X15_cuts_b238 rec_112 σ l0 l2 l4 l5 l6 l7 l8) else (if l8 = 0 then (f_X15_cuts_b238 rec_112 σ l0 l2 l4 l5 l6 l7 l8) else (if ((l5 >>> (l9 &&& 31)) &&& (1 : Int32)) = 0 then (f_X15_cuts_b232 (f_X15_cuts_b139 rec_112 n) σ l0 l2 l4 l5 l6 l7 l8 l9) else (gt_ (kd_ σ l0 = 17) <| lt_ (fr_ σ 1652 l0) fun r20 => nn_ r20 fun a21 => gt_ (kd_ σ a21 = 22) <| gt_ (¬ (l9 < 0 ∨ ln_ σ a21 ≤ l9.toNatClampNeg)) <| lt_ (ai_ σ a21 l9.toNatClampNeg) fun x22 => if x22 = 0 then (f_X15_cuts_b205 (f_X15_cuts_b139 rec_112 n) σ l0 l2 l4 l5 l6 l7 l9) else (lt_ (fr_ σ 1650 l0) fun r31 => nn_ r31 fun a32 => gt_ (kd_ σ a32 = 20) <| gt_ (¬ (l9 < 0 ∨ ln_ σ a32 ≤ l9.toNatClampNeg)) <| lt_ (ai_ σ a32 l9.toNatClampNeg) fun x33 => if x33 = (-1 : Int32) then (f_X15_cuts_b201 (f_X15_cuts_b139 rec_112 n) σ l0 l2 l4 l5 l6 l7 l9) else (lt_ (fr_ σ 1650 l0) fun r34 => nn_ r34 fun a35 => gt_ (kd_ σ a35 = 20) <| gt_ (¬ (l9 < 0 ∨ ln_ σ a35 ≤ l9.toNatClampNeg)) <| lt_ (ai_ σ a35 l9.toNatClampNeg) fun x36 => if ((l5 >>> (x36 &&& 31)) &&& (1 : Int32)) = (1 : Int32) then (f_X15_cuts_b201 (f_X15_cuts_b139 rec_112 n) σ l0 l2 l4 l5 l6 l7 l9) else (f_X15_cuts_b205 (f_X15_cuts_b139 rec_112 n) σ l0 l2 l4 l5 l6 l7 l9))))))
set_option maxHeartbeats 4000000 in
set_option maxRecDepth 100000 in
theorem t_X15_cuts_b139 {l : Launch} {D : va_G} {cy : Nat → ClassId} {ka : Nat → Nat} {σ0 z : TH} {r : Unit} {rec_112 : TH → Nat → Int32 → Int32 → Int32 → Option (Unit × TH)} (hrec_112 : ∀ (σ : TH) (l0 : Nat) (l2 : Int32) (l4 : Int32) (l5 : Int32), rec_112 σ l0 l2 l4 l5 = some (r, z) → v_ l D cy ka cX15_cuts RX15 11 none "cuts" 41 938 (qf_ D cy σ0 z none) σ0 z σ 112 [(0, va_rf (some l0)), (2, .int l2), (4, .int l4), (5, .int l5)] []) : ∀ (n : Nat) (σ : TH) (l0 : Nat) (l2 : Int32) (l4 : Int32) (l5 : Int32) (l6 : Int32) (l7 : Int32) (l8 : Int32) (l9 : Int32), f_X15_cuts_b139 rec_112 n σ l0 l2 l4 l5 l6 l7 l8 l9 = some (r, z) → v_ l D cy ka cX15_cuts RX15 11 none "cuts" 41 938 (qf_ D cy σ0 z none) σ0 z σ 139 [(0, va_rf (some l0)), (2, .int l2), (4, .int l4), (5, .int l5), (6, .int l6), (7, .int l7), (8, .int l8), (9, .int l9)] [] := by
  intro n
  induction n with
  | zero => intro σ l0 l2 l4 l5 l6 l7 l8 l9 hf; unfold f_X15_cuts_b139 at hf; cases hf
  | succ n ih =>
    intro σ l0 l2 l4 l5 l6 l7 l8 l9 hf
    unfold f_X15_cuts_b139 at hf
    have hrec_139 := ih
    refine v_iload (x := l9) dX15_cuts_139 7 rfl ?_
    refine v_iload (x := l4) dX15_cuts_141 2 rfl ?_
    refine v_icmp_ge (tgt := 238) hf dX15_cuts_143 (by decide) (fun hq hf => ?_) (fun hq hf => ?_)
    · refine v_sub [0, 1, 2, 3, 4, 5, 6] (L2 := [(0, va_rf (some l0)), (2, .int l2), (4, .int l4), (5, .int l5), (6, .int l6), (7, .int l7), (8, .int l8)]) rfl ?_
      exact t_X15_cuts_b238 hrec_112 hf
    · refine v_iload (x := l8) dX15_cuts_146 6 rfl ?_
      refine v_if_eq (tgt := 238) hf dX15_cuts_148 (by decide) (fun hq hf => ?_) (fun hq hf => ?_)
      · refine v_sub [0, 1, 2, 3, 4, 5, 6] (L2 := [(0, va_rf (some l0)), (2, .int l2), (4, .int l4), (5, .int l5), (6, .int l6), (7, .int l7), (8, .int l8)]) rfl ?_
        exact t_X15_cuts_b238 hrec_112 hf
      · refine v_iload (x := l5) dX15_cuts_151 3 rfl ?_
        refine v_iload (x := l9) dX15_cuts_153 7 rfl ?_
        refine v_ishr dX15_cuts_155 ?_
        refine v_iconst (v := 1) dX15_cuts_156 (by decide) ?_
        refine v_iand dX15_cuts_157 ?_
        refine v_if_ne (tgt := 164) hf dX15_cuts_158 (by decide) (fun hq hf => ?_) (fun hq hf => ?_)
        · refine v_goto (tgt := 232) dX15_cuts_161 (by decide) ?_
          refine v_sub [0, 1, 2, 3, 4, 5, 6, 7] (L2 := [(0, va_rf (some l0)), (2, .int l2), (4, .int l4), (5, .int l5), (6, .int l6), (7, .int l7), (8, .int l8), (9, .int l9)]) rfl ?_
          exact t_X15_cuts_b232 hrec_139 hf
        · refine v_aload_n (x := (some l0)) dX15_cuts_164 rfl 0 rfl ?_
          obtain ⟨hk_l0, hf⟩ := gt_of hf
          refine v_getr cb_16 hk_l0 52 1652 rfl (by decide) rfl (lk_n kw_1509 rfl) hf dX15_cuts_165 (fun r20 hf => ?_)
          refine v_iload (x := l9) dX15_cuts_168 7 rfl ?_
          obtain ⟨a21, rfl, hf⟩ := nn_of hf
          obtain ⟨hk_a21, hf⟩ := gt_of hf
          refine v_zald hk_a21 hf dX15_cuts_170 (fun x22 hf => ?_)
          refine v_if_eq (tgt := 205) hf dX15_cuts_171 (by decide) (fun hq hf => ?_) (fun hq hf => ?_)
          · refine v_sub [0, 1, 2, 3, 4, 5, 7] (L2 := [(0, va_rf (some l0)), (2, .int l2), (4, .int l4), (5, .int l5), (6, .int l6), (7, .int l7), (9, .int l9)]) rfl ?_
            exact t_X15_cuts_b205 hrec_139 hf
          · refine v_aload_n (x := (some l0)) dX15_cuts_174 rfl 0 rfl ?_
            refine v_getr cb_16 hk_l0 50 1650 rfl (by decide) rfl (lk_n kw_1507 rfl) hf dX15_cuts_175 (fun r31 hf => ?_)
            refine v_iload (x := l9) dX15_cuts_178 7 rfl ?_
            obtain ⟨a32, rfl, hf⟩ := nn_of hf
            obtain ⟨hk_a32, hf⟩ := gt_of hf
            refine v_iald hk_a32 hf dX15_cuts_180 (fun x33 hf => ?_)
            refine v_iconst (v := (-1)) dX15_cuts_181 (by decide) ?_
            refine v_icmp_eq (tgt := 201) hf dX15_cuts_182 (by decide) (fun hq hf => ?_) (fun hq hf => ?_)
            · refine v_sub [0, 1, 2, 3, 4, 5, 7] (L2 := [(0, va_rf (some l0)), (2, .int l2), (4, .int l4), (5, .int l5), (6, .int l6), (7, .int l7), (9, .int l9)]) rfl ?_
              exact t_X15_cuts_b201 hrec_139 hf
            · refine v_iload (x := l5) dX15_cuts_185 3 rfl ?_
              refine v_aload_n (x := (some l0)) dX15_cuts_187 rfl 0 rfl ?_
              refine v_getr cb_16 hk_l0 50 1650 rfl (by decide) rfl (lk_n kw_1507 rfl) hf dX15_cuts_188 (fun r34 hf => ?_)
              refine v_iload (x := l9) dX15_cuts_191 7 rfl ?_
              obtain ⟨a35, rfl, hf⟩ := nn_of hf
              obtain ⟨hk_a35, hf⟩ := gt_of hf
              refine v_iald hk_a35 hf dX15_cuts_193 (fun x36 hf => ?_)
              refine v_ishr dX15_cuts_194 ?_
              refine v_iconst (v := 1) dX15_cuts_195 (by decide) ?_
              refine v_iand dX15_cuts_196 ?_
              refine v_iconst (v := 1) dX15_cuts_197 (by decide) ?_
              refine v_icmp_ne (tgt := 205) hf dX15_cuts_198 (by decide) (fun hq hf => ?_) (fun hq hf => ?_)
              · refine v_sub [0, 1, 2, 3, 4, 5, 7] (L2 := [(0, va_rf (some l0)), (2, .int l2), (4, .int l4), (5, .int l5), (6, .int l6), (7, .int l7), (9, .int l9)]) rfl ?_
                exact t_X15_cuts_b201 hrec_139 hf
              · refine v_sub [0, 1, 2, 3, 4, 5, 7] (L2 := [(0, va_rf (some l0)), (2, .int l2), (4, .int l4), (5, .int l5), (6, .int l6), (7, .int l7), (9, .int l9)]) rfl ?_
                exact t_X15_cuts_b205 hrec_139 hf
def f_X15_cuts_b112 : Nat → TH → Nat → Int32 → Int32 → Int32 → Option (Unit × TH)
  | 0, _, _, _, _, _ => none
  | n + 1, σ, l0, l2, l4, l5 => if ((1 : Int32) <<< (l4 &&& 31)) ≤ l5 then (some ((), σ)) else (bd_ (f_X15_bits σ l5) fun x6 s7 => lt_ (x6 - (1 : Int32)) fun x8 => f_X15_cuts_b139 (f_X15_cuts_b112 n) fu_ s7 l0 l2 l4 l5 x8 (0 : Int32) (1 : Int32) (0 : Int32))
set_option maxHeartbeats 4000000 in
set_option maxRecDepth 100000 in
theorem t_X15_cuts_b112 {l : Launch} {D : va_G} {cy : Nat → ClassId} {ka : Nat → Nat} {σ0 z : TH} {r : Unit}  : ∀ (n : Nat) (σ : TH) (l0 : Nat) (l2 : Int32) (l4 : Int32) (l5 : Int32), f_X15_cuts_b112 n σ l0 l2 l4 l5 = some (r, z) → v_ l D cy ka cX15_cuts RX15 11 none "cuts" 41 938 (qf_ D cy σ0 z none) σ0 z σ 112 [(0, va_rf (some l0)), (2, .int l2), (4, .int l4), (5, .int l5)] [] := by
  intro n
  induction n with
  | zero => intro σ l0 l2 l4 l5 hf; unfold f_X15_cuts_b112 at hf; cases hf
  | succ n ih =>
    intro σ l0 l2 l4 l5 hf
    unfold f_X15_cuts_b112 at hf
    have hrec_112 := ih
    refine v_iload (x := l5) dX15_cuts_112 3 rfl ?_
    refine v_iconst (v := 1) dX15_cuts_114 (by decide) ?_
    refine v_iload (x := l4) dX15_cuts_115 2 rfl ?_
    refine v_ishl dX15_cuts_117 ?_
    refine v_icmp_ge (tgt := 348) hf dX15_cuts_118 (by decide) (fun hq hf => ?_) (fun hq hf => ?_)
    · exact v_vret hf dX15_cuts_348
    · refine v_iload (x := l5) dX15_cuts_121 3 rfl ?_
      obtain ⟨x6, s7, hcs7, hf⟩ := bd_of hf
      have hts7 := c_X15_bits (l := l) (D := D) (cy := cy) (ka := ka) hcs7
      refine v_callS (As := [.int l5]) (rest := []) hts7 yb_X15_bits kw_1794 kw_1795 rfl ⟨Nat.le_of_ble_eq_true rfl, Nat.le_of_ble_eq_true rfl⟩ rfl (cat_len (Nat.le_of_ble_eq_true rfl)) dX15_cuts_123 ?_
      show v_ l D cy ka cX15_cuts RX15 11 none "cuts" 41 938 (qf_ D cy σ0 z none) σ0 z _ 126 [(0, va_rf (some l0)), (2, .int l2), (4, .int l4), (5, .int l5)] [.int x6]
      refine v_iconst (v := 1) dX15_cuts_126 (by decide) ?_
      refine v_isub dX15_cuts_127 ?_
      obtain ⟨x8, ex8⟩ : ∃ y : Int32, y = x6 - (1 : Int32) := ⟨_, rfl⟩
      rw [lt_e, ← ex8] at hf
      rw [← ex8]
      refine v_istore [(6, .int x8), (0, va_rf (some l0)), (2, .int l2), (4, .int l4), (5, .int l5)] dX15_cuts_128 (by decide) rfl ?_
      refine v_iconst (v := 0) dX15_cuts_130 (by decide) ?_
      refine v_istore [(7, .int (0 : Int32)), (6, .int x8), (0, va_rf (some l0)), (2, .int l2), (4, .int l4), (5, .int l5)] dX15_cuts_131 (by decide) rfl ?_
      refine v_iconst (v := 1) dX15_cuts_133 (by decide) ?_
      refine v_istore [(8, .int (1 : Int32)), (7, .int (0 : Int32)), (6, .int x8), (0, va_rf (some l0)), (2, .int l2), (4, .int l4), (5, .int l5)] dX15_cuts_134 (by decide) rfl ?_
      refine v_iconst (v := 0) dX15_cuts_136 (by decide) ?_
      refine v_istore [(9, .int (0 : Int32)), (8, .int (1 : Int32)), (7, .int (0 : Int32)), (6, .int x8), (0, va_rf (some l0)), (2, .int l2), (4, .int l4), (5, .int l5)] dX15_cuts_137 (by decide) rfl ?_
      refine v_sub [4, 5, 6, 7, 3, 2, 1, 0] (L2 := [(0, va_rf (some l0)), (2, .int l2), (4, .int l4), (5, .int l5), (6, .int x8), (7, .int (0 : Int32)), (8, .int (1 : Int32)), (9, .int (0 : Int32))]) rfl ?_
      exact t_X15_cuts_b139 hrec_112 _ _ _ _ _ _ _ _ _ _ hf
def f_X15_cuts_b87 (rec_10 : TH → Nat → Int32 → Int32 → Int32 → Int32 → Int32 → Option (Unit × TH)) (σ : TH) (l0 : Nat) (l1 : Int32) (l2 : Int32) (l3 : Int32) (l4 : Int32) (l5 : Int32) (t0 : Int32) (t1 : Int32) (t2 : Option Nat) : Option (Unit × TH) :=
  nn_ t2 fun a54 => gt_ (kd_ σ a54 = 22) <| gt_ (¬ (t1 < 0 ∨ ln_ σ a54 ≤ t1.toNatClampNeg)) <| lt_ (sa_ σ a54 t1.toNatClampNeg (vp_nar .boolean t0)) fun s55 => lt_ (l5 + 1) fun x56 => rec_10 s55 l0 l1 l2 l3 l4 x56
set_option maxHeartbeats 4000000 in
set_option maxRecDepth 100000 in
theorem t_X15_cuts_b87 {l : Launch} {D : va_G} {cy : Nat → ClassId} {ka : Nat → Nat} {σ0 z : TH} {r : Unit} {rec_10 : TH → Nat → Int32 → Int32 → Int32 → Int32 → Int32 → Option (Unit × TH)} (hrec_10 : ∀ (σ : TH) (l0 : Nat) (l1 : Int32) (l2 : Int32) (l3 : Int32) (l4 : Int32) (l5 : Int32), rec_10 σ l0 l1 l2 l3 l4 l5 = some (r, z) → v_ l D cy ka cX15_cuts RX15 11 none "cuts" 41 938 (qf_ D cy σ0 z none) σ0 z σ 10 [(0, va_rf (some l0)), (1, .int l1), (2, .int l2), (3, .int l3), (4, .int l4), (5, .int l5)] []) {σ : TH} {l0 : Nat} {l1 : Int32} {l2 : Int32} {l3 : Int32} {l4 : Int32} {l5 : Int32} {t0 : Int32} {t1 : Int32} {t2 : Option Nat} (hf : f_X15_cuts_b87 rec_10 σ l0 l1 l2 l3 l4 l5 t0 t1 t2 = some (r, z)) : v_ l D cy ka cX15_cuts RX15 11 none "cuts" 41 938 (qf_ D cy σ0 z none) σ0 z σ 87 [(0, va_rf (some l0)), (1, .int l1), (2, .int l2), (3, .int l3), (4, .int l4), (5, .int l5)] [.int t0, .int t1, va_rf t2] := by
  unfold f_X15_cuts_b87 at hf
  obtain ⟨a54, rfl, hf⟩ := nn_of hf
  obtain ⟨hk_a54, hf⟩ := gt_of hf
  refine v_zast2 hk_a54 hf dX15_cuts_87 (fun s55 hts55 hf => ?_)
  obtain ⟨x56, ex56⟩ : ∃ y : Int32, y = l5 + 1 := ⟨_, rfl⟩
  rw [lt_e, ← ex56] at hf
  refine v_iinc (v := x56) [(5, .int x56), (0, va_rf (some l0)), (1, .int l1), (2, .int l2), (3, .int l3), (4, .int l4)] dX15_cuts_88 5 rfl (by rw [ex56]; rfl) (by decide) rfl ?_
  refine v_goto (tgt := 10) dX15_cuts_91 (by decide) ?_
  refine v_sub [1, 2, 3, 4, 5, 0] (L2 := [(0, va_rf (some l0)), (1, .int l1), (2, .int l2), (3, .int l3), (4, .int l4), (5, .int x56)]) rfl ?_
  exact hrec_10 _ _ _ _ _ _ _ hf
def f_X15_cuts_b82 (rec_10 : TH → Nat → Int32 → Int32 → Int32 → Int32 → Int32 → Option (Unit × TH)) (σ : TH) (l0 : Nat) (l1 : Int32) (l2 : Int32) (l3 : Int32) (l4 : Int32) (l5 : Int32) (t0 : Int32) (t1 : Option Nat) : Option (Unit × TH) :=
  f_X15_cuts_b87 rec_10 σ l0 l1 l2 l3 l4 l5 (1 : Int32) t0 t1
set_option maxHeartbeats 4000000 in
set_option maxRecDepth 100000 in
theorem t_X15_cuts_b82 {l : Launch} {D : va_G} {cy : Nat → ClassId} {ka : Nat → Nat} {σ0 z : TH} {r : Unit} {rec_10 : TH → Nat → Int32 → Int32 → Int32 → Int32 → Int32 → Option (Unit × TH)} (hrec_10 : ∀ (σ : TH) (l0 : Nat) (l1 : Int32) (l2 : Int32) (l3 : Int32) (l4 : Int32) (l5 : Int32), rec_10 σ l0 l1 l2 l3 l4 l5 = some (r, z) → v_ l D cy ka cX15_cuts RX15 11 none "cuts" 41 938 (qf_ D cy σ0 z none) σ0 z σ 10 [(0, va_rf (some l0)), (1, .int l1), (2, .int l2), (3, .int l3), (4, .int l4), (5, .int l5)] []) {σ : TH} {l0 : Nat} {l1 : Int32} {l2 : Int32} {l3 : Int32} {l4 : Int32} {l5 : Int32} {t0 : Int32} {t1 : Option Nat} (hf : f_X15_cuts_b82 rec_10 σ l0 l1 l2 l3 l4 l5 t0 t1 = some (r, z)) : v_ l D cy ka cX15_cuts RX15 11 none "cuts" 41 938 (qf_ D cy σ0 z none) σ0 z σ 82 [(0, va_rf (some l0)), (1, .int l1), (2, .int l2), (3, .int l3), (4, .int l4), (5, .int l5)] [.int t0, va_rf t1] := by
  unfold f_X15_cuts_b82 at hf
  refine v_iconst (v := 1) dX15_cuts_82 (by decide) ?_
  refine v_goto (tgt := 87) dX15_cuts_83 (by decide) ?_
  refine v_sub [0, 1, 2, 3, 4, 5] (L2 := [(0, va_rf (some l0)), (1, .int l1), (2, .int l2), (3, .int l3), (4, .int l4), (5, .int l5)]) rfl ?_
  exact t_X15_cuts_b87 hrec_10 hf
def f_X15_cuts_b10 : Nat → TH → Nat → Int32 → Int32 → Int32 → Int32 → Int32 → Option (Unit × TH)
  | 0, _, _, _, _, _, _, _ => none
  | n + 1, σ, l0, l1, l2, l3, l4, l5 => if l4 ≤ l5 then (gt_ (kd_ σ l0 = 17) <| lt_ (si_ σ 1653 l0 (0 : Int32)) fun s3 => lt_ (si_ s3 1654 l0 (0 : Int32)) fun s4 => lt_ (si_ s4 1655 l0 (0 : Int32)) fun s5 => f_X15_cuts_b112 fu_ s5 l0 l2 l4 (1 : Int32)) else (gt_ (kd_ σ l0 = 17) <| bd_ (f_X15_at σ l0 l1 l5) fun r37 s38 => lt_ (fr_ s38 1649 l0) fun r39 => bd_ (f_X15_lengthOf s38 l0 r37) fun x40 s41 => nn_ r39 fun a42 => gt_ (kd_ s41 a42 = 20) <| gt_ (¬ (l5 < 0 ∨ ln_ s41 a42 ≤ l5.toNatClampNeg)) <| lt_ (sa_ s41 a42 l5.toNatClampNeg x40) fun s43 => lt_ (fr_ s43 1650 l0) fun r44 => nn_ r37 fun a45 => gt_ (kd_ s43 a45 = 15) <| lt_ (fi_ s43 1403 a45) fun x46 => nn_ r44 fun a47 => gt_ (kd_ s43 a47 = 20) <| gt_ (¬ (l5 < 0 ∨ ln_ s43 a47 ≤ l5.toNatClampNeg)) <| lt_ (sa_ s43 a47 l5.toNatClampNeg x46) fun s48 => lt_ (fr_ s48 1651 l0) fun r49 => lt_ (fi_ s48 1402 a45) fun x50 => nn_ r49 fun a51 => gt_ (kd_ s48 a51 = 20) <| gt_ (¬ (l5 < 0 ∨ ln_ s48 a51 ≤ l5.toNatClampNeg)) <| lt_ (sa_ s48 a51 l5.toNatClampNeg x50) fun s52 => lt_ (fr_ s52 1652 l0) fun r53 => if l3 = 0 then (f_X15_cuts_b82 (f_X15_cuts_b10 n) s52 l0 l1 l2 l3 l4 l5 l5 r53) else (bd_ (f_X15_isMarked s52 l0 (some a45)) fun x57 s58 => if x57 = 0 then (f_X15_cuts_b82 (f_X15_cuts_b10 n) s58 l0 l1 l2 l3 l4 l5 l5 r53) else (f_X15_cuts_b87 (f_X15_cuts_b10 n) s58 l0 l1 l2 l3 l4 l5 (0 : Int32) l5 r53)))
set_option maxHeartbeats 4000000 in
set_option maxRecDepth 100000 in
theorem t_X15_cuts_b10 {l : Launch} {D : va_G} {cy : Nat → ClassId} {ka : Nat → Nat} {σ0 z : TH} {r : Unit}  : ∀ (n : Nat) (σ : TH) (l0 : Nat) (l1 : Int32) (l2 : Int32) (l3 : Int32) (l4 : Int32) (l5 : Int32), f_X15_cuts_b10 n σ l0 l1 l2 l3 l4 l5 = some (r, z) → v_ l D cy ka cX15_cuts RX15 11 none "cuts" 41 938 (qf_ D cy σ0 z none) σ0 z σ 10 [(0, va_rf (some l0)), (1, .int l1), (2, .int l2), (3, .int l3), (4, .int l4), (5, .int l5)] [] := by
  intro n
  induction n with
  | zero => intro σ l0 l1 l2 l3 l4 l5 hf; unfold f_X15_cuts_b10 at hf; cases hf
  | succ n ih =>
    intro σ l0 l1 l2 l3 l4 l5 hf
    unfold f_X15_cuts_b10 at hf
    have hrec_10 := ih
    refine v_iload (x := l5) dX15_cuts_10 5 rfl ?_
    refine v_iload (x := l4) dX15_cuts_12 4 rfl ?_
    refine v_icmp_ge (tgt := 94) hf dX15_cuts_14 (by decide) (fun hq hf => ?_) (fun hq hf => ?_)
    · refine v_aload_n (x := (some l0)) dX15_cuts_94 rfl 0 rfl ?_
      refine v_iconst (v := 0) dX15_cuts_95 (by decide) ?_
      obtain ⟨hk_l0, hf⟩ := gt_of hf
      refine v_puti2 cb_16 hk_l0 53 1653 rfl (by decide) rfl (lk_n kw_1510 rfl) (Or.inl rfl) rfl rfl hf dX15_cuts_96 (fun s3 hts3 hf => ?_)
      have hk_l0 := tk_ hts3 hk_l0
      refine v_aload_n (x := (some l0)) dX15_cuts_99 rfl 0 rfl ?_
      refine v_iconst (v := 0) dX15_cuts_100 (by decide) ?_
      refine v_puti2 cb_16 hk_l0 54 1654 rfl (by decide) rfl (lk_n kw_1511 rfl) (Or.inl rfl) rfl rfl hf dX15_cuts_101 (fun s4 hts4 hf => ?_)
      have hk_l0 := tk_ hts4 hk_l0
      refine v_aload_n (x := (some l0)) dX15_cuts_104 rfl 0 rfl ?_
      refine v_iconst (v := 0) dX15_cuts_105 (by decide) ?_
      refine v_puti2 cb_16 hk_l0 55 1655 rfl (by decide) rfl (lk_n kw_1512 rfl) (Or.inl rfl) rfl rfl hf dX15_cuts_106 (fun s5 hts5 hf => ?_)
      have hk_l0 := tk_ hts5 hk_l0
      refine v_iconst (v := 1) dX15_cuts_109 (by decide) ?_
      refine v_istore [(5, .int (1 : Int32)), (0, va_rf (some l0)), (1, .int l1), (2, .int l2), (3, .int l3), (4, .int l4)] dX15_cuts_110 (by decide) rfl ?_
      refine v_sub [1, 3, 5, 0] (L2 := [(0, va_rf (some l0)), (2, .int l2), (4, .int l4), (5, .int (1 : Int32))]) rfl ?_
      exact t_X15_cuts_b112  _ _ _ _ _ _ hf
    · refine v_aload_n (x := (some l0)) dX15_cuts_17 rfl 0 rfl ?_
      refine v_iload_n (x := l1) dX15_cuts_18 rfl 1 rfl ?_
      refine v_iload (x := l5) dX15_cuts_19 5 rfl ?_
      obtain ⟨hk_l0, hf⟩ := gt_of hf
      obtain ⟨r37, s38, hcs38, hf⟩ := bd_of hf
      have hts38 := c_X15_at (l := l) (D := D) (cy := cy) (ka := ka) hcs38
      refine v_callV cb_16 hk_l0 (As := [.int l1, .int l5]) (rest := []) hts38 yb_X15_at kw_2058 kw_2060 kp_125 rfl ⟨Nat.le_of_ble_eq_true rfl, Nat.le_of_ble_eq_true rfl⟩ rfl (cat_len (Nat.le_of_ble_eq_true rfl)) dX15_cuts_21 ?_
      have hk_l0 := tk_ hts38.1 hk_l0
      show v_ l D cy ka cX15_cuts RX15 11 none "cuts" 41 938 (qf_ D cy σ0 z none) σ0 z _ 24 [(0, va_rf (some l0)), (1, .int l1), (2, .int l2), (3, .int l3), (4, .int l4), (5, .int l5)] [va_rf r37]
      refine v_astore [(6, va_rf r37), (0, va_rf (some l0)), (1, .int l1), (2, .int l2), (3, .int l3), (4, .int l4), (5, .int l5)] dX15_cuts_24 (by decide) rfl ?_
      refine v_aload_n (x := (some l0)) dX15_cuts_26 rfl 1 rfl ?_
      refine v_getr cb_16 hk_l0 49 1649 rfl (by decide) rfl (lk_n kw_1506 rfl) hf dX15_cuts_27 (fun r39 hf => ?_)
      refine v_iload (x := l5) dX15_cuts_30 6 rfl ?_
      refine v_aload_n (x := (some l0)) dX15_cuts_32 rfl 1 rfl ?_
      refine v_aload (x := r37) dX15_cuts_33 0 rfl ?_
      obtain ⟨x40, s41, hcs41, hf⟩ := bd_of hf
      have hts41 := c_X15_lengthOf (l := l) (D := D) (cy := cy) (ka := ka) hcs41
      refine v_callV cb_16 hk_l0 (As := [va_rf r37]) (rest := [.int l5, va_rf r39]) hts41 yb_X15_lengthOf kw_2074 kw_2076 kp_126 rfl ⟨Nat.le_of_ble_eq_true rfl, Nat.le_of_ble_eq_true rfl⟩ rfl (cat_len (Nat.le_of_ble_eq_true rfl)) dX15_cuts_35 ?_
      have hk_l0 := tk_ hts41.1 hk_l0
      show v_ l D cy ka cX15_cuts RX15 11 none "cuts" 41 938 (qf_ D cy σ0 z none) σ0 z _ 38 [(6, va_rf r37), (0, va_rf (some l0)), (1, .int l1), (2, .int l2), (3, .int l3), (4, .int l4), (5, .int l5)] [.int x40, .int l5, va_rf r39]
      obtain ⟨a42, rfl, hf⟩ := nn_of hf
      obtain ⟨hk_a42, hf⟩ := gt_of hf
      refine v_iast2 hk_a42 hf dX15_cuts_38 (fun s43 hts43 hf => ?_)
      have hk_l0 := tk_ hts43 hk_l0
      refine v_aload_n (x := (some l0)) dX15_cuts_39 rfl 1 rfl ?_
      refine v_getr cb_16 hk_l0 50 1650 rfl (by decide) rfl (lk_n kw_1507 rfl) hf dX15_cuts_40 (fun r44 hf => ?_)
      refine v_iload (x := l5) dX15_cuts_43 6 rfl ?_
      refine v_aload (x := r37) dX15_cuts_45 0 rfl ?_
      obtain ⟨a45, rfl, hf⟩ := nn_of hf
      obtain ⟨hk_a45, hf⟩ := gt_of hf
      refine v_geti cb_14 hk_a45 3 1403 rfl (by decide) rfl (lk_N kw_2031 rfl) hf dX15_cuts_47 (fun x46 hf => ?_)
      obtain ⟨a47, rfl, hf⟩ := nn_of hf
      obtain ⟨hk_a47, hf⟩ := gt_of hf
      refine v_iast2 hk_a47 hf dX15_cuts_50 (fun s48 hts48 hf => ?_)
      have hk_l0 := tk_ hts48 hk_l0
      have hk_a45 := tk_ hts48 hk_a45
      refine v_aload_n (x := (some l0)) dX15_cuts_51 rfl 1 rfl ?_
      refine v_getr cb_16 hk_l0 51 1651 rfl (by decide) rfl (lk_n kw_1508 rfl) hf dX15_cuts_52 (fun r49 hf => ?_)
      refine v_iload (x := l5) dX15_cuts_55 6 rfl ?_
      refine v_aload (x := (some a45)) dX15_cuts_57 0 rfl ?_
      refine v_geti cb_14 hk_a45 2 1402 rfl (by decide) rfl (lk_N kw_2030 rfl) hf dX15_cuts_59 (fun x50 hf => ?_)
      obtain ⟨a51, rfl, hf⟩ := nn_of hf
      obtain ⟨hk_a51, hf⟩ := gt_of hf
      refine v_iast2 hk_a51 hf dX15_cuts_62 (fun s52 hts52 hf => ?_)
      have hk_l0 := tk_ hts52 hk_l0
      have hk_a45 := tk_ hts52 hk_a45
      refine v_aload_n (x := (some l0)) dX15_cuts_63 rfl 1 rfl ?_
      refine v_getr cb_16 hk_l0 52 1652 rfl (by decide) rfl (lk_n kw_1509 rfl) hf dX15_cuts_64 (fun r53 hf => ?_)
      refine v_iload (x := l5) dX15_cuts_67 6 rfl ?_
      refine v_iload_n (x := l3) dX15_cuts_69 rfl 4 rfl ?_
      refine v_if_eq (tgt := 82) hf dX15_cuts_70 (by decide) (fun hq hf => ?_) (fun hq hf => ?_)
      · refine v_sub [1, 2, 3, 4, 5, 6] (L2 := [(0, va_rf (some l0)), (1, .int l1), (2, .int l2), (3, .int l3), (4, .int l4), (5, .int l5)]) rfl ?_
        exact t_X15_cuts_b82 hrec_10 hf
      · refine v_aload_n (x := (some l0)) dX15_cuts_73 rfl 1 rfl ?_
        refine v_aload (x := (some a45)) dX15_cuts_74 0 rfl ?_
        obtain ⟨x57, s58, hcs58, hf⟩ := bd_of hf
        have hts58 := c_X15_isMarked (l := l) (D := D) (cy := cy) (ka := ka) hcs58
        refine v_callV cb_16 hk_l0 (As := [va_rf (some a45)]) (rest := [.int l5, va_rf r53]) hts58 yb_X15_isMarked kw_2078 kw_2080 kp_127 rfl ⟨Nat.le_of_ble_eq_true rfl, Nat.le_of_ble_eq_true rfl⟩ rfl (cat_len (Nat.le_of_ble_eq_true rfl)) dX15_cuts_76 ?_
        have hk_l0 := tk_ hts58.1 hk_l0
        have hk_a45 := tk_ hts58.1 hk_a45
        show v_ l D cy ka cX15_cuts RX15 11 none "cuts" 41 938 (qf_ D cy σ0 z none) σ0 z _ 79 [(6, va_rf (some a45)), (0, va_rf (some l0)), (1, .int l1), (2, .int l2), (3, .int l3), (4, .int l4), (5, .int l5)] [.int x57, .int l5, va_rf r53]
        refine v_if_ne (tgt := 86) hf dX15_cuts_79 (by decide) (fun hq hf => ?_) (fun hq hf => ?_)
        · refine v_sub [1, 2, 3, 4, 5, 6] (L2 := [(0, va_rf (some l0)), (1, .int l1), (2, .int l2), (3, .int l3), (4, .int l4), (5, .int l5)]) rfl ?_
          exact t_X15_cuts_b82 hrec_10 hf
        · refine v_iconst (v := 0) dX15_cuts_86 (by decide) ?_
          refine v_sub [1, 2, 3, 4, 5, 6] (L2 := [(0, va_rf (some l0)), (1, .int l1), (2, .int l2), (3, .int l3), (4, .int l4), (5, .int l5)]) rfl ?_
          exact t_X15_cuts_b87 hrec_10 hf
/-- LivesAheadModel.cuts(IIZ)V -/
def f_X15_cuts (σ : TH) (p0 : Nat) (p1 : Int32) (p2 : Int32) (p3 : Int32) : Option (Unit × TH) :=
  gt_ (kd_ σ p0 = 17) <| bd_ (f_X15_storySize σ p0 p1) fun x1 s2 => f_X15_cuts_b10 fu_ s2 p0 p1 p2 p3 x1 (0 : Int32)
set_option maxHeartbeats 4000000 in
set_option maxRecDepth 100000 in
theorem c_X15_cuts {l : Launch} {D : va_G} {cy : Nat → ClassId} {ka : Nat → Nat} {σ z : TH} {p0 : Nat} {p1 : Int32} {p2 : Int32} {p3 : Int32} {r : Unit} (hf : f_X15_cuts σ p0 p1 p2 p3 = some (r, z)) : ct_ l D cy ka yX15_cuts 41 938 [va_rf (some p0), .int p1, .int p2, .int p3] σ none z := by
  unfold f_X15_cuts at hf
  refine v_start (cc := cX15_cuts) (own := RX15) (maxL := 11) (ret := none) (nm := "cuts") (by decide +kernel) kw_2097 rfl rfl (by simp [lg_sl, va_rf_cat, cat_i, cat_l]) ?_
  refine v_eqL (L2 := [(0, va_rf (some p0)), (1, .int p1), (2, .int p2), (3, .int p3)]) (by simp [lv_args, va_rf_cat, cat_i, cat_l]) ?_
  refine v_aload_n (x := (some p0)) dX15_cuts_0 rfl 0 rfl ?_
  refine v_iload_n (x := p1) dX15_cuts_1 rfl 1 rfl ?_
  obtain ⟨hk_p0, hf⟩ := gt_of hf
  obtain ⟨x1, s2, hcs2, hf⟩ := bd_of hf
  have hts2 := c_X15_storySize (l := l) (D := D) (cy := cy) (ka := ka) hcs2
  refine v_callV cb_16 hk_p0 (As := [.int p1]) (rest := []) hts2 yb_X15_storySize kw_1786 kw_1788 kp_87 rfl ⟨Nat.le_of_ble_eq_true rfl, Nat.le_of_ble_eq_true rfl⟩ rfl (cat_len (Nat.le_of_ble_eq_true rfl)) dX15_cuts_2 ?_
  have hk_p0 := tk_ hts2.1 hk_p0
  show v_ l D cy ka cX15_cuts RX15 11 none "cuts" 41 938 (qf_ D cy σ z none) σ z _ 5 [(0, va_rf (some p0)), (1, .int p1), (2, .int p2), (3, .int p3)] [.int x1]
  refine v_istore [(4, .int x1), (0, va_rf (some p0)), (1, .int p1), (2, .int p2), (3, .int p3)] dX15_cuts_5 (by decide) rfl ?_
  refine v_iconst (v := 0) dX15_cuts_7 (by decide) ?_
  refine v_istore [(5, .int (0 : Int32)), (4, .int x1), (0, va_rf (some p0)), (1, .int p1), (2, .int p2), (3, .int p3)] dX15_cuts_8 (by decide) rfl ?_
  refine v_sub [2, 3, 4, 5, 1, 0] (L2 := [(0, va_rf (some p0)), (1, .int p1), (2, .int p2), (3, .int p3), (4, .int x1), (5, .int (0 : Int32))]) rfl ?_
  exact t_X15_cuts_b10  _ _ _ _ _ _ _ _ hf
theorem dX15_cut_0 : decode cX15_cut 0 = .ok (.aload_n 0, 1) := by decide +kernel
theorem dX15_cut_1 : decode cX15_cut 1 = .ok (.iconst 0, 1) := by decide +kernel
theorem dX15_cut_2 : decode cX15_cut 2 = .ok (.putfield 1, 3) := by decide +kernel
theorem dX15_cut_5 : decode cX15_cut 5 = .ok (.aload_n 0, 1) := by decide +kernel
theorem dX15_cut_6 : decode cX15_cut 6 = .ok (.iload_n 1, 1) := by decide +kernel
theorem dX15_cut_7 : decode cX15_cut 7 = .ok (.invokevirtual 227, 3) := by decide +kernel
theorem dX15_cut_10 : decode cX15_cut 10 = .ok (.ifCond .ne 9, 3) := by decide +kernel
theorem dX15_cut_13 : decode cX15_cut 13 = .ok (.aload_n 0, 1) := by decide +kernel
theorem dX15_cut_14 : decode cX15_cut 14 = .ok (.iconst 1, 1) := by decide +kernel
theorem dX15_cut_15 : decode cX15_cut 15 = .ok (.invokevirtual 201, 3) := by decide +kernel
theorem dX15_cut_18 : decode cX15_cut 18 = .ok (.ireturn, 1) := by decide +kernel
theorem dX15_cut_19 : decode cX15_cut 19 = .ok (.iload_n 2, 1) := by decide +kernel
theorem dX15_cut_20 : decode cX15_cut 20 = .ok (.iconst 0, 1) := by decide +kernel
theorem dX15_cut_21 : decode cX15_cut 21 = .ok (.sipush 4000, 3) := by decide +kernel
theorem dX15_cut_24 : decode cX15_cut 24 = .ok (.invokestatic 197, 3) := by decide +kernel
theorem dX15_cut_27 : decode cX15_cut 27 = .ok (.ifCond .ne 9, 3) := by decide +kernel
theorem dX15_cut_30 : decode cX15_cut 30 = .ok (.aload_n 0, 1) := by decide +kernel
theorem dX15_cut_31 : decode cX15_cut 31 = .ok (.iconst 2, 1) := by decide +kernel
theorem dX15_cut_32 : decode cX15_cut 32 = .ok (.invokevirtual 201, 3) := by decide +kernel
theorem dX15_cut_35 : decode cX15_cut 35 = .ok (.ireturn, 1) := by decide +kernel
theorem dX15_cut_36 : decode cX15_cut 36 = .ok (.aload_n 0, 1) := by decide +kernel
theorem dX15_cut_37 : decode cX15_cut 37 = .ok (.iload_n 1, 1) := by decide +kernel
theorem dX15_cut_38 : decode cX15_cut 38 = .ok (.iload_n 2, 1) := by decide +kernel
theorem dX15_cut_39 : decode cX15_cut 39 = .ok (.iload_n 3, 1) := by decide +kernel
theorem dX15_cut_40 : decode cX15_cut 40 = .ok (.invokevirtual 529, 3) := by decide +kernel
theorem dX15_cut_43 : decode cX15_cut 43 = .ok (.aload_n 0, 1) := by decide +kernel
theorem dX15_cut_44 : decode cX15_cut 44 = .ok (.aload_n 0, 1) := by decide +kernel
theorem dX15_cut_45 : decode cX15_cut 45 = .ok (.getfield 520, 3) := by decide +kernel
theorem dX15_cut_48 : decode cX15_cut 48 = .ok (.putfield 110, 3) := by decide +kernel
theorem dX15_cut_51 : decode cX15_cut 51 = .ok (.aload_n 0, 1) := by decide +kernel
theorem dX15_cut_52 : decode cX15_cut 52 = .ok (.aload_n 0, 1) := by decide +kernel
theorem dX15_cut_53 : decode cX15_cut 53 = .ok (.getfield 526, 3) := by decide +kernel
theorem dX15_cut_56 : decode cX15_cut 56 = .ok (.putfield 113, 3) := by decide +kernel
theorem dX15_cut_59 : decode cX15_cut 59 = .ok (.aload_n 0, 1) := by decide +kernel
theorem dX15_cut_60 : decode cX15_cut 60 = .ok (.aload_n 0, 1) := by decide +kernel
theorem dX15_cut_61 : decode cX15_cut 61 = .ok (.getfield 523, 3) := by decide +kernel
theorem dX15_cut_64 : decode cX15_cut 64 = .ok (.invokevirtual 205, 3) := by decide +kernel
theorem dX15_cut_67 : decode cX15_cut 67 = .ok (.ireturn, 1) := by decide +kernel
/-- LivesAheadModel.cut(IIZ)I -/
def f_X15_cut (σ : TH) (p0 : Nat) (p1 : Int32) (p2 : Int32) (p3 : Int32) : Option (Int32 × TH) :=
  gt_ (kd_ σ p0 = 17) <| lt_ (si_ σ 1600 p0 (0 : Int32)) fun s1 => bd_ (f_X15_isPerson s1 p0 p1) fun x2 s3 => if x2 = 0 then (bd_ (f_X15_refused s3 p0 (1 : Int32)) fun x4 s5 => some (x4, s5)) else (bd_ (f_X15_in s3 p2 (0 : Int32) (4000 : Int32)) fun x6 s7 => if x6 = 0 then (bd_ (f_X15_refused s7 p0 (2 : Int32)) fun x8 s9 => some (x8, s9)) else (bd_ (f_X15_cuts s7 p0 p1 p2 p3) fun x10 s11 => lt_ (fi_ s11 1653 p0) fun x12 => lt_ (si_ s11 1656 p0 x12) fun s13 => lt_ (fi_ s13 1655 p0) fun x14 => lt_ (si_ s13 1657 p0 x14) fun s15 => lt_ (fi_ s15 1654 p0) fun x16 => bd_ (f_X15_done s15 p0 x16) fun x17 s18 => some (x17, s18)))
set_option maxHeartbeats 4000000 in
set_option maxRecDepth 100000 in
theorem c_X15_cut {l : Launch} {D : va_G} {cy : Nat → ClassId} {ka : Nat → Nat} {σ z : TH} {p0 : Nat} {p1 : Int32} {p2 : Int32} {p3 : Int32} {r : Int32} (hf : f_X15_cut σ p0 p1 p2 p3 = some (r, z)) : ct_ l D cy ka yX15_cut 42 968 [va_rf (some p0), .int p1, .int p2, .int p3] σ (some (.int r)) z := by
  unfold f_X15_cut at hf
  refine v_start (cc := cX15_cut) (own := RX15) (maxL := 4) (ret := (some FieldType.int)) (nm := "cut") (by decide +kernel) kw_2093 rfl rfl (by simp [lg_sl, va_rf_cat, cat_i, cat_l]) ?_
  refine v_eqL (L2 := [(0, va_rf (some p0)), (1, .int p1), (2, .int p2), (3, .int p3)]) (by simp [lv_args, va_rf_cat, cat_i, cat_l]) ?_
  refine v_aload_n (x := (some p0)) dX15_cut_0 rfl 0 rfl ?_
  refine v_iconst (v := 0) dX15_cut_1 (by decide) ?_
  obtain ⟨hk_p0, hf⟩ := gt_of hf
  refine v_puti2 cb_16 hk_p0 0 1600 rfl (by decide) rfl (lk_n kw_1457 rfl) (Or.inl rfl) rfl rfl hf dX15_cut_2 (fun s1 hts1 hf => ?_)
  have hk_p0 := tk_ hts1 hk_p0
  refine v_aload_n (x := (some p0)) dX15_cut_5 rfl 0 rfl ?_
  refine v_iload_n (x := p1) dX15_cut_6 rfl 1 rfl ?_
  obtain ⟨x2, s3, hcs3, hf⟩ := bd_of hf
  have hts3 := c_X15_isPerson (l := l) (D := D) (cy := cy) (ka := ka) hcs3
  refine v_callV cb_16 hk_p0 (As := [.int p1]) (rest := []) hts3 yb_X15_isPerson kw_1770 kw_1772 kp_83 rfl ⟨Nat.le_of_ble_eq_true rfl, Nat.le_of_ble_eq_true rfl⟩ rfl (cat_len (Nat.le_of_ble_eq_true rfl)) dX15_cut_7 ?_
  have hk_p0 := tk_ hts3.1 hk_p0
  show v_ l D cy ka cX15_cut RX15 4 (some FieldType.int) "cut" 42 968 (qf_ D cy σ z (some (.int r))) σ z _ 10 [(0, va_rf (some p0)), (1, .int p1), (2, .int p2), (3, .int p3)] [.int x2]
  refine v_if_ne (tgt := 19) hf dX15_cut_10 (by decide) (fun hq hf => ?_) (fun hq hf => ?_)
  · refine v_aload_n (x := (some p0)) dX15_cut_13 rfl 0 rfl ?_
    refine v_iconst (v := 1) dX15_cut_14 (by decide) ?_
    obtain ⟨x4, s5, hcs5, hf⟩ := bd_of hf
    have hts5 := c_X15_refused (l := l) (D := D) (cy := cy) (ka := ka) hcs5
    refine v_callV cb_16 hk_p0 (As := [.int (1 : Int32)]) (rest := []) hts5 yb_X15_refused kw_1729 kw_1731 kp_77 rfl ⟨Nat.le_of_ble_eq_true rfl, Nat.le_of_ble_eq_true rfl⟩ rfl (cat_len (Nat.le_of_ble_eq_true rfl)) dX15_cut_15 ?_
    have hk_p0 := tk_ hts5.1 hk_p0
    show v_ l D cy ka cX15_cut RX15 4 (some FieldType.int) "cut" 42 968 (qf_ D cy σ z (some (.int r))) σ z _ 18 [(0, va_rf (some p0)), (1, .int p1), (2, .int p2), (3, .int p3)] [.int x4]
    exact v_iret hf dX15_cut_18
  · refine v_iload_n (x := p2) dX15_cut_19 rfl 2 rfl ?_
    refine v_iconst (v := 0) dX15_cut_20 (by decide) ?_
    refine v_sipush (v := 4000) dX15_cut_21 (by decide) ?_
    obtain ⟨x6, s7, hcs7, hf⟩ := bd_of hf
    have hts7 := c_X15_in (l := l) (D := D) (cy := cy) (ka := ka) hcs7
    refine v_callS (As := [.int p2, .int (0 : Int32), .int (4000 : Int32)]) (rest := []) hts7 yb_X15_in kw_1726 kw_1727 rfl ⟨Nat.le_of_ble_eq_true rfl, Nat.le_of_ble_eq_true rfl⟩ rfl (cat_len (Nat.le_of_ble_eq_true rfl)) dX15_cut_24 ?_
    have hk_p0 := tk_ hts7.1 hk_p0
    show v_ l D cy ka cX15_cut RX15 4 (some FieldType.int) "cut" 42 968 (qf_ D cy σ z (some (.int r))) σ z _ 27 [(0, va_rf (some p0)), (1, .int p1), (2, .int p2), (3, .int p3)] [.int x6]
    refine v_if_ne (tgt := 36) hf dX15_cut_27 (by decide) (fun hq hf => ?_) (fun hq hf => ?_)
    · refine v_aload_n (x := (some p0)) dX15_cut_30 rfl 0 rfl ?_
      refine v_iconst (v := 2) dX15_cut_31 (by decide) ?_
      obtain ⟨x8, s9, hcs9, hf⟩ := bd_of hf
      have hts9 := c_X15_refused (l := l) (D := D) (cy := cy) (ka := ka) hcs9
      refine v_callV cb_16 hk_p0 (As := [.int (2 : Int32)]) (rest := []) hts9 yb_X15_refused kw_1729 kw_1731 kp_77 rfl ⟨Nat.le_of_ble_eq_true rfl, Nat.le_of_ble_eq_true rfl⟩ rfl (cat_len (Nat.le_of_ble_eq_true rfl)) dX15_cut_32 ?_
      have hk_p0 := tk_ hts9.1 hk_p0
      show v_ l D cy ka cX15_cut RX15 4 (some FieldType.int) "cut" 42 968 (qf_ D cy σ z (some (.int r))) σ z _ 35 [(0, va_rf (some p0)), (1, .int p1), (2, .int p2), (3, .int p3)] [.int x8]
      exact v_iret hf dX15_cut_35
    · refine v_aload_n (x := (some p0)) dX15_cut_36 rfl 0 rfl ?_
      refine v_iload_n (x := p1) dX15_cut_37 rfl 1 rfl ?_
      refine v_iload_n (x := p2) dX15_cut_38 rfl 2 rfl ?_
      refine v_iload_n (x := p3) dX15_cut_39 rfl 3 rfl ?_
      obtain ⟨x10, s11, hcs11, hf⟩ := bd_of hf
      have hts11 := c_X15_cuts (l := l) (D := D) (cy := cy) (ka := ka) hcs11
      refine v_callV cb_16 hk_p0 (As := [.int p1, .int p2, .int p3]) (rest := []) hts11 yb_X15_cuts kw_2094 kw_2096 kp_128 rfl ⟨Nat.le_of_ble_eq_true rfl, Nat.le_of_ble_eq_true rfl⟩ rfl (cat_len (Nat.le_of_ble_eq_true rfl)) dX15_cut_40 ?_
      have hk_p0 := tk_ hts11.1 hk_p0
      show v_ l D cy ka cX15_cut RX15 4 (some FieldType.int) "cut" 42 968 (qf_ D cy σ z (some (.int r))) σ z _ 43 [(0, va_rf (some p0)), (1, .int p1), (2, .int p2), (3, .int p3)] []
      refine v_aload_n (x := (some p0)) dX15_cut_43 rfl 0 rfl ?_
      refine v_aload_n (x := (some p0)) dX15_cut_44 rfl 0 rfl ?_
      refine v_geti cb_16 hk_p0 53 1653 rfl (by decide) rfl (lk_n kw_1510 rfl) hf dX15_cut_45 (fun x12 hf => ?_)
      refine v_puti2 cb_16 hk_p0 56 1656 rfl (by decide) rfl (lk_n kw_1513 rfl) (Or.inl rfl) rfl rfl hf dX15_cut_48 (fun s13 hts13 hf => ?_)
      have hk_p0 := tk_ hts13 hk_p0
      refine v_aload_n (x := (some p0)) dX15_cut_51 rfl 0 rfl ?_
      refine v_aload_n (x := (some p0)) dX15_cut_52 rfl 0 rfl ?_
      refine v_geti cb_16 hk_p0 55 1655 rfl (by decide) rfl (lk_n kw_1512 rfl) hf dX15_cut_53 (fun x14 hf => ?_)
      refine v_puti2 cb_16 hk_p0 57 1657 rfl (by decide) rfl (lk_n kw_1514 rfl) (Or.inl rfl) rfl rfl hf dX15_cut_56 (fun s15 hts15 hf => ?_)
      have hk_p0 := tk_ hts15 hk_p0
      refine v_aload_n (x := (some p0)) dX15_cut_59 rfl 0 rfl ?_
      refine v_aload_n (x := (some p0)) dX15_cut_60 rfl 0 rfl ?_
      refine v_geti cb_16 hk_p0 54 1654 rfl (by decide) rfl (lk_n kw_1511 rfl) hf dX15_cut_61 (fun x16 hf => ?_)
      obtain ⟨x17, s18, hcs18, hf⟩ := bd_of hf
      have hts18 := c_X15_done (l := l) (D := D) (cy := cy) (ka := ka) hcs18
      refine v_callV cb_16 hk_p0 (As := [.int x16]) (rest := []) hts18 yb_X15_done kw_1733 kw_1735 kp_78 rfl ⟨Nat.le_of_ble_eq_true rfl, Nat.le_of_ble_eq_true rfl⟩ rfl (cat_len (Nat.le_of_ble_eq_true rfl)) dX15_cut_64 ?_
      have hk_p0 := tk_ hts18.1 hk_p0
      show v_ l D cy ka cX15_cut RX15 4 (some FieldType.int) "cut" 42 968 (qf_ D cy σ z (some (.int r))) σ z _ 67 [(0, va_rf (some p0)), (1, .int p1), (2, .int p2), (3, .int p3)] [.int x17]
      exact v_iret hf dX15_cut_67
theorem dX15_edition_0 : decode cX15_edition 0 = .ok (.aload_n 0, 1) := by decide +kernel
theorem dX15_edition_1 : decode cX15_edition 1 = .ok (.iconst 0, 1) := by decide +kernel
theorem dX15_edition_2 : decode cX15_edition 2 = .ok (.putfield 1, 3) := by decide +kernel
theorem dX15_edition_5 : decode cX15_edition 5 = .ok (.aload_n 0, 1) := by decide +kernel
theorem dX15_edition_6 : decode cX15_edition 6 = .ok (.iload_n 1, 1) := by decide +kernel
theorem dX15_edition_7 : decode cX15_edition 7 = .ok (.invokevirtual 227, 3) := by decide +kernel
theorem dX15_edition_10 : decode cX15_edition 10 = .ok (.ifCond .ne 9, 3) := by decide +kernel
theorem dX15_edition_13 : decode cX15_edition 13 = .ok (.aload_n 0, 1) := by decide +kernel
theorem dX15_edition_14 : decode cX15_edition 14 = .ok (.iconst 1, 1) := by decide +kernel
theorem dX15_edition_15 : decode cX15_edition 15 = .ok (.invokevirtual 201, 3) := by decide +kernel
theorem dX15_edition_18 : decode cX15_edition 18 = .ok (.ireturn, 1) := by decide +kernel
theorem dX15_edition_19 : decode cX15_edition 19 = .ok (.iload_n 2, 1) := by decide +kernel
theorem dX15_edition_20 : decode cX15_edition 20 = .ok (.iconst 1, 1) := by decide +kernel
theorem dX15_edition_21 : decode cX15_edition 21 = .ok (.sipush 4000, 3) := by decide +kernel
theorem dX15_edition_24 : decode cX15_edition 24 = .ok (.invokestatic 197, 3) := by decide +kernel
theorem dX15_edition_27 : decode cX15_edition 27 = .ok (.ifCond .ne 9, 3) := by decide +kernel
theorem dX15_edition_30 : decode cX15_edition 30 = .ok (.aload_n 0, 1) := by decide +kernel
theorem dX15_edition_31 : decode cX15_edition 31 = .ok (.iconst 2, 1) := by decide +kernel
theorem dX15_edition_32 : decode cX15_edition 32 = .ok (.invokevirtual 201, 3) := by decide +kernel
theorem dX15_edition_35 : decode cX15_edition 35 = .ok (.ireturn, 1) := by decide +kernel
theorem dX15_edition_36 : decode cX15_edition 36 = .ok (.aload_n 0, 1) := by decide +kernel
theorem dX15_edition_37 : decode cX15_edition 37 = .ok (.getfield 45, 3) := by decide +kernel
theorem dX15_edition_40 : decode cX15_edition 40 = .ok (.iload_n 1, 1) := by decide +kernel
theorem dX15_edition_41 : decode cX15_edition 41 = .ok (.baload, 1) := by decide +kernel
theorem dX15_edition_42 : decode cX15_edition 42 = .ok (.ifCond .eq 16, 3) := by decide +kernel
theorem dX15_edition_45 : decode cX15_edition 45 = .ok (.aload_n 0, 1) := by decide +kernel
theorem dX15_edition_46 : decode cX15_edition 46 = .ok (.getfield 188, 3) := by decide +kernel
theorem dX15_edition_49 : decode cX15_edition 49 = .ok (.aload_n 0, 1) := by decide +kernel
theorem dX15_edition_50 : decode cX15_edition 50 = .ok (.getfield 38, 3) := by decide +kernel
theorem dX15_edition_53 : decode cX15_edition 53 = .ok (.iload_n 1, 1) := by decide +kernel
theorem dX15_edition_54 : decode cX15_edition 54 = .ok (.iaload, 1) := by decide +kernel
theorem dX15_edition_55 : decode cX15_edition 55 = .ok (.if_icmp .ge 9, 3) := by decide +kernel
theorem dX15_edition_58 : decode cX15_edition 58 = .ok (.aload_n 0, 1) := by decide +kernel
theorem dX15_edition_59 : decode cX15_edition 59 = .ok (.iconst 5, 1) := by decide +kernel
theorem dX15_edition_60 : decode cX15_edition 60 = .ok (.invokevirtual 201, 3) := by decide +kernel
theorem dX15_edition_63 : decode cX15_edition 63 = .ok (.ireturn, 1) := by decide +kernel
theorem dX15_edition_64 : decode cX15_edition 64 = .ok (.aload_n 0, 1) := by decide +kernel
theorem dX15_edition_65 : decode cX15_edition 65 = .ok (.getfield 565, 3) := by decide +kernel
theorem dX15_edition_68 : decode cX15_edition 68 = .ok (.bipush 80, 2) := by decide +kernel
theorem dX15_edition_70 : decode cX15_edition 70 = .ok (.if_icmp .ne 9, 3) := by decide +kernel
theorem dX15_edition_73 : decode cX15_edition 73 = .ok (.aload_n 0, 1) := by decide +kernel
theorem dX15_edition_74 : decode cX15_edition 74 = .ok (.iconst 3, 1) := by decide +kernel
theorem dX15_edition_75 : decode cX15_edition 75 = .ok (.invokevirtual 201, 3) := by decide +kernel
theorem dX15_edition_78 : decode cX15_edition 78 = .ok (.ireturn, 1) := by decide +kernel
theorem dX15_edition_79 : decode cX15_edition 79 = .ok (.new 173, 3) := by decide +kernel
theorem dX15_edition_82 : decode cX15_edition 82 = .ok (.dup, 1) := by decide +kernel
theorem dX15_edition_83 : decode cX15_edition 83 = .ok (.invokespecial 568, 3) := by decide +kernel
theorem dX15_edition_86 : decode cX15_edition 86 = .ok (.astore 4, 2) := by decide +kernel
theorem dX15_edition_88 : decode cX15_edition 88 = .ok (.aload 4, 2) := by decide +kernel
theorem dX15_edition_90 : decode cX15_edition 90 = .ok (.iload_n 1, 1) := by decide +kernel
theorem dX15_edition_91 : decode cX15_edition 91 = .ok (.putfield 569, 3) := by decide +kernel
theorem dX15_edition_94 : decode cX15_edition 94 = .ok (.aload 4, 2) := by decide +kernel
theorem dX15_edition_96 : decode cX15_edition 96 = .ok (.aload_n 0, 1) := by decide +kernel
theorem dX15_edition_97 : decode cX15_edition 97 = .ok (.invokevirtual 230, 3) := by decide +kernel
theorem dX15_edition_100 : decode cX15_edition 100 = .ok (.putfield 570, 3) := by decide +kernel
theorem dX15_edition_103 : decode cX15_edition 103 = .ok (.iload_n 2, 1) := by decide +kernel
theorem dX15_edition_104 : decode cX15_edition 104 = .ok (.istore 5, 2) := by decide +kernel
theorem dX15_edition_106 : decode cX15_edition 106 = .ok (.aload 4, 2) := by decide +kernel
theorem dX15_edition_108 : decode cX15_edition 108 = .ok (.iload 5, 2) := by decide +kernel
theorem dX15_edition_110 : decode cX15_edition 110 = .ok (.sipush 200, 3) := by decide +kernel
theorem dX15_edition_113 : decode cX15_edition 113 = .ok (.if_icmp .lt 11, 3) := by decide +kernel
theorem dX15_edition_116 : decode cX15_edition 116 = .ok (.aload_n 0, 1) := by decide +kernel
theorem dX15_edition_117 : decode cX15_edition 117 = .ok (.iload_n 1, 1) := by decide +kernel
theorem dX15_edition_118 : decode cX15_edition 118 = .ok (.invokevirtual 571, 3) := by decide +kernel
theorem dX15_edition_121 : decode cX15_edition 121 = .ok (.goto 5, 3) := by decide +kernel
theorem dX15_edition_124 : decode cX15_edition 124 = .ok (.bipush (-2), 2) := by decide +kernel
theorem dX15_edition_126 : decode cX15_edition 126 = .ok (.putfield 574, 3) := by decide +kernel
theorem dX15_edition_129 : decode cX15_edition 129 = .ok (.aload 4, 2) := by decide +kernel
theorem dX15_edition_131 : decode cX15_edition 131 = .ok (.getfield 574, 3) := by decide +kernel
theorem dX15_edition_134 : decode cX15_edition 134 = .ok (.bipush (-2), 2) := by decide +kernel
theorem dX15_edition_136 : decode cX15_edition 136 = .ok (.if_icmp .eq 23, 3) := by decide +kernel
theorem dX15_edition_139 : decode cX15_edition 139 = .ok (.aload_n 0, 1) := by decide +kernel
theorem dX15_edition_140 : decode cX15_edition 140 = .ok (.getfield 158, 3) := by decide +kernel
theorem dX15_edition_143 : decode cX15_edition 143 = .ok (.aload 4, 2) := by decide +kernel
theorem dX15_edition_145 : decode cX15_edition 145 = .ok (.getfield 574, 3) := by decide +kernel
theorem dX15_edition_148 : decode cX15_edition 148 = .ok (.dup2, 1) := by decide +kernel
theorem dX15_edition_149 : decode cX15_edition 149 = .ok (.iaload, 1) := by decide +kernel
theorem dX15_edition_150 : decode cX15_edition 150 = .ok (.iconst 1, 1) := by decide +kernel
theorem dX15_edition_151 : decode cX15_edition 151 = .ok (.iadd, 1) := by decide +kernel
theorem dX15_edition_152 : decode cX15_edition 152 = .ok (.iastore, 1) := by decide +kernel
theorem dX15_edition_153 : decode cX15_edition 153 = .ok (.iinc 5 (-200), 6) := by decide +kernel
theorem dX15_edition_159 : decode cX15_edition 159 = .ok (.iconst 1, 1) := by decide +kernel
theorem dX15_edition_160 : decode cX15_edition 160 = .ok (.istore 6, 2) := by decide +kernel
theorem dX15_edition_162 : decode cX15_edition 162 = .ok (.iconst 0, 1) := by decide +kernel
theorem dX15_edition_163 : decode cX15_edition 163 = .ok (.istore 7, 2) := by decide +kernel
theorem dX15_edition_165 : decode cX15_edition 165 = .ok (.iload 7, 2) := by decide +kernel
theorem dX15_edition_167 : decode cX15_edition 167 = .ok (.aload_n 0, 1) := by decide +kernel
theorem dX15_edition_168 : decode cX15_edition 168 = .ok (.getfield 562, 3) := by decide +kernel
theorem dX15_edition_171 : decode cX15_edition 171 = .ok (.if_icmp .ge 88, 3) := by decide +kernel
theorem dX15_edition_174 : decode cX15_edition 174 = .ok (.iload 6, 2) := by decide +kernel
theorem dX15_edition_176 : decode cX15_edition 176 = .ok (.ifCond .eq 77, 3) := by decide +kernel
theorem dX15_edition_179 : decode cX15_edition 179 = .ok (.aload_n 0, 1) := by decide +kernel
theorem dX15_edition_180 : decode cX15_edition 180 = .ok (.getfield 161, 3) := by decide +kernel
theorem dX15_edition_183 : decode cX15_edition 183 = .ok (.iload 7, 2) := by decide +kernel
theorem dX15_edition_185 : decode cX15_edition 185 = .ok (.iaload, 1) := by decide +kernel
theorem dX15_edition_186 : decode cX15_edition 186 = .ok (.iload_n 1, 1) := by decide +kernel
theorem dX15_edition_187 : decode cX15_edition 187 = .ok (.if_icmp .ne 66, 3) := by decide +kernel
theorem dX15_edition_190 : decode cX15_edition 190 = .ok (.aload_n 0, 1) := by decide +kernel
theorem dX15_edition_191 : decode cX15_edition 191 = .ok (.getfield 170, 3) := by decide +kernel
theorem dX15_edition_194 : decode cX15_edition 194 = .ok (.iload 7, 2) := by decide +kernel
theorem dX15_edition_196 : decode cX15_edition 196 = .ok (.baload, 1) := by decide +kernel
theorem dX15_edition_197 : decode cX15_edition 197 = .ok (.ifCond .ne 6, 3) := by decide +kernel
theorem dX15_edition_200 : decode cX15_edition 200 = .ok (.goto 53, 3) := by decide +kernel
theorem dX15_edition_203 : decode cX15_edition 203 = .ok (.aload_n 0, 1) := by decide +kernel
theorem dX15_edition_204 : decode cX15_edition 204 = .ok (.getfield 167, 3) := by decide +kernel
theorem dX15_edition_207 : decode cX15_edition 207 = .ok (.iload 7, 2) := by decide +kernel
theorem dX15_edition_209 : decode cX15_edition 209 = .ok (.iaload, 1) := by decide +kernel
theorem dX15_edition_210 : decode cX15_edition 210 = .ok (.iload 5, 2) := by decide +kernel
theorem dX15_edition_212 : decode cX15_edition 212 = .ok (.if_icmp .gt 7, 3) := by decide +kernel
theorem dX15_edition_215 : decode cX15_edition 215 = .ok (.iconst 1, 1) := by decide +kernel
theorem dX15_edition_216 : decode cX15_edition 216 = .ok (.goto 4, 3) := by decide +kernel
theorem dX15_edition_219 : decode cX15_edition 219 = .ok (.iconst 0, 1) := by decide +kernel
theorem dX15_edition_220 : decode cX15_edition 220 = .ok (.istore 6, 2) := by decide +kernel
theorem dX15_edition_222 : decode cX15_edition 222 = .ok (.iload 6, 2) := by decide +kernel
theorem dX15_edition_224 : decode cX15_edition 224 = .ok (.ifCond .ne 6, 3) := by decide +kernel
theorem dX15_edition_227 : decode cX15_edition 227 = .ok (.goto 26, 3) := by decide +kernel
theorem dX15_edition_230 : decode cX15_edition 230 = .ok (.iload 5, 2) := by decide +kernel
theorem dX15_edition_232 : decode cX15_edition 232 = .ok (.aload_n 0, 1) := by decide +kernel
theorem dX15_edition_233 : decode cX15_edition 233 = .ok (.getfield 167, 3) := by decide +kernel
theorem dX15_edition_236 : decode cX15_edition 236 = .ok (.iload 7, 2) := by decide +kernel
theorem dX15_edition_238 : decode cX15_edition 238 = .ok (.iaload, 1) := by decide +kernel
theorem dX15_edition_239 : decode cX15_edition 239 = .ok (.isub, 1) := by decide +kernel
theorem dX15_edition_240 : decode cX15_edition 240 = .ok (.istore 5, 2) := by decide +kernel
theorem dX15_edition_242 : decode cX15_edition 242 = .ok (.aload 4, 2) := by decide +kernel
theorem dX15_edition_244 : decode cX15_edition 244 = .ok (.dup, 1) := by decide +kernel
theorem dX15_edition_245 : decode cX15_edition 245 = .ok (.getfield 577, 3) := by decide +kernel
theorem dX15_edition_248 : decode cX15_edition 248 = .ok (.iconst 1, 1) := by decide +kernel
theorem dX15_edition_249 : decode cX15_edition 249 = .ok (.iadd, 1) := by decide +kernel
theorem dX15_edition_250 : decode cX15_edition 250 = .ok (.putfield 577, 3) := by decide +kernel
theorem dX15_edition_253 : decode cX15_edition 253 = .ok (.iinc 7 1, 3) := by decide +kernel
theorem dX15_edition_256 : decode cX15_edition 256 = .ok (.goto (-91), 3) := by decide +kernel
theorem dX15_edition_259 : decode cX15_edition 259 = .ok (.aload_n 0, 1) := by decide +kernel
theorem dX15_edition_260 : decode cX15_edition 260 = .ok (.iload_n 1, 1) := by decide +kernel
theorem dX15_edition_261 : decode cX15_edition 261 = .ok (.iload 5, 2) := by decide +kernel
theorem dX15_edition_263 : decode cX15_edition 263 = .ok (.iload_n 3, 1) := by decide +kernel
theorem dX15_edition_264 : decode cX15_edition 264 = .ok (.invokevirtual 529, 3) := by decide +kernel
theorem dX15_edition_267 : decode cX15_edition 267 = .ok (.aload 4, 2) := by decide +kernel
theorem dX15_edition_269 : decode cX15_edition 269 = .ok (.aload_n 0, 1) := by decide +kernel
theorem dX15_edition_270 : decode cX15_edition 270 = .ok (.getfield 520, 3) := by decide +kernel
theorem dX15_edition_273 : decode cX15_edition 273 = .ok (.putfield 578, 3) := by decide +kernel
theorem dX15_edition_276 : decode cX15_edition 276 = .ok (.aload 4, 2) := by decide +kernel
theorem dX15_edition_278 : decode cX15_edition 278 = .ok (.iload_n 2, 1) := by decide +kernel
theorem dX15_edition_279 : decode cX15_edition 279 = .ok (.iload 5, 2) := by decide +kernel
theorem dX15_edition_281 : decode cX15_edition 281 = .ok (.isub, 1) := by decide +kernel
theorem dX15_edition_282 : decode cX15_edition 282 = .ok (.aload_n 0, 1) := by decide +kernel
theorem dX15_edition_283 : decode cX15_edition 283 = .ok (.getfield 526, 3) := by decide +kernel
theorem dX15_edition_286 : decode cX15_edition 286 = .ok (.iadd, 1) := by decide +kernel
theorem dX15_edition_287 : decode cX15_edition 287 = .ok (.putfield 581, 3) := by decide +kernel
theorem dX15_edition_290 : decode cX15_edition 290 = .ok (.iconst 0, 1) := by decide +kernel
theorem dX15_edition_291 : decode cX15_edition 291 = .ok (.istore 7, 2) := by decide +kernel
theorem dX15_edition_293 : decode cX15_edition 293 = .ok (.iconst 0, 1) := by decide +kernel
theorem dX15_edition_294 : decode cX15_edition 294 = .ok (.istore 8, 2) := by decide +kernel
theorem dX15_edition_296 : decode cX15_edition 296 = .ok (.iload 8, 2) := by decide +kernel
theorem dX15_edition_298 : decode cX15_edition 298 = .ok (.aload_n 0, 1) := by decide +kernel
theorem dX15_edition_299 : decode cX15_edition 299 = .ok (.iload_n 1, 1) := by decide +kernel
theorem dX15_edition_300 : decode cX15_edition 300 = .ok (.invokevirtual 238, 3) := by decide +kernel
theorem dX15_edition_303 : decode cX15_edition 303 = .ok (.if_icmp .ge 41, 3) := by decide +kernel
theorem dX15_edition_306 : decode cX15_edition 306 = .ok (.iload 7, 2) := by decide +kernel
theorem dX15_edition_308 : decode cX15_edition 308 = .ok (.aload_n 0, 1) := by decide +kernel
theorem dX15_edition_309 : decode cX15_edition 309 = .ok (.getfield 520, 3) := by decide +kernel
theorem dX15_edition_312 : decode cX15_edition 312 = .ok (.iload 8, 2) := by decide +kernel
theorem dX15_edition_314 : decode cX15_edition 314 = .ok (.ishr, 1) := by decide +kernel
theorem dX15_edition_315 : decode cX15_edition 315 = .ok (.iconst 1, 1) := by decide +kernel
theorem dX15_edition_316 : decode cX15_edition 316 = .ok (.iand, 1) := by decide +kernel
theorem dX15_edition_317 : decode cX15_edition 317 = .ok (.iconst 1, 1) := by decide +kernel
theorem dX15_edition_318 : decode cX15_edition 318 = .ok (.if_icmp .ne 16, 3) := by decide +kernel
theorem dX15_edition_321 : decode cX15_edition 321 = .ok (.aload_n 0, 1) := by decide +kernel
theorem dX15_edition_322 : decode cX15_edition 322 = .ok (.iload_n 1, 1) := by decide +kernel
theorem dX15_edition_323 : decode cX15_edition 323 = .ok (.iload 8, 2) := by decide +kernel
theorem dX15_edition_325 : decode cX15_edition 325 = .ok (.invokevirtual 506, 3) := by decide +kernel
theorem dX15_edition_328 : decode cX15_edition 328 = .ok (.getfield 486, 3) := by decide +kernel
theorem dX15_edition_331 : decode cX15_edition 331 = .ok (.goto 4, 3) := by decide +kernel
theorem dX15_edition_334 : decode cX15_edition 334 = .ok (.iconst 0, 1) := by decide +kernel
theorem dX15_edition_335 : decode cX15_edition 335 = .ok (.ior, 1) := by decide +kernel
theorem dX15_edition_336 : decode cX15_edition 336 = .ok (.istore 7, 2) := by decide +kernel
theorem dX15_edition_338 : decode cX15_edition 338 = .ok (.iinc 8 1, 3) := by decide +kernel
theorem dX15_edition_341 : decode cX15_edition 341 = .ok (.goto (-45), 3) := by decide +kernel
theorem dX15_edition_344 : decode cX15_edition 344 = .ok (.iconst 0, 1) := by decide +kernel
theorem dX15_edition_345 : decode cX15_edition 345 = .ok (.istore 8, 2) := by decide +kernel
theorem dX15_edition_347 : decode cX15_edition 347 = .ok (.iload 8, 2) := by decide +kernel
theorem dX15_edition_349 : decode cX15_edition 349 = .ok (.bipush 10, 2) := by decide +kernel
theorem dX15_edition_351 : decode cX15_edition 351 = .ok (.if_icmp .ge 71, 3) := by decide +kernel
theorem dX15_edition_354 : decode cX15_edition 354 = .ok (.aload_n 0, 1) := by decide +kernel
theorem dX15_edition_355 : decode cX15_edition 355 = .ok (.iload_n 1, 1) := by decide +kernel
theorem dX15_edition_356 : decode cX15_edition 356 = .ok (.iload 8, 2) := by decide +kernel
theorem dX15_edition_358 : decode cX15_edition 358 = .ok (.aload 4, 2) := by decide +kernel
theorem dX15_edition_360 : decode cX15_edition 360 = .ok (.getfield 570, 3) := by decide +kernel
theorem dX15_edition_363 : decode cX15_edition 363 = .ok (.invokevirtual 408, 3) := by decide +kernel
theorem dX15_edition_366 : decode cX15_edition 366 = .ok (.istore 9, 2) := by decide +kernel
theorem dX15_edition_368 : decode cX15_edition 368 = .ok (.iload 7, 2) := by decide +kernel
theorem dX15_edition_370 : decode cX15_edition 370 = .ok (.iload 8, 2) := by decide +kernel
theorem dX15_edition_372 : decode cX15_edition 372 = .ok (.ishr, 1) := by decide +kernel
theorem dX15_edition_373 : decode cX15_edition 373 = .ok (.iconst 1, 1) := by decide +kernel
theorem dX15_edition_374 : decode cX15_edition 374 = .ok (.iand, 1) := by decide +kernel
theorem dX15_edition_375 : decode cX15_edition 375 = .ok (.ifCond .eq 41, 3) := by decide +kernel
theorem dX15_edition_378 : decode cX15_edition 378 = .ok (.iload 9, 2) := by decide +kernel
theorem dX15_edition_380 : decode cX15_edition 380 = .ok (.iconst (-1), 1) := by decide +kernel
theorem dX15_edition_381 : decode cX15_edition 381 = .ok (.if_icmp .ne 6, 3) := by decide +kernel
theorem dX15_edition_384 : decode cX15_edition 384 = .ok (.goto 32, 3) := by decide +kernel
theorem dX15_edition_387 : decode cX15_edition 387 = .ok (.aload 4, 2) := by decide +kernel
theorem dX15_edition_389 : decode cX15_edition 389 = .ok (.dup, 1) := by decide +kernel
theorem dX15_edition_390 : decode cX15_edition 390 = .ok (.getfield 583, 3) := by decide +kernel
theorem dX15_edition_393 : decode cX15_edition 393 = .ok (.iconst 1, 1) := by decide +kernel
theorem dX15_edition_394 : decode cX15_edition 394 = .ok (.iload 8, 2) := by decide +kernel
theorem dX15_edition_396 : decode cX15_edition 396 = .ok (.ishl, 1) := by decide +kernel
theorem dX15_edition_397 : decode cX15_edition 397 = .ok (.ior, 1) := by decide +kernel
theorem dX15_edition_398 : decode cX15_edition 398 = .ok (.putfield 583, 3) := by decide +kernel
theorem dX15_edition_401 : decode cX15_edition 401 = .ok (.aload 4, 2) := by decide +kernel
theorem dX15_edition_403 : decode cX15_edition 403 = .ok (.getfield 584, 3) := by decide +kernel
theorem dX15_edition_406 : decode cX15_edition 406 = .ok (.iload 8, 2) := by decide +kernel
theorem dX15_edition_408 : decode cX15_edition 408 = .ok (.aload_n 0, 1) := by decide +kernel
theorem dX15_edition_409 : decode cX15_edition 409 = .ok (.getfield 63, 3) := by decide +kernel
theorem dX15_edition_412 : decode cX15_edition 412 = .ok (.iload 9, 2) := by decide +kernel
theorem dX15_edition_414 : decode cX15_edition 414 = .ok (.iaload, 1) := by decide +kernel
theorem dX15_edition_415 : decode cX15_edition 415 = .ok (.iastore, 1) := by decide +kernel
theorem dX15_edition_416 : decode cX15_edition 416 = .ok (.iinc 8 1, 3) := by decide +kernel
theorem dX15_edition_419 : decode cX15_edition 419 = .ok (.goto (-72), 3) := by decide +kernel
theorem dX15_edition_422 : decode cX15_edition 422 = .ok (.aload_n 0, 1) := by decide +kernel
theorem dX15_edition_423 : decode cX15_edition 423 = .ok (.getfield 175, 3) := by decide +kernel
theorem dX15_edition_426 : decode cX15_edition 426 = .ok (.aload_n 0, 1) := by decide +kernel
theorem dX15_edition_427 : decode cX15_edition 427 = .ok (.getfield 565, 3) := by decide +kernel
theorem dX15_edition_430 : decode cX15_edition 430 = .ok (.aload 4, 2) := by decide +kernel
theorem dX15_edition_432 : decode cX15_edition 432 = .ok (.aastore, 1) := by decide +kernel
theorem dX15_edition_433 : decode cX15_edition 433 = .ok (.aload_n 0, 1) := by decide +kernel
theorem dX15_edition_434 : decode cX15_edition 434 = .ok (.dup, 1) := by decide +kernel
theorem dX15_edition_435 : decode cX15_edition 435 = .ok (.getfield 565, 3) := by decide +kernel
theorem dX15_edition_438 : decode cX15_edition 438 = .ok (.iconst 1, 1) := by decide +kernel
theorem dX15_edition_439 : decode cX15_edition 439 = .ok (.iadd, 1) := by decide +kernel
theorem dX15_edition_440 : decode cX15_edition 440 = .ok (.putfield 565, 3) := by decide +kernel
theorem dX15_edition_443 : decode cX15_edition 443 = .ok (.aload_n 0, 1) := by decide +kernel
theorem dX15_edition_444 : decode cX15_edition 444 = .ok (.aload_n 0, 1) := by decide +kernel
theorem dX15_edition_445 : decode cX15_edition 445 = .ok (.getfield 565, 3) := by decide +kernel
theorem dX15_edition_448 : decode cX15_edition 448 = .ok (.iconst 1, 1) := by decide +kernel
theorem dX15_edition_449 : decode cX15_edition 449 = .ok (.isub, 1) := by decide +kernel
theorem dX15_edition_450 : decode cX15_edition 450 = .ok (.invokevirtual 205, 3) := by decide +kernel
theorem dX15_edition_453 : decode cX15_edition 453 = .ok (.ireturn, 1) := by decide +kernel
def f_X15_edition_b58 (σ : TH) (l0 : Nat) : Option (Int32 × TH) :=
  gt_ (kd_ σ l0 = 17) <| bd_ (f_X15_refused σ l0 (5 : Int32)) fun x13 s14 => some (x13, s14)
set_option maxHeartbeats 4000000 in
set_option maxRecDepth 100000 in
theorem t_X15_edition_b58 {l : Launch} {D : va_G} {cy : Nat → ClassId} {ka : Nat → Nat} {σ0 z : TH} {r : Int32}  {σ : TH} {l0 : Nat} (hf : f_X15_edition_b58 σ l0 = some (r, z)) : v_ l D cy ka cX15_edition RX15 10 (some FieldType.int) "edition" 42 968 (qf_ D cy σ0 z (some (.int r))) σ0 z σ 58 [(0, va_rf (some l0))] [] := by
  unfold f_X15_edition_b58 at hf
  refine v_aload_n (x := (some l0)) dX15_edition_58 rfl 0 rfl ?_
  refine v_iconst (v := 5) dX15_edition_59 (by decide) ?_
  obtain ⟨hk_l0, hf⟩ := gt_of hf
  obtain ⟨x13, s14, hcs14, hf⟩ := bd_of hf
  have hts14 := c_X15_refused (l := l) (D := D) (cy := cy) (ka := ka) hcs14
  refine v_callV cb_16 hk_l0 (As := [.int (5 : Int32)]) (rest := []) hts14 yb_X15_refused kw_1729 kw_1731 kp_77 rfl ⟨Nat.le_of_ble_eq_true rfl, Nat.le_of_ble_eq_true rfl⟩ rfl (cat_len (Nat.le_of_ble_eq_true rfl)) dX15_edition_60 ?_
  have hk_l0 := tk_ hts14.1 hk_l0
  show v_ l D cy ka cX15_edition RX15 10 (some FieldType.int) "edition" 42 968 (qf_ D cy σ0 z (some (.int r))) σ0 z _ 63 [(0, va_rf (some l0))] [.int x13]
  exact v_iret hf dX15_edition_63
def f_X15_edition_b416 (rec_347 : TH → Nat → Int32 → Option Nat → Int32 → Int32 → Option (Int32 × TH)) (σ : TH) (l0 : Nat) (l1 : Int32) (l4 : Option Nat) (l7 : Int32) (l8 : Int32) : Option (Int32 × TH) :=
  lt_ (l8 + 1) fun x58 => rec_347 σ l0 l1 l4 l7 x58
set_option maxHeartbeats 4000000 in
set_option maxRecDepth 100000 in
theorem t_X15_edition_b416 {l : Launch} {D : va_G} {cy : Nat → ClassId} {ka : Nat → Nat} {σ0 z : TH} {r : Int32} {rec_347 : TH → Nat → Int32 → Option Nat → Int32 → Int32 → Option (Int32 × TH)} (hrec_347 : ∀ (σ : TH) (l0 : Nat) (l1 : Int32) (l4 : Option Nat) (l7 : Int32) (l8 : Int32), rec_347 σ l0 l1 l4 l7 l8 = some (r, z) → v_ l D cy ka cX15_edition RX15 10 (some FieldType.int) "edition" 42 968 (qf_ D cy σ0 z (some (.int r))) σ0 z σ 347 [(0, va_rf (some l0)), (1, .int l1), (4, va_rf l4), (7, .int l7), (8, .int l8)] []) {σ : TH} {l0 : Nat} {l1 : Int32} {l4 : Option Nat} {l7 : Int32} {l8 : Int32} (hf : f_X15_edition_b416 rec_347 σ l0 l1 l4 l7 l8 = some (r, z)) : v_ l D cy ka cX15_edition RX15 10 (some FieldType.int) "edition" 42 968 (qf_ D cy σ0 z (some (.int r))) σ0 z σ 416 [(0, va_rf (some l0)), (1, .int l1), (4, va_rf l4), (7, .int l7), (8, .int l8)] [] := by
  unfold f_X15_edition_b416 at hf
  obtain ⟨x58, ex58⟩ : ∃ y : Int32, y = l8 + 1 := ⟨_, rfl⟩
  rw [lt_e, ← ex58] at hf
  refine v_iinc (v := x58) [(8, .int x58), (0, va_rf (some l0)), (1, .int l1), (4, va_rf l4), (7, .int l7)] dX15_edition_416 4 rfl (by rw [ex58]; rfl) (by decide) rfl ?_
  refine v_goto (tgt := 347) dX15_edition_419 (by decide) ?_
  refine v_sub [1, 2, 3, 4, 0] (L2 := [(0, va_rf (some l0)), (1, .int l1), (4, va_rf l4), (7, .int l7), (8, .int x58)]) rfl ?_
  exact hrec_347 _ _ _ _ _ _ hf
def f_X15_edition_b347 : Nat → TH → Nat → Int32 → Option Nat → Int32 → Int32 → Option (Int32 × TH)
  | 0, _, _, _, _, _, _ => none
  | n + 1, σ, l0, l1, l4, l7, l8 => if (10 : Int32) ≤ l8 then (gt_ (kd_ σ l0 = 17) <| lt_ (fr_ σ 1682 l0) fun r44 => lt_ (fi_ σ 1671 l0) fun x45 => nn_ r44 fun a46 => gt_ (kd_ σ a46 = 28) <| nn_ l4 fun a47 => gt_ (kd_ σ a47 = 14) <| gt_ (¬ (x45 < 0 ∨ ln_ σ a46 ≤ x45.toNatClampNeg)) <| lt_ (sq_ σ a46 x45.toNatClampNeg (some a47)) fun s48 => lt_ (fi_ s48 1671 l0) fun x49 => lt_ (si_ s48 1671 l0 (x49 + (1 : Int32))) fun s50 => lt_ (fi_ s50 1671 l0) fun x51 => bd_ (f_X15_done s50 l0 (x51 - (1 : Int32))) fun x52 s53 => some (x52, s53)) else (nn_ l4 fun a54 => gt_ (kd_ σ a54 = 14) <| lt_ (fi_ σ 1301 a54) fun x55 => gt_ (kd_ σ l0 = 17) <| bd_ (f_X15_openOn σ l0 l1 l8 x55) fun x56 s57 => if ((l7 >>> (l8 &&& 31)) &&& (1 : Int32)) = 0 then (f_X15_edition_b416 (f_X15_edition_b347 n) s57 l0 l1 (some a54) l7 l8) else (if x56 = (-1 : Int32) then (f_X15_edition_b416 (f_X15_edition_b347 n) s57 l0 l1 (some a54) l7 l8) else (lt_ (fi_ s57 1306 a54) fun x59 => lt_ (si_ s57 1306 a54 (x59 ||| ((1 : Int32) <<< (l8 &&& 31)))) fun s60 => lt_ (fr_ s60 1309 a54) fun r61 => lt_ (fr_ s60 1622 l0) fun r62 => nn_ r62 fun a63 => gt_ (kd_ s60 a63 = 20) <| gt_ (¬ (x56 < 0 ∨ ln_ s60 a63 ≤ x56.toNatClampNeg)) <| lt_ (ai_ s60 a63 x56.toNatClampNeg) fun x64 => nn_ r61 fun a65 => gt_ (kd_ s60 a65 = 20) <| gt_ (¬ (l8 < 0 ∨ ln_ s60 a65 ≤ l8.toNatClampNeg)) <| lt_ (sa_ s60 a65 l8.toNatClampNeg x64) fun s66 => f_X15_edition_b416 (f_X15_edition_b347 n) s66 l0 l1 (some a54) l7 l8)))
set_option maxHeartbeats 4000000 in
set_option maxRecDepth 100000 in
theorem t_X15_edition_b347 {l : Launch} {D : va_G} {cy : Nat → ClassId} {ka : Nat → Nat} {σ0 z : TH} {r : Int32}  : ∀ (n : Nat) (σ : TH) (l0 : Nat) (l1 : Int32) (l4 : Option Nat) (l7 : Int32) (l8 : Int32), f_X15_edition_b347 n σ l0 l1 l4 l7 l8 = some (r, z) → v_ l D cy ka cX15_edition RX15 10 (some FieldType.int) "edition" 42 968 (qf_ D cy σ0 z (some (.int r))) σ0 z σ 347 [(0, va_rf (some l0)), (1, .int l1), (4, va_rf l4), (7, .int l7), (8, .int l8)] [] := by
  intro n
  induction n with
  | zero => intro σ l0 l1 l4 l7 l8 hf; unfold f_X15_edition_b347 at hf; cases hf
  | succ n ih =>
    intro σ l0 l1 l4 l7 l8 hf
    unfold f_X15_edition_b347 at hf
    have hrec_347 := ih
    refine v_iload (x := l8) dX15_edition_347 4 rfl ?_
    refine v_bipush (v := 10) dX15_edition_349 (by decide) ?_
    refine v_icmp_ge (tgt := 422) hf dX15_edition_351 (by decide) (fun hq hf => ?_) (fun hq hf => ?_)
    · refine v_aload_n (x := (some l0)) dX15_edition_422 rfl 0 rfl ?_
      obtain ⟨hk_l0, hf⟩ := gt_of hf
      refine v_getr cb_16 hk_l0 82 1682 rfl (by decide) rfl (lk_n kw_1539 rfl) hf dX15_edition_423 (fun r44 hf => ?_)
      refine v_aload_n (x := (some l0)) dX15_edition_426 rfl 0 rfl ?_
      refine v_geti cb_16 hk_l0 71 1671 rfl (by decide) rfl (lk_n kw_1528 rfl) hf dX15_edition_427 (fun x45 hf => ?_)
      refine v_aload (x := l4) dX15_edition_430 2 rfl ?_
      obtain ⟨a46, rfl, hf⟩ := nn_of hf
      obtain ⟨hk_a46, hf⟩ := gt_of hf
      obtain ⟨a47, rfl, hf⟩ := nn_of hf
      obtain ⟨hk_a47, hf⟩ := gt_of hf
      refine v_aast2 cb_13 hk_a47 27 8 RX12 hk_a46 (by decide) rfl (Or.inl rfl) hf dX15_edition_432 (fun s48 hts48 hf => ?_)
      have hk_l0 := tk_ hts48 hk_l0
      have hk_a47 := tk_ hts48 hk_a47
      refine v_aload_n (x := (some l0)) dX15_edition_433 rfl 0 rfl ?_
      refine v_dup dX15_edition_434 (va_rf_cat _) ?_
      refine v_geti cb_16 hk_l0 71 1671 rfl (by decide) rfl (lk_n kw_1528 rfl) hf dX15_edition_435 (fun x49 hf => ?_)
      refine v_iconst (v := 1) dX15_edition_438 (by decide) ?_
      refine v_iadd dX15_edition_439 ?_
      refine v_puti2 cb_16 hk_l0 71 1671 rfl (by decide) rfl (lk_n kw_1528 rfl) (Or.inl rfl) rfl rfl hf dX15_edition_440 (fun s50 hts50 hf => ?_)
      have hk_l0 := tk_ hts50 hk_l0
      have hk_a47 := tk_ hts50 hk_a47
      refine v_aload_n (x := (some l0)) dX15_edition_443 rfl 0 rfl ?_
      refine v_aload_n (x := (some l0)) dX15_edition_444 rfl 0 rfl ?_
      refine v_geti cb_16 hk_l0 71 1671 rfl (by decide) rfl (lk_n kw_1528 rfl) hf dX15_edition_445 (fun x51 hf => ?_)
      refine v_iconst (v := 1) dX15_edition_448 (by decide) ?_
      refine v_isub dX15_edition_449 ?_
      obtain ⟨x52, s53, hcs53, hf⟩ := bd_of hf
      have hts53 := c_X15_done (l := l) (D := D) (cy := cy) (ka := ka) hcs53
      refine v_callV cb_16 hk_l0 (As := [.int (x51 - (1 : Int32))]) (rest := []) hts53 yb_X15_done kw_1733 kw_1735 kp_78 rfl ⟨Nat.le_of_ble_eq_true rfl, Nat.le_of_ble_eq_true rfl⟩ rfl (cat_len (Nat.le_of_ble_eq_true rfl)) dX15_edition_450 ?_
      have hk_l0 := tk_ hts53.1 hk_l0
      have hk_a47 := tk_ hts53.1 hk_a47
      show v_ l D cy ka cX15_edition RX15 10 (some FieldType.int) "edition" 42 968 (qf_ D cy σ0 z (some (.int r))) σ0 z _ 453 [(0, va_rf (some l0)), (1, .int l1), (4, va_rf (some a47)), (7, .int l7), (8, .int l8)] [.int x52]
      exact v_iret hf dX15_edition_453
    · refine v_aload_n (x := (some l0)) dX15_edition_354 rfl 0 rfl ?_
      refine v_iload_n (x := l1) dX15_edition_355 rfl 1 rfl ?_
      refine v_iload (x := l8) dX15_edition_356 4 rfl ?_
      refine v_aload (x := l4) dX15_edition_358 2 rfl ?_
      obtain ⟨a54, rfl, hf⟩ := nn_of hf
      obtain ⟨hk_a54, hf⟩ := gt_of hf
      refine v_geti cb_13 hk_a54 1 1301 rfl (by decide) rfl (lk_N kw_2176 rfl) hf dX15_edition_360 (fun x55 hf => ?_)
      obtain ⟨hk_l0, hf⟩ := gt_of hf
      obtain ⟨x56, s57, hcs57, hf⟩ := bd_of hf
      have hts57 := c_X15_openOn (l := l) (D := D) (cy := cy) (ka := ka) hcs57
      refine v_callV cb_16 hk_l0 (As := [.int l1, .int l8, .int x55]) (rest := []) hts57 yb_X15_openOn kw_1994 kw_1996 kp_117 rfl ⟨Nat.le_of_ble_eq_true rfl, Nat.le_of_ble_eq_true rfl⟩ rfl (cat_len (Nat.le_of_ble_eq_true rfl)) dX15_edition_363 ?_
      have hk_a54 := tk_ hts57.1 hk_a54
      have hk_l0 := tk_ hts57.1 hk_l0
      show v_ l D cy ka cX15_edition RX15 10 (some FieldType.int) "edition" 42 968 (qf_ D cy σ0 z (some (.int r))) σ0 z _ 366 [(0, va_rf (some l0)), (1, .int l1), (4, va_rf (some a54)), (7, .int l7), (8, .int l8)] [.int x56]
      refine v_istore [(9, .int x56), (0, va_rf (some l0)), (1, .int l1), (4, va_rf (some a54)), (7, .int l7), (8, .int l8)] dX15_edition_366 (by decide) rfl ?_
      refine v_iload (x := l7) dX15_edition_368 4 rfl ?_
      refine v_iload (x := l8) dX15_edition_370 5 rfl ?_
      refine v_ishr dX15_edition_372 ?_
      refine v_iconst (v := 1) dX15_edition_373 (by decide) ?_
      refine v_iand dX15_edition_374 ?_
      refine v_if_eq (tgt := 416) hf dX15_edition_375 (by decide) (fun hq hf => ?_) (fun hq hf => ?_)
      · refine v_sub [1, 2, 3, 4, 5] (L2 := [(0, va_rf (some l0)), (1, .int l1), (4, va_rf (some a54)), (7, .int l7), (8, .int l8)]) rfl ?_
        exact t_X15_edition_b416 hrec_347 hf
      · refine v_iload (x := x56) dX15_edition_378 0 rfl ?_
        refine v_iconst (v := (-1)) dX15_edition_380 (by decide) ?_
        refine v_icmp_ne (tgt := 387) hf dX15_edition_381 (by decide) (fun hq hf => ?_) (fun hq hf => ?_)
        · refine v_goto (tgt := 416) dX15_edition_384 (by decide) ?_
          refine v_sub [1, 2, 3, 4, 5] (L2 := [(0, va_rf (some l0)), (1, .int l1), (4, va_rf (some a54)), (7, .int l7), (8, .int l8)]) rfl ?_
          exact t_X15_edition_b416 hrec_347 hf
        · refine v_aload (x := (some a54)) dX15_edition_387 3 rfl ?_
          refine v_dup dX15_edition_389 (va_rf_cat _) ?_
          refine v_geti cb_13 hk_a54 6 1306 rfl (by decide) rfl (lk_N kw_2181 rfl) hf dX15_edition_390 (fun x59 hf => ?_)
          refine v_iconst (v := 1) dX15_edition_393 (by decide) ?_
          refine v_iload (x := l8) dX15_edition_394 5 rfl ?_
          refine v_ishl dX15_edition_396 ?_
          refine v_ior dX15_edition_397 ?_
          refine v_puti2 cb_13 hk_a54 6 1306 rfl (by decide) rfl (lk_N kw_2181 rfl) (Or.inl rfl) rfl rfl hf dX15_edition_398 (fun s60 hts60 hf => ?_)
          have hk_a54 := tk_ hts60 hk_a54
          have hk_l0 := tk_ hts60 hk_l0
          refine v_aload (x := (some a54)) dX15_edition_401 3 rfl ?_
          refine v_getr cb_13 hk_a54 9 1309 rfl (by decide) rfl (lk_N kw_2185 rfl) hf dX15_edition_403 (fun r61 hf => ?_)
          refine v_iload (x := l8) dX15_edition_406 5 rfl ?_
          refine v_aload_n (x := (some l0)) dX15_edition_408 rfl 1 rfl ?_
          refine v_getr cb_16 hk_l0 22 1622 rfl (by decide) rfl (lk_n kw_1479 rfl) hf dX15_edition_409 (fun r62 hf => ?_)
          refine v_iload (x := x56) dX15_edition_412 0 rfl ?_
          obtain ⟨a63, rfl, hf⟩ := nn_of hf
          obtain ⟨hk_a63, hf⟩ := gt_of hf
          refine v_iald hk_a63 hf dX15_edition_414 (fun x64 hf => ?_)
          obtain ⟨a65, rfl, hf⟩ := nn_of hf
          obtain ⟨hk_a65, hf⟩ := gt_of hf
          refine v_iast2 hk_a65 hf dX15_edition_415 (fun s66 hts66 hf => ?_)
          have hk_a54 := tk_ hts66 hk_a54
          have hk_l0 := tk_ hts66 hk_l0
          refine v_sub [1, 2, 3, 4, 5] (L2 := [(0, va_rf (some l0)), (1, .int l1), (4, va_rf (some a54)), (7, .int l7), (8, .int l8)]) rfl ?_
          exact t_X15_edition_b416 hrec_347 hf
def f_X15_edition_b335 (rec_296 : TH → Nat → Int32 → Option Nat → Int32 → Int32 → Option (Int32 × TH)) (σ : TH) (l0 : Nat) (l1 : Int32) (l4 : Option Nat) (l8 : Int32) (t0 : Int32) (t1 : Int32) : Option (Int32 × TH) :=
  lt_ (t1 ||| t0) fun x72 => lt_ (l8 + 1) fun x73 => rec_296 σ l0 l1 l4 x72 x73
set_option maxHeartbeats 4000000 in
set_option maxRecDepth 100000 in
theorem t_X15_edition_b335 {l : Launch} {D : va_G} {cy : Nat → ClassId} {ka : Nat → Nat} {σ0 z : TH} {r : Int32} {rec_296 : TH → Nat → Int32 → Option Nat → Int32 → Int32 → Option (Int32 × TH)} (hrec_296 : ∀ (σ : TH) (l0 : Nat) (l1 : Int32) (l4 : Option Nat) (l7 : Int32) (l8 : Int32), rec_296 σ l0 l1 l4 l7 l8 = some (r, z) → v_ l D cy ka cX15_edition RX15 10 (some FieldType.int) "edition" 42 968 (qf_ D cy σ0 z (some (.int r))) σ0 z σ 296 [(0, va_rf (some l0)), (1, .int l1), (4, va_rf l4), (7, .int l7), (8, .int l8)] []) {σ : TH} {l0 : Nat} {l1 : Int32} {l4 : Option Nat} {l8 : Int32} {t0 : Int32} {t1 : Int32} (hf : f_X15_edition_b335 rec_296 σ l0 l1 l4 l8 t0 t1 = some (r, z)) : v_ l D cy ka cX15_edition RX15 10 (some FieldType.int) "edition" 42 968 (qf_ D cy σ0 z (some (.int r))) σ0 z σ 335 [(0, va_rf (some l0)), (1, .int l1), (4, va_rf l4), (8, .int l8)] [.int t0, .int t1] := by
  unfold f_X15_edition_b335 at hf
  refine v_ior dX15_edition_335 ?_
  obtain ⟨x72, ex72⟩ : ∃ y : Int32, y = t1 ||| t0 := ⟨_, rfl⟩
  rw [lt_e, ← ex72] at hf
  rw [← ex72]
  refine v_istore [(7, .int x72), (0, va_rf (some l0)), (1, .int l1), (4, va_rf l4), (8, .int l8)] dX15_edition_336 (by decide) rfl ?_
  obtain ⟨x73, ex73⟩ : ∃ y : Int32, y = l8 + 1 := ⟨_, rfl⟩
  rw [lt_e, ← ex73] at hf
  refine v_iinc (v := x73) [(8, .int x73), (7, .int x72), (0, va_rf (some l0)), (1, .int l1), (4, va_rf l4)] dX15_edition_338 4 rfl (by rw [ex73]; rfl) (by decide) rfl ?_
  refine v_goto (tgt := 296) dX15_edition_341 (by decide) ?_
  refine v_sub [2, 3, 4, 1, 0] (L2 := [(0, va_rf (some l0)), (1, .int l1), (4, va_rf l4), (7, .int x72), (8, .int x73)]) rfl ?_
  exact hrec_296 _ _ _ _ _ _ hf
def f_X15_edition_b296 : Nat → TH → Nat → Int32 → Option Nat → Int32 → Int32 → Option (Int32 × TH)
  | 0, _, _, _, _, _, _ => none
  | n + 1, σ, l0, l1, l4, l7, l8 => gt_ (kd_ σ l0 = 17) <| bd_ (f_X15_storySize σ l0 l1) fun x42 s43 => if x42 ≤ l8 then (f_X15_edition_b347 fu_ s43 l0 l1 l4 l7 (0 : Int32)) else (lt_ (fi_ s43 1653 l0) fun x67 => if ((x67 >>> (l8 &&& 31)) &&& (1 : Int32)) = (1 : Int32) then (bd_ (f_X15_at s43 l0 l1 l8) fun r68 s69 => nn_ r68 fun a70 => gt_ (kd_ s69 a70 = 15) <| lt_ (fi_ s69 1404 a70) fun x71 => f_X15_edition_b335 (f_X15_edition_b296 n) s69 l0 l1 l4 l8 x71 l7) else (f_X15_edition_b335 (f_X15_edition_b296 n) s43 l0 l1 l4 l8 (0 : Int32) l7))
set_option maxHeartbeats 4000000 in
set_option maxRecDepth 100000 in
theorem t_X15_edition_b296 {l : Launch} {D : va_G} {cy : Nat → ClassId} {ka : Nat → Nat} {σ0 z : TH} {r : Int32}  : ∀ (n : Nat) (σ : TH) (l0 : Nat) (l1 : Int32) (l4 : Option Nat) (l7 : Int32) (l8 : Int32), f_X15_edition_b296 n σ l0 l1 l4 l7 l8 = some (r, z) → v_ l D cy ka cX15_edition RX15 10 (some FieldType.int) "edition" 42 968 (qf_ D cy σ0 z (some (.int r))) σ0 z σ 296 [(0, va_rf (some l0)), (1, .int l1), (4, va_rf l4), (7, .int l7), (8, .int l8)] [] := by
  intro n
  induction n with
  | zero => intro σ l0 l1 l4 l7 l8 hf; unfold f_X15_edition_b296 at hf; cases hf
  | succ n ih =>
    intro σ l0 l1 l4 l7 l8 hf
    unfold f_X15_edition_b296 at hf
    have hrec_296 := ih
    refine v_iload (x := l8) dX15_edition_296 4 rfl ?_
    refine v_aload_n (x := (some l0)) dX15_edition_298 rfl 0 rfl ?_
    refine v_iload_n (x := l1) dX15_edition_299 rfl 1 rfl ?_
    obtain ⟨hk_l0, hf⟩ := gt_of hf
    obtain ⟨x42, s43, hcs43, hf⟩ := bd_of hf
    have hts43 := c_X15_storySize (l := l) (D := D) (cy := cy) (ka := ka) hcs43
    refine v_callV cb_16 hk_l0 (As := [.int l1]) (rest := [.int l8]) hts43 yb_X15_storySize kw_1786 kw_1788 kp_87 rfl ⟨Nat.le_of_ble_eq_true rfl, Nat.le_of_ble_eq_true rfl⟩ rfl (cat_len (Nat.le_of_ble_eq_true rfl)) dX15_edition_300 ?_
    have hk_l0 := tk_ hts43.1 hk_l0
    show v_ l D cy ka cX15_edition RX15 10 (some FieldType.int) "edition" 42 968 (qf_ D cy σ0 z (some (.int r))) σ0 z _ 303 [(0, va_rf (some l0)), (1, .int l1), (4, va_rf l4), (7, .int l7), (8, .int l8)] [.int x42, .int l8]
    refine v_icmp_ge (tgt := 344) hf dX15_edition_303 (by decide) (fun hq hf => ?_) (fun hq hf => ?_)
    · refine v_iconst (v := 0) dX15_edition_344 (by decide) ?_
      refine v_istore [(8, .int (0 : Int32)), (0, va_rf (some l0)), (1, .int l1), (4, va_rf l4), (7, .int l7)] dX15_edition_345 (by decide) rfl ?_
      refine v_sub [1, 2, 3, 4, 0] (L2 := [(0, va_rf (some l0)), (1, .int l1), (4, va_rf l4), (7, .int l7), (8, .int (0 : Int32))]) rfl ?_
      exact t_X15_edition_b347  _ _ _ _ _ _ _ hf
    · refine v_iload (x := l7) dX15_edition_306 3 rfl ?_
      refine v_aload_n (x := (some l0)) dX15_edition_308 rfl 0 rfl ?_
      refine v_geti cb_16 hk_l0 53 1653 rfl (by decide) rfl (lk_n kw_1510 rfl) hf dX15_edition_309 (fun x67 hf => ?_)
      refine v_iload (x := l8) dX15_edition_312 4 rfl ?_
      refine v_ishr dX15_edition_314 ?_
      refine v_iconst (v := 1) dX15_edition_315 (by decide) ?_
      refine v_iand dX15_edition_316 ?_
      refine v_iconst (v := 1) dX15_edition_317 (by decide) ?_
      refine v_icmp_ne (tgt := 334) hf dX15_edition_318 (by decide) (fun hq hf => ?_) (fun hq hf => ?_)
      · refine v_aload_n (x := (some l0)) dX15_edition_321 rfl 0 rfl ?_
        refine v_iload_n (x := l1) dX15_edition_322 rfl 1 rfl ?_
        refine v_iload (x := l8) dX15_edition_323 4 rfl ?_
        obtain ⟨r68, s69, hcs69, hf⟩ := bd_of hf
        have hts69 := c_X15_at (l := l) (D := D) (cy := cy) (ka := ka) hcs69
        refine v_callV cb_16 hk_l0 (As := [.int l1, .int l8]) (rest := [.int l7]) hts69 yb_X15_at kw_2058 kw_2060 kp_125 rfl ⟨Nat.le_of_ble_eq_true rfl, Nat.le_of_ble_eq_true rfl⟩ rfl (cat_len (Nat.le_of_ble_eq_true rfl)) dX15_edition_325 ?_
        have hk_l0 := tk_ hts69.1 hk_l0
        show v_ l D cy ka cX15_edition RX15 10 (some FieldType.int) "edition" 42 968 (qf_ D cy σ0 z (some (.int r))) σ0 z _ 328 [(0, va_rf (some l0)), (1, .int l1), (4, va_rf l4), (7, .int l7), (8, .int l8)] [va_rf r68, .int l7]
        obtain ⟨a70, rfl, hf⟩ := nn_of hf
        obtain ⟨hk_a70, hf⟩ := gt_of hf
        refine v_geti cb_14 hk_a70 4 1404 rfl (by decide) rfl (lk_N kw_2032 rfl) hf dX15_edition_328 (fun x71 hf => ?_)
        refine v_goto (tgt := 335) dX15_edition_331 (by decide) ?_
        refine v_sub [0, 1, 2, 4] (L2 := [(0, va_rf (some l0)), (1, .int l1), (4, va_rf l4), (8, .int l8)]) rfl ?_
        exact t_X15_edition_b335 hrec_296 hf
      · refine v_iconst (v := 0) dX15_edition_334 (by decide) ?_
        refine v_sub [0, 1, 2, 4] (L2 := [(0, va_rf (some l0)), (1, .int l1), (4, va_rf l4), (8, .int l8)]) rfl ?_
        exact t_X15_edition_b335 hrec_296 hf
def f_X15_edition_b253 (rec_165 : TH → Nat → Int32 → Int32 → Int32 → Option Nat → Int32 → Int32 → Int32 → Option (Int32 × TH)) (σ : TH) (l0 : Nat) (l1 : Int32) (l2 : Int32) (l3 : Int32) (l4 : Option Nat) (l5 : Int32) (l6 : Int32) (l7 : Int32) : Option (Int32 × TH) :=
  lt_ (l7 + 1) fun x74 => rec_165 σ l0 l1 l2 l3 l4 l5 l6 x74
set_option maxHeartbeats 4000000 in
set_option maxRecDepth 100000 in
theorem t_X15_edition_b253 {l : Launch} {D : va_G} {cy : Nat → ClassId} {ka : Nat → Nat} {σ0 z : TH} {r : Int32} {rec_165 : TH → Nat → Int32 → Int32 → Int32 → Option Nat → Int32 → Int32 → Int32 → Option (Int32 × TH)} (hrec_165 : ∀ (σ : TH) (l0 : Nat) (l1 : Int32) (l2 : Int32) (l3 : Int32) (l4 : Option Nat) (l5 : Int32) (l6 : Int32) (l7 : Int32), rec_165 σ l0 l1 l2 l3 l4 l5 l6 l7 = some (r, z) → v_ l D cy ka cX15_edition RX15 10 (some FieldType.int) "edition" 42 968 (qf_ D cy σ0 z (some (.int r))) σ0 z σ 165 [(0, va_rf (some l0)), (1, .int l1), (2, .int l2), (3, .int l3), (4, va_rf l4), (5, .int l5), (6, .int l6), (7, .int l7)] []) {σ : TH} {l0 : Nat} {l1 : Int32} {l2 : Int32} {l3 : Int32} {l4 : Option Nat} {l5 : Int32} {l6 : Int32} {l7 : Int32} (hf : f_X15_edition_b253 rec_165 σ l0 l1 l2 l3 l4 l5 l6 l7 = some (r, z)) : v_ l D cy ka cX15_edition RX15 10 (some FieldType.int) "edition" 42 968 (qf_ D cy σ0 z (some (.int r))) σ0 z σ 253 [(0, va_rf (some l0)), (1, .int l1), (2, .int l2), (3, .int l3), (4, va_rf l4), (5, .int l5), (6, .int l6), (7, .int l7)] [] := by
  unfold f_X15_edition_b253 at hf
  obtain ⟨x74, ex74⟩ : ∃ y : Int32, y = l7 + 1 := ⟨_, rfl⟩
  rw [lt_e, ← ex74] at hf
  refine v_iinc (v := x74) [(7, .int x74), (0, va_rf (some l0)), (1, .int l1), (2, .int l2), (3, .int l3), (4, va_rf l4), (5, .int l5), (6, .int l6)] dX15_edition_253 7 rfl (by rw [ex74]; rfl) (by decide) rfl ?_
  refine v_goto (tgt := 165) dX15_edition_256 (by decide) ?_
  refine v_sub [1, 2, 3, 4, 5, 6, 7, 0] (L2 := [(0, va_rf (some l0)), (1, .int l1), (2, .int l2), (3, .int l3), (4, va_rf l4), (5, .int l5), (6, .int l6), (7, .int x74)]) rfl ?_
  exact hrec_165 _ _ _ _ _ _ _ _ _ hf
def f_X15_edition_b220 (rec_165 : TH → Nat → Int32 → Int32 → Int32 → Option Nat → Int32 → Int32 → Int32 → Option (Int32 × TH)) (σ : TH) (l0 : Nat) (l1 : Int32) (l2 : Int32) (l3 : Int32) (l4 : Option Nat) (l5 : Int32) (l7 : Int32) (t0 : Int32) : Option (Int32 × TH) :=
  if t0 = 0 then (f_X15_edition_b253 rec_165 σ l0 l1 l2 l3 l4 l5 t0 l7) else (gt_ (kd_ σ l0 = 17) <| lt_ (fr_ σ 1680 l0) fun r84 => nn_ r84 fun a85 => gt_ (kd_ σ a85 = 20) <| gt_ (¬ (l7 < 0 ∨ ln_ σ a85 ≤ l7.toNatClampNeg)) <| lt_ (ai_ σ a85 l7.toNatClampNeg) fun x86 => lt_ (l5 - x86) fun x87 => nn_ l4 fun a88 => gt_ (kd_ σ a88 = 14) <| lt_ (fi_ σ 1305 a88) fun x89 => lt_ (si_ σ 1305 a88 (x89 + (1 : Int32))) fun s90 => f_X15_edition_b253 rec_165 s90 l0 l1 l2 l3 (some a88) x87 t0 l7)
set_option maxHeartbeats 4000000 in
set_option maxRecDepth 100000 in
theorem t_X15_edition_b220 {l : Launch} {D : va_G} {cy : Nat → ClassId} {ka : Nat → Nat} {σ0 z : TH} {r : Int32} {rec_165 : TH → Nat → Int32 → Int32 → Int32 → Option Nat → Int32 → Int32 → Int32 → Option (Int32 × TH)} (hrec_165 : ∀ (σ : TH) (l0 : Nat) (l1 : Int32) (l2 : Int32) (l3 : Int32) (l4 : Option Nat) (l5 : Int32) (l6 : Int32) (l7 : Int32), rec_165 σ l0 l1 l2 l3 l4 l5 l6 l7 = some (r, z) → v_ l D cy ka cX15_edition RX15 10 (some FieldType.int) "edition" 42 968 (qf_ D cy σ0 z (some (.int r))) σ0 z σ 165 [(0, va_rf (some l0)), (1, .int l1), (2, .int l2), (3, .int l3), (4, va_rf l4), (5, .int l5), (6, .int l6), (7, .int l7)] []) {σ : TH} {l0 : Nat} {l1 : Int32} {l2 : Int32} {l3 : Int32} {l4 : Option Nat} {l5 : Int32} {l7 : Int32} {t0 : Int32} (hf : f_X15_edition_b220 rec_165 σ l0 l1 l2 l3 l4 l5 l7 t0 = some (r, z)) : v_ l D cy ka cX15_edition RX15 10 (some FieldType.int) "edition" 42 968 (qf_ D cy σ0 z (some (.int r))) σ0 z σ 220 [(0, va_rf (some l0)), (1, .int l1), (2, .int l2), (3, .int l3), (4, va_rf l4), (5, .int l5), (7, .int l7)] [.int t0] := by
  unfold f_X15_edition_b220 at hf
  refine v_istore [(6, .int t0), (0, va_rf (some l0)), (1, .int l1), (2, .int l2), (3, .int l3), (4, va_rf l4), (5, .int l5), (7, .int l7)] dX15_edition_220 (by decide) rfl ?_
  refine v_iload (x := t0) dX15_edition_222 0 rfl ?_
  refine v_if_ne (tgt := 230) hf dX15_edition_224 (by decide) (fun hq hf => ?_) (fun hq hf => ?_)
  · refine v_goto (tgt := 253) dX15_edition_227 (by decide) ?_
    refine v_sub [1, 2, 3, 4, 5, 6, 0, 7] (L2 := [(0, va_rf (some l0)), (1, .int l1), (2, .int l2), (3, .int l3), (4, va_rf l4), (5, .int l5), (6, .int t0), (7, .int l7)]) rfl ?_
    exact t_X15_edition_b253 hrec_165 hf
  · refine v_iload (x := l5) dX15_edition_230 6 rfl ?_
    refine v_aload_n (x := (some l0)) dX15_edition_232 rfl 1 rfl ?_
    obtain ⟨hk_l0, hf⟩ := gt_of hf
    refine v_getr cb_16 hk_l0 80 1680 rfl (by decide) rfl (lk_n kw_1537 rfl) hf dX15_edition_233 (fun r84 hf => ?_)
    refine v_iload (x := l7) dX15_edition_236 7 rfl ?_
    obtain ⟨a85, rfl, hf⟩ := nn_of hf
    obtain ⟨hk_a85, hf⟩ := gt_of hf
    refine v_iald hk_a85 hf dX15_edition_238 (fun x86 hf => ?_)
    refine v_isub dX15_edition_239 ?_
    obtain ⟨x87, ex87⟩ : ∃ y : Int32, y = l5 - x86 := ⟨_, rfl⟩
    rw [lt_e, ← ex87] at hf
    rw [← ex87]
    refine v_istore [(5, .int x87), (6, .int t0), (0, va_rf (some l0)), (1, .int l1), (2, .int l2), (3, .int l3), (4, va_rf l4), (7, .int l7)] dX15_edition_240 (by decide) (by simp [va_rf_cat, cat_i, cat_l]) ?_
    refine v_aload (x := l4) dX15_edition_242 6 rfl ?_
    refine v_dup dX15_edition_244 (va_rf_cat _) ?_
    obtain ⟨a88, rfl, hf⟩ := nn_of hf
    obtain ⟨hk_a88, hf⟩ := gt_of hf
    refine v_geti cb_13 hk_a88 5 1305 rfl (by decide) rfl (lk_N kw_2180 rfl) hf dX15_edition_245 (fun x89 hf => ?_)
    refine v_iconst (v := 1) dX15_edition_248 (by decide) ?_
    refine v_iadd dX15_edition_249 ?_
    refine v_puti2 cb_13 hk_a88 5 1305 rfl (by decide) rfl (lk_N kw_2180 rfl) (Or.inl rfl) rfl rfl hf dX15_edition_250 (fun s90 hts90 hf => ?_)
    have hk_l0 := tk_ hts90 hk_l0
    have hk_a88 := tk_ hts90 hk_a88
    refine v_sub [2, 3, 4, 5, 6, 0, 1, 7] (L2 := [(0, va_rf (some l0)), (1, .int l1), (2, .int l2), (3, .int l3), (4, va_rf (some a88)), (5, .int x87), (6, .int t0), (7, .int l7)]) rfl ?_
    exact t_X15_edition_b253 hrec_165 hf
def f_X15_edition_b165 : Nat → TH → Nat → Int32 → Int32 → Int32 → Option Nat → Int32 → Int32 → Int32 → Option (Int32 × TH)
  | 0, _, _, _, _, _, _, _, _, _ => none
  | n + 1, σ, l0, l1, l2, l3, l4, l5, l6, l7 => gt_ (kd_ σ l0 = 17) <| lt_ (fi_ σ 1670 l0) fun x34 => if x34 ≤ l7 then (bd_ (f_X15_cuts σ l0 l1 l5 l3) fun x35 s36 => lt_ (fi_ s36 1653 l0) fun x37 => nn_ l4 fun a38 => gt_ (kd_ s36 a38 = 14) <| lt_ (si_ s36 1303 a38 x37) fun s39 => lt_ (fi_ s39 1655 l0) fun x40 => lt_ (si_ s39 1302 a38 ((l2 - l5) + x40)) fun s41 => f_X15_edition_b296 fu_ s41 l0 l1 (some a38) (0 : Int32) (0 : Int32)) else (if l6 = 0 then (f_X15_edition_b253 (f_X15_edition_b165 n) σ l0 l1 l2 l3 l4 l5 l6 l7) else (lt_ (fr_ σ 1678 l0) fun r75 => nn_ r75 fun a76 => gt_ (kd_ σ a76 = 20) <| gt_ (¬ (l7 < 0 ∨ ln_ σ a76 ≤ l7.toNatClampNeg)) <| lt_ (ai_ σ a76 l7.toNatClampNeg) fun x77 => if x77 = l1 then (lt_ (fr_ σ 1681 l0) fun r78 => nn_ r78 fun a79 => gt_ (kd_ σ a79 = 22) <| gt_ (¬ (l7 < 0 ∨ ln_ σ a79 ≤ l7.toNatClampNeg)) <| lt_ (ai_ σ a79 l7.toNatClampNeg) fun x80 => if x80 = 0 then (f_X15_edition_b253 (f_X15_edition_b165 n) σ l0 l1 l2 l3 l4 l5 l6 l7) else (lt_ (fr_ σ 1680 l0) fun r81 => nn_ r81 fun a82 => gt_ (kd_ σ a82 = 20) <| gt_ (¬ (l7 < 0 ∨ ln_ σ a82 ≤ l7.toNatClampNeg)) <| lt_ (ai_ σ a82 l7.toNatClampNeg) fun x83 => if l5 < x83 then (f_X15_edition_b220 (f_X15_edition_b165 n) σ l0 l1 l2 l3 l4 l5 l7 (0 : Int32)) else (f_X15_edition_b220 (f_X15_edition_b165 n) σ l0 l1 l2 l3 l4 l5 l7 (1 : Int32)))) else (f_X15_edition_b253 (f_X15_edition_b165 n) σ l0 l1 l2 l3 l4 l5 l6 l7)))
set_option maxHeartbeats 4000000 in
set_option maxRecDepth 100000 in
theorem t_X15_edition_b165 {l : Launch} {D : va_G} {cy : Nat → ClassId} {ka : Nat → Nat} {σ0 z : TH} {r : Int32}  : ∀ (n : Nat) (σ : TH) (l0 : Nat) (l1 : Int32) (l2 : Int32) (l3 : Int32) (l4 : Option Nat) (l5 : Int32) (l6 : Int32) (l7 : Int32), f_X15_edition_b165 n σ l0 l1 l2 l3 l4 l5 l6 l7 = some (r, z) → v_ l D cy ka cX15_edition RX15 10 (some FieldType.int) "edition" 42 968 (qf_ D cy σ0 z (some (.int r))) σ0 z σ 165 [(0, va_rf (some l0)), (1, .int l1), (2, .int l2), (3, .int l3), (4, va_rf l4), (5, .int l5), (6, .int l6), (7, .int l7)] [] := by
  intro n
  induction n with
  | zero => intro σ l0 l1 l2 l3 l4 l5 l6 l7 hf; unfold f_X15_edition_b165 at hf; cases hf
  | succ n ih =>
    intro σ l0 l1 l2 l3 l4 l5 l6 l7 hf
    unfold f_X15_edition_b165 at hf
    have hrec_165 := ih
    refine v_iload (x := l7) dX15_edition_165 7 rfl ?_
    refine v_aload_n (x := (some l0)) dX15_edition_167 rfl 0 rfl ?_
    obtain ⟨hk_l0, hf⟩ := gt_of hf
    refine v_geti cb_16 hk_l0 70 1670 rfl (by decide) rfl (lk_n kw_1527 rfl) hf dX15_edition_168 (fun x34 hf => ?_)
    refine v_icmp_ge (tgt := 259) hf dX15_edition_171 (by decide) (fun hq hf => ?_) (fun hq hf => ?_)
    · refine v_aload_n (x := (some l0)) dX15_edition_259 rfl 0 rfl ?_
      refine v_iload_n (x := l1) dX15_edition_260 rfl 1 rfl ?_
      refine v_iload (x := l5) dX15_edition_261 5 rfl ?_
      refine v_iload_n (x := l3) dX15_edition_263 rfl 3 rfl ?_
      obtain ⟨x35, s36, hcs36, hf⟩ := bd_of hf
      have hts36 := c_X15_cuts (l := l) (D := D) (cy := cy) (ka := ka) hcs36
      refine v_callV cb_16 hk_l0 (As := [.int l1, .int l5, .int l3]) (rest := []) hts36 yb_X15_cuts kw_2094 kw_2096 kp_128 rfl ⟨Nat.le_of_ble_eq_true rfl, Nat.le_of_ble_eq_true rfl⟩ rfl (cat_len (Nat.le_of_ble_eq_true rfl)) dX15_edition_264 ?_
      have hk_l0 := tk_ hts36.1 hk_l0
      show v_ l D cy ka cX15_edition RX15 10 (some FieldType.int) "edition" 42 968 (qf_ D cy σ0 z (some (.int r))) σ0 z _ 267 [(0, va_rf (some l0)), (1, .int l1), (2, .int l2), (3, .int l3), (4, va_rf l4), (5, .int l5), (6, .int l6), (7, .int l7)] []
      refine v_aload (x := l4) dX15_edition_267 4 rfl ?_
      refine v_aload_n (x := (some l0)) dX15_edition_269 rfl 0 rfl ?_
      refine v_geti cb_16 hk_l0 53 1653 rfl (by decide) rfl (lk_n kw_1510 rfl) hf dX15_edition_270 (fun x37 hf => ?_)
      obtain ⟨a38, rfl, hf⟩ := nn_of hf
      obtain ⟨hk_a38, hf⟩ := gt_of hf
      refine v_puti2 cb_13 hk_a38 3 1303 rfl (by decide) rfl (lk_N kw_2178 rfl) (Or.inl rfl) rfl rfl hf dX15_edition_273 (fun s39 hts39 hf => ?_)
      have hk_l0 := tk_ hts39 hk_l0
      have hk_a38 := tk_ hts39 hk_a38
      refine v_aload (x := (some a38)) dX15_edition_276 4 rfl ?_
      refine v_iload_n (x := l2) dX15_edition_278 rfl 2 rfl ?_
      refine v_iload (x := l5) dX15_edition_279 5 rfl ?_
      refine v_isub dX15_edition_281 ?_
      refine v_aload_n (x := (some l0)) dX15_edition_282 rfl 0 rfl ?_
      refine v_geti cb_16 hk_l0 55 1655 rfl (by decide) rfl (lk_n kw_1512 rfl) hf dX15_edition_283 (fun x40 hf => ?_)
      refine v_iadd dX15_edition_286 ?_
      refine v_puti2 cb_13 hk_a38 2 1302 rfl (by decide) rfl (lk_N kw_2177 rfl) (Or.inl rfl) rfl rfl hf dX15_edition_287 (fun s41 hts41 hf => ?_)
      have hk_l0 := tk_ hts41 hk_l0
      have hk_a38 := tk_ hts41 hk_a38
      refine v_iconst (v := 0) dX15_edition_290 (by decide) ?_
      refine v_istore [(7, .int (0 : Int32)), (0, va_rf (some l0)), (1, .int l1), (2, .int l2), (3, .int l3), (4, va_rf (some a38)), (5, .int l5), (6, .int l6)] dX15_edition_291 (by decide) rfl ?_
      refine v_iconst (v := 0) dX15_edition_293 (by decide) ?_
      refine v_istore [(8, .int (0 : Int32)), (7, .int (0 : Int32)), (0, va_rf (some l0)), (1, .int l1), (2, .int l2), (3, .int l3), (4, va_rf (some a38)), (5, .int l5), (6, .int l6)] dX15_edition_294 (by decide) rfl ?_
      refine v_sub [2, 3, 6, 1, 0] (L2 := [(0, va_rf (some l0)), (1, .int l1), (4, va_rf (some a38)), (7, .int (0 : Int32)), (8, .int (0 : Int32))]) rfl ?_
      exact t_X15_edition_b296  _ _ _ _ _ _ _ hf
    · refine v_iload (x := l6) dX15_edition_174 6 rfl ?_
      refine v_if_eq (tgt := 253) hf dX15_edition_176 (by decide) (fun hq hf => ?_) (fun hq hf => ?_)
      · refine v_sub [0, 1, 2, 3, 4, 5, 6, 7] (L2 := [(0, va_rf (some l0)), (1, .int l1), (2, .int l2), (3, .int l3), (4, va_rf l4), (5, .int l5), (6, .int l6), (7, .int l7)]) rfl ?_
        exact t_X15_edition_b253 hrec_165 hf
      · refine v_aload_n (x := (some l0)) dX15_edition_179 rfl 0 rfl ?_
        refine v_getr cb_16 hk_l0 78 1678 rfl (by decide) rfl (lk_n kw_1535 rfl) hf dX15_edition_180 (fun r75 hf => ?_)
        refine v_iload (x := l7) dX15_edition_183 7 rfl ?_
        obtain ⟨a76, rfl, hf⟩ := nn_of hf
        obtain ⟨hk_a76, hf⟩ := gt_of hf
        refine v_iald hk_a76 hf dX15_edition_185 (fun x77 hf => ?_)
        refine v_iload_n (x := l1) dX15_edition_186 rfl 1 rfl ?_
        refine v_icmp_ne (tgt := 253) hf dX15_edition_187 (by decide) (fun hq hf => ?_) (fun hq hf => ?_)
        · refine v_aload_n (x := (some l0)) dX15_edition_190 rfl 0 rfl ?_
          refine v_getr cb_16 hk_l0 81 1681 rfl (by decide) rfl (lk_n kw_1538 rfl) hf dX15_edition_191 (fun r78 hf => ?_)
          refine v_iload (x := l7) dX15_edition_194 7 rfl ?_
          obtain ⟨a79, rfl, hf⟩ := nn_of hf
          obtain ⟨hk_a79, hf⟩ := gt_of hf
          refine v_zald hk_a79 hf dX15_edition_196 (fun x80 hf => ?_)
          refine v_if_ne (tgt := 203) hf dX15_edition_197 (by decide) (fun hq hf => ?_) (fun hq hf => ?_)
          · refine v_goto (tgt := 253) dX15_edition_200 (by decide) ?_
            refine v_sub [0, 1, 2, 3, 4, 5, 6, 7] (L2 := [(0, va_rf (some l0)), (1, .int l1), (2, .int l2), (3, .int l3), (4, va_rf l4), (5, .int l5), (6, .int l6), (7, .int l7)]) rfl ?_
            exact t_X15_edition_b253 hrec_165 hf
          · refine v_aload_n (x := (some l0)) dX15_edition_203 rfl 0 rfl ?_
            refine v_getr cb_16 hk_l0 80 1680 rfl (by decide) rfl (lk_n kw_1537 rfl) hf dX15_edition_204 (fun r81 hf => ?_)
            refine v_iload (x := l7) dX15_edition_207 7 rfl ?_
            obtain ⟨a82, rfl, hf⟩ := nn_of hf
            obtain ⟨hk_a82, hf⟩ := gt_of hf
            refine v_iald hk_a82 hf dX15_edition_209 (fun x83 hf => ?_)
            refine v_iload (x := l5) dX15_edition_210 5 rfl ?_
            refine v_icmp_gt (tgt := 219) hf dX15_edition_212 (by decide) (fun hq hf => ?_) (fun hq hf => ?_)
            · refine v_iconst (v := 0) dX15_edition_219 (by decide) ?_
              refine v_sub [0, 1, 2, 3, 4, 5, 7] (L2 := [(0, va_rf (some l0)), (1, .int l1), (2, .int l2), (3, .int l3), (4, va_rf l4), (5, .int l5), (7, .int l7)]) rfl ?_
              exact t_X15_edition_b220 hrec_165 hf
            · refine v_iconst (v := 1) dX15_edition_215 (by decide) ?_
              refine v_goto (tgt := 220) dX15_edition_216 (by decide) ?_
              refine v_sub [0, 1, 2, 3, 4, 5, 7] (L2 := [(0, va_rf (some l0)), (1, .int l1), (2, .int l2), (3, .int l3), (4, va_rf l4), (5, .int l5), (7, .int l7)]) rfl ?_
              exact t_X15_edition_b220 hrec_165 hf
        · refine v_sub [0, 1, 2, 3, 4, 5, 6, 7] (L2 := [(0, va_rf (some l0)), (1, .int l1), (2, .int l2), (3, .int l3), (4, va_rf l4), (5, .int l5), (6, .int l6), (7, .int l7)]) rfl ?_
          exact t_X15_edition_b253 hrec_165 hf
def f_X15_edition_b159 (σ : TH) (l0 : Nat) (l1 : Int32) (l2 : Int32) (l3 : Int32) (l4 : Option Nat) (l5 : Int32) : Option (Int32 × TH) :=
  f_X15_edition_b165 fu_ σ l0 l1 l2 l3 l4 l5 (1 : Int32) (0 : Int32)
set_option maxHeartbeats 4000000 in
set_option maxRecDepth 100000 in
theorem t_X15_edition_b159 {l : Launch} {D : va_G} {cy : Nat → ClassId} {ka : Nat → Nat} {σ0 z : TH} {r : Int32}  {σ : TH} {l0 : Nat} {l1 : Int32} {l2 : Int32} {l3 : Int32} {l4 : Option Nat} {l5 : Int32} (hf : f_X15_edition_b159 σ l0 l1 l2 l3 l4 l5 = some (r, z)) : v_ l D cy ka cX15_edition RX15 10 (some FieldType.int) "edition" 42 968 (qf_ D cy σ0 z (some (.int r))) σ0 z σ 159 [(0, va_rf (some l0)), (1, .int l1), (2, .int l2), (3, .int l3), (4, va_rf l4), (5, .int l5)] [] := by
  unfold f_X15_edition_b159 at hf
  refine v_iconst (v := 1) dX15_edition_159 (by decide) ?_
  refine v_istore [(6, .int (1 : Int32)), (0, va_rf (some l0)), (1, .int l1), (2, .int l2), (3, .int l3), (4, va_rf l4), (5, .int l5)] dX15_edition_160 (by decide) rfl ?_
  refine v_iconst (v := 0) dX15_edition_162 (by decide) ?_
  refine v_istore [(7, .int (0 : Int32)), (6, .int (1 : Int32)), (0, va_rf (some l0)), (1, .int l1), (2, .int l2), (3, .int l3), (4, va_rf l4), (5, .int l5)] dX15_edition_163 (by decide) rfl ?_
  refine v_sub [2, 3, 4, 5, 6, 7, 1, 0] (L2 := [(0, va_rf (some l0)), (1, .int l1), (2, .int l2), (3, .int l3), (4, va_rf l4), (5, .int l5), (6, .int (1 : Int32)), (7, .int (0 : Int32))]) rfl ?_
  exact t_X15_edition_b165  _ _ _ _ _ _ _ _ _ _ hf
def f_X15_edition_b126 (σ : TH) (l0 : Nat) (l1 : Int32) (l2 : Int32) (l3 : Int32) (l4 : Option Nat) (l5 : Int32) (t0 : Int32) (t1 : Option Nat) : Option (Int32 × TH) :=
  nn_ t1 fun a30 => gt_ (kd_ σ a30 = 14) <| lt_ (si_ σ 1304 a30 t0) fun s31 => nn_ l4 fun a32 => gt_ (kd_ s31 a32 = 14) <| lt_ (fi_ s31 1304 a32) fun x33 => if x33 = (-2 : Int32) then (f_X15_edition_b159 s31 l0 l1 l2 l3 (some a32) l5) else (gt_ (kd_ s31 l0 = 17) <| lt_ (fr_ s31 1677 l0) fun r91 => lt_ (fi_ s31 1304 a32) fun x92 => nn_ r91 fun a93 => gt_ (kd_ s31 a93 = 20) <| gt_ (¬ (x92 < 0 ∨ ln_ s31 a93 ≤ x92.toNatClampNeg)) <| lt_ (ai_ s31 a93 x92.toNatClampNeg) fun x94 => gt_ (¬ (x92 < 0 ∨ ln_ s31 a93 ≤ x92.toNatClampNeg)) <| lt_ (sa_ s31 a93 x92.toNatClampNeg (x94 + (1 : Int32))) fun s95 => lt_ (l5 + (-200)) fun x96 => f_X15_edition_b159 s95 l0 l1 l2 l3 (some a32) x96)
set_option maxHeartbeats 4000000 in
set_option maxRecDepth 100000 in
theorem t_X15_edition_b126 {l : Launch} {D : va_G} {cy : Nat → ClassId} {ka : Nat → Nat} {σ0 z : TH} {r : Int32}  {σ : TH} {l0 : Nat} {l1 : Int32} {l2 : Int32} {l3 : Int32} {l4 : Option Nat} {l5 : Int32} {t0 : Int32} {t1 : Option Nat} (hf : f_X15_edition_b126 σ l0 l1 l2 l3 l4 l5 t0 t1 = some (r, z)) : v_ l D cy ka cX15_edition RX15 10 (some FieldType.int) "edition" 42 968 (qf_ D cy σ0 z (some (.int r))) σ0 z σ 126 [(0, va_rf (some l0)), (1, .int l1), (2, .int l2), (3, .int l3), (4, va_rf l4), (5, .int l5)] [.int t0, va_rf t1] := by
  unfold f_X15_edition_b126 at hf
  obtain ⟨a30, rfl, hf⟩ := nn_of hf
  obtain ⟨hk_a30, hf⟩ := gt_of hf
  refine v_puti2 cb_13 hk_a30 4 1304 rfl (by decide) rfl (lk_N kw_2179 rfl) (Or.inl rfl) rfl rfl hf dX15_edition_126 (fun s31 hts31 hf => ?_)
  refine v_aload (x := l4) dX15_edition_129 4 rfl ?_
  obtain ⟨a32, rfl, hf⟩ := nn_of hf
  obtain ⟨hk_a32, hf⟩ := gt_of hf
  refine v_geti cb_13 hk_a32 4 1304 rfl (by decide) rfl (lk_N kw_2179 rfl) hf dX15_edition_131 (fun x33 hf => ?_)
  refine v_bipush (v := (-2)) dX15_edition_134 (by decide) ?_
  refine v_icmp_eq (tgt := 159) hf dX15_edition_136 (by decide) (fun hq hf => ?_) (fun hq hf => ?_)
  · refine v_sub [0, 1, 2, 3, 4, 5] (L2 := [(0, va_rf (some l0)), (1, .int l1), (2, .int l2), (3, .int l3), (4, va_rf (some a32)), (5, .int l5)]) rfl ?_
    exact t_X15_edition_b159  hf
  · refine v_aload_n (x := (some l0)) dX15_edition_139 rfl 0 rfl ?_
    obtain ⟨hk_l0, hf⟩ := gt_of hf
    refine v_getr cb_16 hk_l0 77 1677 rfl (by decide) rfl (lk_n kw_1534 rfl) hf dX15_edition_140 (fun r91 hf => ?_)
    refine v_aload (x := (some a32)) dX15_edition_143 4 rfl ?_
    refine v_geti cb_13 hk_a32 4 1304 rfl (by decide) rfl (lk_N kw_2179 rfl) hf dX15_edition_145 (fun x92 hf => ?_)
    refine v_dup2 dX15_edition_148 rfl (va_rf_cat _) ?_
    obtain ⟨a93, rfl, hf⟩ := nn_of hf
    obtain ⟨hk_a93, hf⟩ := gt_of hf
    refine v_iald hk_a93 hf dX15_edition_149 (fun x94 hf => ?_)
    refine v_iconst (v := 1) dX15_edition_150 (by decide) ?_
    refine v_iadd dX15_edition_151 ?_
    refine v_iast2 hk_a93 hf dX15_edition_152 (fun s95 hts95 hf => ?_)
    have hk_a32 := tk_ hts95 hk_a32
    have hk_l0 := tk_ hts95 hk_l0
    obtain ⟨x96, ex96⟩ : ∃ y : Int32, y = l5 + (-200) := ⟨_, rfl⟩
    rw [lt_e, ← ex96] at hf
    refine v_iincW (v := x96) [(5, .int x96), (0, va_rf (some l0)), (1, .int l1), (2, .int l2), (3, .int l3), (4, va_rf (some a32))] dX15_edition_153 5 rfl (by rw [ex96]; exact congrArg (fun y => l5 + y) (by decide : Int32.ofInt (-200) = (-200 : Int32))) (by decide) rfl ?_
    refine v_sub [1, 2, 3, 4, 5, 0] (L2 := [(0, va_rf (some l0)), (1, .int l1), (2, .int l2), (3, .int l3), (4, va_rf (some a32)), (5, .int x96)]) rfl ?_
    exact t_X15_edition_b159  hf
/-- LivesAheadModel.edition(IIZ)I -/
def f_X15_edition (σ : TH) (p0 : Nat) (p1 : Int32) (p2 : Int32) (p3 : Int32) : Option (Int32 × TH) :=
  gt_ (kd_ σ p0 = 17) <| lt_ (si_ σ 1600 p0 (0 : Int32)) fun s1 => bd_ (f_X15_isPerson s1 p0 p1) fun x2 s3 => if x2 = 0 then (bd_ (f_X15_refused s3 p0 (1 : Int32)) fun x4 s5 => some (x4, s5)) else (bd_ (f_X15_in s3 p2 (1 : Int32) (4000 : Int32)) fun x6 s7 => if x6 = 0 then (bd_ (f_X15_refused s7 p0 (2 : Int32)) fun x8 s9 => some (x8, s9)) else (lt_ (fr_ s7 1615 p0) fun r10 => nn_ r10 fun a11 => gt_ (kd_ s7 a11 = 22) <| gt_ (¬ (p1 < 0 ∨ ln_ s7 a11 ≤ p1.toNatClampNeg)) <| lt_ (ai_ s7 a11 p1.toNatClampNeg) fun x12 => if x12 = 0 then (f_X15_edition_b58 s7 p0) else (lt_ (fi_ s7 1606 p0) fun x15 => lt_ (fr_ s7 1613 p0) fun r16 => nn_ r16 fun a17 => gt_ (kd_ s7 a17 = 20) <| gt_ (¬ (p1 < 0 ∨ ln_ s7 a17 ≤ p1.toNatClampNeg)) <| lt_ (ai_ s7 a17 p1.toNatClampNeg) fun x18 => if x18 ≤ x15 then (lt_ (fi_ s7 1671 p0) fun x19 => if x19 = (80 : Int32) then (bd_ (f_X15_refused s7 p0 (3 : Int32)) fun x20 s21 => some (x20, s21)) else (gt_ (kd_ s7 (nx_ s7) = 0) <| lt_ (nx_ s7) fun a22 => lt_ (nw_ s7 14 0 11) fun s23 => bd_ (f_X12_init s23 a22) fun x24 s25 => lt_ (si_ s25 1300 a22 p1) fun s26 => bd_ (f_X15_today s26 p0) fun x27 s28 => lt_ (si_ s28 1301 a22 x27) fun s29 => if p2 < (200 : Int32) then (f_X15_edition_b126 s29 p0 p1 p2 p3 (some a22) p2 (-2 : Int32) (some a22)) else (bd_ (f_X15_bestPicture s29 p0 p1) fun x97 s98 => f_X15_edition_b126 s98 p0 p1 p2 p3 (some a22) p2 x97 (some a22)))) else (f_X15_edition_b58 s7 p0))))
set_option maxHeartbeats 4000000 in
set_option maxRecDepth 100000 in
theorem c_X15_edition {l : Launch} {D : va_G} {cy : Nat → ClassId} {ka : Nat → Nat} {σ z : TH} {p0 : Nat} {p1 : Int32} {p2 : Int32} {p3 : Int32} {r : Int32} (hf : f_X15_edition σ p0 p1 p2 p3 = some (r, z)) : ct_ l D cy ka yX15_edition 42 968 [va_rf (some p0), .int p1, .int p2, .int p3] σ (some (.int r)) z := by
  unfold f_X15_edition at hf
  refine v_start (cc := cX15_edition) (own := RX15) (maxL := 10) (ret := (some FieldType.int)) (nm := "edition") (by decide +kernel) kw_2169 rfl rfl (by simp [lg_sl, va_rf_cat, cat_i, cat_l]) ?_
  refine v_eqL (L2 := [(0, va_rf (some p0)), (1, .int p1), (2, .int p2), (3, .int p3)]) (by simp [lv_args, va_rf_cat, cat_i, cat_l]) ?_
  refine v_aload_n (x := (some p0)) dX15_edition_0 rfl 0 rfl ?_
  refine v_iconst (v := 0) dX15_edition_1 (by decide) ?_
  obtain ⟨hk_p0, hf⟩ := gt_of hf
  refine v_puti2 cb_16 hk_p0 0 1600 rfl (by decide) rfl (lk_n kw_1457 rfl) (Or.inl rfl) rfl rfl hf dX15_edition_2 (fun s1 hts1 hf => ?_)
  have hk_p0 := tk_ hts1 hk_p0
  refine v_aload_n (x := (some p0)) dX15_edition_5 rfl 0 rfl ?_
  refine v_iload_n (x := p1) dX15_edition_6 rfl 1 rfl ?_
  obtain ⟨x2, s3, hcs3, hf⟩ := bd_of hf
  have hts3 := c_X15_isPerson (l := l) (D := D) (cy := cy) (ka := ka) hcs3
  refine v_callV cb_16 hk_p0 (As := [.int p1]) (rest := []) hts3 yb_X15_isPerson kw_1770 kw_1772 kp_83 rfl ⟨Nat.le_of_ble_eq_true rfl, Nat.le_of_ble_eq_true rfl⟩ rfl (cat_len (Nat.le_of_ble_eq_true rfl)) dX15_edition_7 ?_
  have hk_p0 := tk_ hts3.1 hk_p0
  show v_ l D cy ka cX15_edition RX15 10 (some FieldType.int) "edition" 42 968 (qf_ D cy σ z (some (.int r))) σ z _ 10 [(0, va_rf (some p0)), (1, .int p1), (2, .int p2), (3, .int p3)] [.int x2]
  refine v_if_ne (tgt := 19) hf dX15_edition_10 (by decide) (fun hq hf => ?_) (fun hq hf => ?_)
  · refine v_aload_n (x := (some p0)) dX15_edition_13 rfl 0 rfl ?_
    refine v_iconst (v := 1) dX15_edition_14 (by decide) ?_
    obtain ⟨x4, s5, hcs5, hf⟩ := bd_of hf
    have hts5 := c_X15_refused (l := l) (D := D) (cy := cy) (ka := ka) hcs5
    refine v_callV cb_16 hk_p0 (As := [.int (1 : Int32)]) (rest := []) hts5 yb_X15_refused kw_1729 kw_1731 kp_77 rfl ⟨Nat.le_of_ble_eq_true rfl, Nat.le_of_ble_eq_true rfl⟩ rfl (cat_len (Nat.le_of_ble_eq_true rfl)) dX15_edition_15 ?_
    have hk_p0 := tk_ hts5.1 hk_p0
    show v_ l D cy ka cX15_edition RX15 10 (some FieldType.int) "edition" 42 968 (qf_ D cy σ z (some (.int r))) σ z _ 18 [(0, va_rf (some p0)), (1, .int p1), (2, .int p2), (3, .int p3)] [.int x4]
    exact v_iret hf dX15_edition_18
  · refine v_iload_n (x := p2) dX15_edition_19 rfl 2 rfl ?_
    refine v_iconst (v := 1) dX15_edition_20 (by decide) ?_
    refine v_sipush (v := 4000) dX15_edition_21 (by decide) ?_
    obtain ⟨x6, s7, hcs7, hf⟩ := bd_of hf
    have hts7 := c_X15_in (l := l) (D := D) (cy := cy) (ka := ka) hcs7
    refine v_callS (As := [.int p2, .int (1 : Int32), .int (4000 : Int32)]) (rest := []) hts7 yb_X15_in kw_1726 kw_1727 rfl ⟨Nat.le_of_ble_eq_true rfl, Nat.le_of_ble_eq_true rfl⟩ rfl (cat_len (Nat.le_of_ble_eq_true rfl)) dX15_edition_24 ?_
    have hk_p0 := tk_ hts7.1 hk_p0
    show v_ l D cy ka cX15_edition RX15 10 (some FieldType.int) "edition" 42 968 (qf_ D cy σ z (some (.int r))) σ z _ 27 [(0, va_rf (some p0)), (1, .int p1), (2, .int p2), (3, .int p3)] [.int x6]
    refine v_if_ne (tgt := 36) hf dX15_edition_27 (by decide) (fun hq hf => ?_) (fun hq hf => ?_)
    · refine v_aload_n (x := (some p0)) dX15_edition_30 rfl 0 rfl ?_
      refine v_iconst (v := 2) dX15_edition_31 (by decide) ?_
      obtain ⟨x8, s9, hcs9, hf⟩ := bd_of hf
      have hts9 := c_X15_refused (l := l) (D := D) (cy := cy) (ka := ka) hcs9
      refine v_callV cb_16 hk_p0 (As := [.int (2 : Int32)]) (rest := []) hts9 yb_X15_refused kw_1729 kw_1731 kp_77 rfl ⟨Nat.le_of_ble_eq_true rfl, Nat.le_of_ble_eq_true rfl⟩ rfl (cat_len (Nat.le_of_ble_eq_true rfl)) dX15_edition_32 ?_
      have hk_p0 := tk_ hts9.1 hk_p0
      show v_ l D cy ka cX15_edition RX15 10 (some FieldType.int) "edition" 42 968 (qf_ D cy σ z (some (.int r))) σ z _ 35 [(0, va_rf (some p0)), (1, .int p1), (2, .int p2), (3, .int p3)] [.int x8]
      exact v_iret hf dX15_edition_35
    · refine v_aload_n (x := (some p0)) dX15_edition_36 rfl 0 rfl ?_
      refine v_getr cb_16 hk_p0 15 1615 rfl (by decide) rfl (lk_n kw_1472 rfl) hf dX15_edition_37 (fun r10 hf => ?_)
      refine v_iload_n (x := p1) dX15_edition_40 rfl 1 rfl ?_
      obtain ⟨a11, rfl, hf⟩ := nn_of hf
      obtain ⟨hk_a11, hf⟩ := gt_of hf
      refine v_zald hk_a11 hf dX15_edition_41 (fun x12 hf => ?_)
      refine v_if_eq (tgt := 58) hf dX15_edition_42 (by decide) (fun hq hf => ?_) (fun hq hf => ?_)
      · refine v_sub [0] (L2 := [(0, va_rf (some p0))]) rfl ?_
        exact t_X15_edition_b58  hf
      · refine v_aload_n (x := (some p0)) dX15_edition_45 rfl 0 rfl ?_
        refine v_geti cb_16 hk_p0 6 1606 rfl (by decide) rfl (lk_n kw_1463 rfl) hf dX15_edition_46 (fun x15 hf => ?_)
        refine v_aload_n (x := (some p0)) dX15_edition_49 rfl 0 rfl ?_
        refine v_getr cb_16 hk_p0 13 1613 rfl (by decide) rfl (lk_n kw_1470 rfl) hf dX15_edition_50 (fun r16 hf => ?_)
        refine v_iload_n (x := p1) dX15_edition_53 rfl 1 rfl ?_
        obtain ⟨a17, rfl, hf⟩ := nn_of hf
        obtain ⟨hk_a17, hf⟩ := gt_of hf
        refine v_iald hk_a17 hf dX15_edition_54 (fun x18 hf => ?_)
        refine v_icmp_ge (tgt := 64) hf dX15_edition_55 (by decide) (fun hq hf => ?_) (fun hq hf => ?_)
        · refine v_aload_n (x := (some p0)) dX15_edition_64 rfl 0 rfl ?_
          refine v_geti cb_16 hk_p0 71 1671 rfl (by decide) rfl (lk_n kw_1528 rfl) hf dX15_edition_65 (fun x19 hf => ?_)
          refine v_bipush (v := 80) dX15_edition_68 (by decide) ?_
          refine v_icmp_ne (tgt := 79) hf dX15_edition_70 (by decide) (fun hq hf => ?_) (fun hq hf => ?_)
          · refine v_aload_n (x := (some p0)) dX15_edition_73 rfl 0 rfl ?_
            refine v_iconst (v := 3) dX15_edition_74 (by decide) ?_
            obtain ⟨x20, s21, hcs21, hf⟩ := bd_of hf
            have hts21 := c_X15_refused (l := l) (D := D) (cy := cy) (ka := ka) hcs21
            refine v_callV cb_16 hk_p0 (As := [.int (3 : Int32)]) (rest := []) hts21 yb_X15_refused kw_1729 kw_1731 kp_77 rfl ⟨Nat.le_of_ble_eq_true rfl, Nat.le_of_ble_eq_true rfl⟩ rfl (cat_len (Nat.le_of_ble_eq_true rfl)) dX15_edition_75 ?_
            have hk_p0 := tk_ hts21.1 hk_p0
            show v_ l D cy ka cX15_edition RX15 10 (some FieldType.int) "edition" 42 968 (qf_ D cy σ z (some (.int r))) σ z _ 78 [(0, va_rf (some p0)), (1, .int p1), (2, .int p2), (3, .int p3)] [.int x20]
            exact v_iret hf dX15_edition_78
          · refine v_new2 cb_13 df_13 kw_1455 kw_2170 kw_33 14 rfl hf dX15_edition_79 (fun a22 s23 hts23 hk_a22 hf => ?_)
            have hk_p0 := tk_ hts23 hk_p0
            refine v_dup dX15_edition_82 (va_rf_cat _) ?_
            obtain ⟨x24, s25, hcs25, hf⟩ := bd_of hf
            have hts25 := c_X12_init (l := l) (D := D) (cy := cy) (ka := ka) hcs25
            refine v_callIN (As := []) (rest := [va_rf (some a22)]) hts25 yb_X12_init kw_2171 kw_2172 rfl rfl ⟨Nat.le_of_ble_eq_true rfl, Nat.le_of_ble_eq_true rfl⟩ rfl (cat_len (Nat.le_of_ble_eq_true rfl)) dX15_edition_83 ?_
            have hk_p0 := tk_ hts25.1 hk_p0
            have hk_a22 := tk_ hts25.1 hk_a22
            show v_ l D cy ka cX15_edition RX15 10 (some FieldType.int) "edition" 42 968 (qf_ D cy σ z (some (.int r))) σ z _ 86 [(0, va_rf (some p0)), (1, .int p1), (2, .int p2), (3, .int p3)] [va_rf (some a22)]
            refine v_astore [(4, va_rf (some a22)), (0, va_rf (some p0)), (1, .int p1), (2, .int p2), (3, .int p3)] dX15_edition_86 (by decide) rfl ?_
            refine v_aload (x := (some a22)) dX15_edition_88 0 rfl ?_
            refine v_iload_n (x := p1) dX15_edition_90 rfl 2 rfl ?_
            refine v_puti2 cb_13 hk_a22 0 1300 rfl (by decide) rfl (lk_N kw_2175 rfl) (Or.inl rfl) rfl rfl hf dX15_edition_91 (fun s26 hts26 hf => ?_)
            have hk_p0 := tk_ hts26 hk_p0
            have hk_a22 := tk_ hts26 hk_a22
            refine v_aload (x := (some a22)) dX15_edition_94 0 rfl ?_
            refine v_aload_n (x := (some p0)) dX15_edition_96 rfl 1 rfl ?_
            obtain ⟨x27, s28, hcs28, hf⟩ := bd_of hf
            have hts28 := c_X15_today (l := l) (D := D) (cy := cy) (ka := ka) hcs28
            refine v_callV cb_16 hk_p0 (As := []) (rest := [va_rf (some a22)]) hts28 yb_X15_today kw_1774 kw_1776 kp_84 rfl ⟨Nat.le_of_ble_eq_true rfl, Nat.le_of_ble_eq_true rfl⟩ rfl (cat_len (Nat.le_of_ble_eq_true rfl)) dX15_edition_97 ?_
            have hk_p0 := tk_ hts28.1 hk_p0
            have hk_a22 := tk_ hts28.1 hk_a22
            show v_ l D cy ka cX15_edition RX15 10 (some FieldType.int) "edition" 42 968 (qf_ D cy σ z (some (.int r))) σ z _ 100 [(4, va_rf (some a22)), (0, va_rf (some p0)), (1, .int p1), (2, .int p2), (3, .int p3)] [.int x27, va_rf (some a22)]
            refine v_puti2 cb_13 hk_a22 1 1301 rfl (by decide) rfl (lk_N kw_2176 rfl) (Or.inl rfl) rfl rfl hf dX15_edition_100 (fun s29 hts29 hf => ?_)
            have hk_p0 := tk_ hts29 hk_p0
            have hk_a22 := tk_ hts29 hk_a22
            refine v_iload_n (x := p2) dX15_edition_103 rfl 3 rfl ?_
            refine v_istore [(5, .int p2), (4, va_rf (some a22)), (0, va_rf (some p0)), (1, .int p1), (2, .int p2), (3, .int p3)] dX15_edition_104 (by decide) rfl ?_
            refine v_aload (x := (some a22)) dX15_edition_106 1 rfl ?_
            refine v_iload (x := p2) dX15_edition_108 0 rfl ?_
            refine v_sipush (v := 200) dX15_edition_110 (by decide) ?_
            refine v_icmp_lt (tgt := 124) hf dX15_edition_113 (by decide) (fun hq hf => ?_) (fun hq hf => ?_)
            · refine v_bipush (v := (-2)) dX15_edition_124 (by decide) ?_
              refine v_sub [2, 3, 4, 5, 1, 0] (L2 := [(0, va_rf (some p0)), (1, .int p1), (2, .int p2), (3, .int p3), (4, va_rf (some a22)), (5, .int p2)]) rfl ?_
              exact t_X15_edition_b126  hf
            · refine v_aload_n (x := (some p0)) dX15_edition_116 rfl 2 rfl ?_
              refine v_iload_n (x := p1) dX15_edition_117 rfl 3 rfl ?_
              obtain ⟨x97, s98, hcs98, hf⟩ := bd_of hf
              have hts98 := c_X15_bestPicture (l := l) (D := D) (cy := cy) (ka := ka) hcs98
              refine v_callV cb_16 hk_p0 (As := [.int p1]) (rest := [va_rf (some a22)]) hts98 yb_X15_bestPicture kw_2211 kw_2213 kp_132 rfl ⟨Nat.le_of_ble_eq_true rfl, Nat.le_of_ble_eq_true rfl⟩ rfl (cat_len (Nat.le_of_ble_eq_true rfl)) dX15_edition_118 ?_
              have hk_p0 := tk_ hts98.1 hk_p0
              have hk_a22 := tk_ hts98.1 hk_a22
              show v_ l D cy ka cX15_edition RX15 10 (some FieldType.int) "edition" 42 968 (qf_ D cy σ z (some (.int r))) σ z _ 121 [(5, .int p2), (4, va_rf (some a22)), (0, va_rf (some p0)), (1, .int p1), (2, .int p2), (3, .int p3)] [.int x97, va_rf (some a22)]
              refine v_goto (tgt := 126) dX15_edition_121 (by decide) ?_
              refine v_sub [2, 3, 4, 5, 1, 0] (L2 := [(0, va_rf (some p0)), (1, .int p1), (2, .int p2), (3, .int p3), (4, va_rf (some a22)), (5, .int p2)]) rfl ?_
              exact t_X15_edition_b126  hf
        · refine v_sub [0] (L2 := [(0, va_rf (some p0))]) rfl ?_
          exact t_X15_edition_b58  hf
theorem dX15_may_0 : decode cX15_may 0 = .ok (.aload_n 0, 1) := by decide +kernel
theorem dX15_may_1 : decode cX15_may 1 = .ok (.iconst 0, 1) := by decide +kernel
theorem dX15_may_2 : decode cX15_may 2 = .ok (.putfield 1, 3) := by decide +kernel
theorem dX15_may_5 : decode cX15_may 5 = .ok (.aload_n 0, 1) := by decide +kernel
theorem dX15_may_6 : decode cX15_may 6 = .ok (.iload_n 1, 1) := by decide +kernel
theorem dX15_may_7 : decode cX15_may 7 = .ok (.invokevirtual 227, 3) := by decide +kernel
theorem dX15_may_10 : decode cX15_may 10 = .ok (.ifCond .eq 12, 3) := by decide +kernel
theorem dX15_may_13 : decode cX15_may 13 = .ok (.aload_n 0, 1) := by decide +kernel
theorem dX15_may_14 : decode cX15_may 14 = .ok (.getfield 45, 3) := by decide +kernel
theorem dX15_may_17 : decode cX15_may 17 = .ok (.iload_n 1, 1) := by decide +kernel
theorem dX15_may_18 : decode cX15_may 18 = .ok (.baload, 1) := by decide +kernel
theorem dX15_may_19 : decode cX15_may 19 = .ok (.ifCond .eq 9, 3) := by decide +kernel
theorem dX15_may_22 : decode cX15_may 22 = .ok (.aload_n 0, 1) := by decide +kernel
theorem dX15_may_23 : decode cX15_may 23 = .ok (.iconst 1, 1) := by decide +kernel
theorem dX15_may_24 : decode cX15_may 24 = .ok (.invokevirtual 201, 3) := by decide +kernel
theorem dX15_may_27 : decode cX15_may 27 = .ok (.ireturn, 1) := by decide +kernel
theorem dX15_may_28 : decode cX15_may 28 = .ok (.aload_n 0, 1) := by decide +kernel
theorem dX15_may_29 : decode cX15_may 29 = .ok (.aload_n 0, 1) := by decide +kernel
theorem dX15_may_30 : decode cX15_may 30 = .ok (.iload_n 1, 1) := by decide +kernel
theorem dX15_may_31 : decode cX15_may 31 = .ok (.invokevirtual 556, 3) := by decide +kernel
theorem dX15_may_34 : decode cX15_may 34 = .ok (.ifCond .eq 7, 3) := by decide +kernel
theorem dX15_may_37 : decode cX15_may 37 = .ok (.iconst 1, 1) := by decide +kernel
theorem dX15_may_38 : decode cX15_may 38 = .ok (.goto 4, 3) := by decide +kernel
theorem dX15_may_41 : decode cX15_may 41 = .ok (.iconst 0, 1) := by decide +kernel
theorem dX15_may_42 : decode cX15_may 42 = .ok (.invokevirtual 205, 3) := by decide +kernel
theorem dX15_may_45 : decode cX15_may 45 = .ok (.ireturn, 1) := by decide +kernel
def f_X15_may_b22 (σ : TH) (l0 : Nat) : Option (Int32 × TH) :=
  gt_ (kd_ σ l0 = 17) <| bd_ (f_X15_refused σ l0 (1 : Int32)) fun x4 s5 => some (x4, s5)
set_option maxHeartbeats 4000000 in
set_option maxRecDepth 100000 in
theorem t_X15_may_b22 {l : Launch} {D : va_G} {cy : Nat → ClassId} {ka : Nat → Nat} {σ0 z : TH} {r : Int32}  {σ : TH} {l0 : Nat} (hf : f_X15_may_b22 σ l0 = some (r, z)) : v_ l D cy ka cX15_may RX15 2 (some FieldType.int) "may" 15 330 (qf_ D cy σ0 z (some (.int r))) σ0 z σ 22 [(0, va_rf (some l0))] [] := by
  unfold f_X15_may_b22 at hf
  refine v_aload_n (x := (some l0)) dX15_may_22 rfl 0 rfl ?_
  refine v_iconst (v := 1) dX15_may_23 (by decide) ?_
  obtain ⟨hk_l0, hf⟩ := gt_of hf
  obtain ⟨x4, s5, hcs5, hf⟩ := bd_of hf
  have hts5 := c_X15_refused (l := l) (D := D) (cy := cy) (ka := ka) hcs5
  refine v_callV cb_16 hk_l0 (As := [.int (1 : Int32)]) (rest := []) hts5 yb_X15_refused kw_1729 kw_1731 kp_77 rfl ⟨Nat.le_of_ble_eq_true rfl, Nat.le_of_ble_eq_true rfl⟩ rfl (cat_len (Nat.le_of_ble_eq_true rfl)) dX15_may_24 ?_
  have hk_l0 := tk_ hts5.1 hk_l0
  show v_ l D cy ka cX15_may RX15 2 (some FieldType.int) "may" 15 330 (qf_ D cy σ0 z (some (.int r))) σ0 z _ 27 [(0, va_rf (some l0))] [.int x4]
  exact v_iret hf dX15_may_27
def f_X15_may_b42 (σ : TH) (t0 : Int32) (t1 : Option Nat) : Option (Int32 × TH) :=
  nn_ t1 fun a11 => gt_ (kd_ σ a11 = 17) <| bd_ (f_X15_done σ a11 t0) fun x12 s13 => some (x12, s13)
set_option maxHeartbeats 4000000 in
set_option maxRecDepth 100000 in
theorem t_X15_may_b42 {l : Launch} {D : va_G} {cy : Nat → ClassId} {ka : Nat → Nat} {σ0 z : TH} {r : Int32}  {σ : TH} {t0 : Int32} {t1 : Option Nat} (hf : f_X15_may_b42 σ t0 t1 = some (r, z)) : v_ l D cy ka cX15_may RX15 2 (some FieldType.int) "may" 15 330 (qf_ D cy σ0 z (some (.int r))) σ0 z σ 42 [] [.int t0, va_rf t1] := by
  unfold f_X15_may_b42 at hf
  obtain ⟨a11, rfl, hf⟩ := nn_of hf
  obtain ⟨hk_a11, hf⟩ := gt_of hf
  obtain ⟨x12, s13, hcs13, hf⟩ := bd_of hf
  have hts13 := c_X15_done (l := l) (D := D) (cy := cy) (ka := ka) hcs13
  refine v_callV cb_16 hk_a11 (As := [.int t0]) (rest := []) hts13 yb_X15_done kw_1733 kw_1735 kp_78 rfl ⟨Nat.le_of_ble_eq_true rfl, Nat.le_of_ble_eq_true rfl⟩ rfl (cat_len (Nat.le_of_ble_eq_true rfl)) dX15_may_42 ?_
  show v_ l D cy ka cX15_may RX15 2 (some FieldType.int) "may" 15 330 (qf_ D cy σ0 z (some (.int r))) σ0 z _ 45 [] [.int x12]
  exact v_iret hf dX15_may_45
/-- LivesAheadModel.may(I)I -/
def f_X15_may (σ : TH) (p0 : Nat) (p1 : Int32) : Option (Int32 × TH) :=
  gt_ (kd_ σ p0 = 17) <| lt_ (si_ σ 1600 p0 (0 : Int32)) fun s1 => bd_ (f_X15_isPerson s1 p0 p1) fun x2 s3 => if x2 = 0 then (f_X15_may_b22 s3 p0) else (lt_ (fr_ s3 1615 p0) fun r6 => nn_ r6 fun a7 => gt_ (kd_ s3 a7 = 22) <| gt_ (¬ (p1 < 0 ∨ ln_ s3 a7 ≤ p1.toNatClampNeg)) <| lt_ (ai_ s3 a7 p1.toNatClampNeg) fun x8 => if x8 = 0 then (bd_ (f_X15_mayBeTold s3 p0 p1) fun x9 s10 => if x9 = 0 then (f_X15_may_b42 s10 (0 : Int32) (some p0)) else (f_X15_may_b42 s10 (1 : Int32) (some p0))) else (f_X15_may_b22 s3 p0))
set_option maxHeartbeats 4000000 in
set_option maxRecDepth 100000 in
theorem c_X15_may {l : Launch} {D : va_G} {cy : Nat → ClassId} {ka : Nat → Nat} {σ z : TH} {p0 : Nat} {p1 : Int32} {r : Int32} (hf : f_X15_may σ p0 p1 = some (r, z)) : ct_ l D cy ka yX15_may 15 330 [va_rf (some p0), .int p1] σ (some (.int r)) z := by
  unfold f_X15_may at hf
  refine v_start (cc := cX15_may) (own := RX15) (maxL := 2) (ret := (some FieldType.int)) (nm := "may") (by decide +kernel) kw_2137 rfl rfl (by simp [lg_sl, va_rf_cat, cat_i, cat_l]) ?_
  refine v_eqL (L2 := [(0, va_rf (some p0)), (1, .int p1)]) (by simp [lv_args, va_rf_cat, cat_i, cat_l]) ?_
  refine v_aload_n (x := (some p0)) dX15_may_0 rfl 0 rfl ?_
  refine v_iconst (v := 0) dX15_may_1 (by decide) ?_
  obtain ⟨hk_p0, hf⟩ := gt_of hf
  refine v_puti2 cb_16 hk_p0 0 1600 rfl (by decide) rfl (lk_n kw_1457 rfl) (Or.inl rfl) rfl rfl hf dX15_may_2 (fun s1 hts1 hf => ?_)
  have hk_p0 := tk_ hts1 hk_p0
  refine v_aload_n (x := (some p0)) dX15_may_5 rfl 0 rfl ?_
  refine v_iload_n (x := p1) dX15_may_6 rfl 1 rfl ?_
  obtain ⟨x2, s3, hcs3, hf⟩ := bd_of hf
  have hts3 := c_X15_isPerson (l := l) (D := D) (cy := cy) (ka := ka) hcs3
  refine v_callV cb_16 hk_p0 (As := [.int p1]) (rest := []) hts3 yb_X15_isPerson kw_1770 kw_1772 kp_83 rfl ⟨Nat.le_of_ble_eq_true rfl, Nat.le_of_ble_eq_true rfl⟩ rfl (cat_len (Nat.le_of_ble_eq_true rfl)) dX15_may_7 ?_
  have hk_p0 := tk_ hts3.1 hk_p0
  show v_ l D cy ka cX15_may RX15 2 (some FieldType.int) "may" 15 330 (qf_ D cy σ z (some (.int r))) σ z _ 10 [(0, va_rf (some p0)), (1, .int p1)] [.int x2]
  refine v_if_eq (tgt := 22) hf dX15_may_10 (by decide) (fun hq hf => ?_) (fun hq hf => ?_)
  · refine v_sub [0] (L2 := [(0, va_rf (some p0))]) rfl ?_
    exact t_X15_may_b22  hf
  · refine v_aload_n (x := (some p0)) dX15_may_13 rfl 0 rfl ?_
    refine v_getr cb_16 hk_p0 15 1615 rfl (by decide) rfl (lk_n kw_1472 rfl) hf dX15_may_14 (fun r6 hf => ?_)
    refine v_iload_n (x := p1) dX15_may_17 rfl 1 rfl ?_
    obtain ⟨a7, rfl, hf⟩ := nn_of hf
    obtain ⟨hk_a7, hf⟩ := gt_of hf
    refine v_zald hk_a7 hf dX15_may_18 (fun x8 hf => ?_)
    refine v_if_eq (tgt := 28) hf dX15_may_19 (by decide) (fun hq hf => ?_) (fun hq hf => ?_)
    · refine v_aload_n (x := (some p0)) dX15_may_28 rfl 0 rfl ?_
      refine v_aload_n (x := (some p0)) dX15_may_29 rfl 0 rfl ?_
      refine v_iload_n (x := p1) dX15_may_30 rfl 1 rfl ?_
      obtain ⟨x9, s10, hcs10, hf⟩ := bd_of hf
      have hts10 := c_X15_mayBeTold (l := l) (D := D) (cy := cy) (ka := ka) hcs10
      refine v_callV cb_16 hk_p0 (As := [.int p1]) (rest := [va_rf (some p0)]) hts10 yb_X15_mayBeTold kw_2138 kw_2140 kp_131 rfl ⟨Nat.le_of_ble_eq_true rfl, Nat.le_of_ble_eq_true rfl⟩ rfl (cat_len (Nat.le_of_ble_eq_true rfl)) dX15_may_31 ?_
      have hk_p0 := tk_ hts10.1 hk_p0
      show v_ l D cy ka cX15_may RX15 2 (some FieldType.int) "may" 15 330 (qf_ D cy σ z (some (.int r))) σ z _ 34 [(0, va_rf (some p0)), (1, .int p1)] [.int x9, va_rf (some p0)]
      refine v_if_eq (tgt := 41) hf dX15_may_34 (by decide) (fun hq hf => ?_) (fun hq hf => ?_)
      · refine v_iconst (v := 0) dX15_may_41 (by decide) ?_
        refine v_sub [] (L2 := []) rfl ?_
        exact t_X15_may_b42  hf
      · refine v_iconst (v := 1) dX15_may_37 (by decide) ?_
        refine v_goto (tgt := 42) dX15_may_38 (by decide) ?_
        refine v_sub [] (L2 := []) rfl ?_
        exact t_X15_may_b42  hf
    · refine v_sub [0] (L2 := [(0, va_rf (some p0))]) rfl ?_
      exact t_X15_may_b22  hf
theorem dX15_tell_0 : decode cX15_tell 0 = .ok (.aload_n 0, 1) := by decide +kernel
theorem dX15_tell_1 : decode cX15_tell 1 = .ok (.iconst 0, 1) := by decide +kernel
theorem dX15_tell_2 : decode cX15_tell 2 = .ok (.putfield 1, 3) := by decide +kernel
theorem dX15_tell_5 : decode cX15_tell 5 = .ok (.aload_n 0, 1) := by decide +kernel
theorem dX15_tell_6 : decode cX15_tell 6 = .ok (.iload_n 1, 1) := by decide +kernel
theorem dX15_tell_7 : decode cX15_tell 7 = .ok (.invokevirtual 227, 3) := by decide +kernel
theorem dX15_tell_10 : decode cX15_tell 10 = .ok (.ifCond .ne 9, 3) := by decide +kernel
theorem dX15_tell_13 : decode cX15_tell 13 = .ok (.aload_n 0, 1) := by decide +kernel
theorem dX15_tell_14 : decode cX15_tell 14 = .ok (.iconst 1, 1) := by decide +kernel
theorem dX15_tell_15 : decode cX15_tell 15 = .ok (.invokevirtual 201, 3) := by decide +kernel
theorem dX15_tell_18 : decode cX15_tell 18 = .ok (.ireturn, 1) := by decide +kernel
theorem dX15_tell_19 : decode cX15_tell 19 = .ok (.aload_n 0, 1) := by decide +kernel
theorem dX15_tell_20 : decode cX15_tell 20 = .ok (.getfield 45, 3) := by decide +kernel
theorem dX15_tell_23 : decode cX15_tell 23 = .ok (.iload_n 1, 1) := by decide +kernel
theorem dX15_tell_24 : decode cX15_tell 24 = .ok (.baload, 1) := by decide +kernel
theorem dX15_tell_25 : decode cX15_tell 25 = .ok (.ifCond .ne 11, 3) := by decide +kernel
theorem dX15_tell_28 : decode cX15_tell 28 = .ok (.aload_n 0, 1) := by decide +kernel
theorem dX15_tell_29 : decode cX15_tell 29 = .ok (.iload_n 1, 1) := by decide +kernel
theorem dX15_tell_30 : decode cX15_tell 30 = .ok (.invokevirtual 556, 3) := by decide +kernel
theorem dX15_tell_33 : decode cX15_tell 33 = .ok (.ifCond .ne 9, 3) := by decide +kernel
theorem dX15_tell_36 : decode cX15_tell 36 = .ok (.aload_n 0, 1) := by decide +kernel
theorem dX15_tell_37 : decode cX15_tell 37 = .ok (.iconst 5, 1) := by decide +kernel
theorem dX15_tell_38 : decode cX15_tell 38 = .ok (.invokevirtual 201, 3) := by decide +kernel
theorem dX15_tell_41 : decode cX15_tell 41 = .ok (.ireturn, 1) := by decide +kernel
theorem dX15_tell_42 : decode cX15_tell 42 = .ok (.iconst (-1), 1) := by decide +kernel
theorem dX15_tell_43 : decode cX15_tell 43 = .ok (.istore_n 2, 1) := by decide +kernel
theorem dX15_tell_44 : decode cX15_tell 44 = .ok (.iconst 0, 1) := by decide +kernel
theorem dX15_tell_45 : decode cX15_tell 45 = .ok (.istore_n 3, 1) := by decide +kernel
theorem dX15_tell_46 : decode cX15_tell 46 = .ok (.iconst 0, 1) := by decide +kernel
theorem dX15_tell_47 : decode cX15_tell 47 = .ok (.istore 4, 2) := by decide +kernel
theorem dX15_tell_49 : decode cX15_tell 49 = .ok (.iload 4, 2) := by decide +kernel
theorem dX15_tell_51 : decode cX15_tell 51 = .ok (.aload_n 0, 1) := by decide +kernel
theorem dX15_tell_52 : decode cX15_tell 52 = .ok (.getfield 540, 3) := by decide +kernel
theorem dX15_tell_55 : decode cX15_tell 55 = .ok (.if_icmp .ge 117, 3) := by decide +kernel
theorem dX15_tell_58 : decode cX15_tell 58 = .ok (.aload_n 0, 1) := by decide +kernel
theorem dX15_tell_59 : decode cX15_tell 59 = .ok (.iload 4, 2) := by decide +kernel
theorem dX15_tell_61 : decode cX15_tell 61 = .ok (.iload_n 1, 1) := by decide +kernel
theorem dX15_tell_62 : decode cX15_tell 62 = .ok (.invokevirtual 553, 3) := by decide +kernel
theorem dX15_tell_65 : decode cX15_tell 65 = .ok (.ifCond .ne 6, 3) := by decide +kernel
theorem dX15_tell_68 : decode cX15_tell 68 = .ok (.goto 98, 3) := by decide +kernel
theorem dX15_tell_71 : decode cX15_tell 71 = .ok (.iconst 0, 1) := by decide +kernel
theorem dX15_tell_72 : decode cX15_tell 72 = .ok (.istore 5, 2) := by decide +kernel
theorem dX15_tell_74 : decode cX15_tell 74 = .ok (.iconst 0, 1) := by decide +kernel
theorem dX15_tell_75 : decode cX15_tell 75 = .ok (.istore 6, 2) := by decide +kernel
theorem dX15_tell_77 : decode cX15_tell 77 = .ok (.iload 6, 2) := by decide +kernel
theorem dX15_tell_79 : decode cX15_tell 79 = .ok (.aload_n 0, 1) := by decide +kernel
theorem dX15_tell_80 : decode cX15_tell 80 = .ok (.getfield 540, 3) := by decide +kernel
theorem dX15_tell_83 : decode cX15_tell 83 = .ok (.if_icmp .ge 46, 3) := by decide +kernel
theorem dX15_tell_86 : decode cX15_tell 86 = .ok (.iload 5, 2) := by decide +kernel
theorem dX15_tell_88 : decode cX15_tell 88 = .ok (.aload_n 0, 1) := by decide +kernel
theorem dX15_tell_89 : decode cX15_tell 89 = .ok (.getfield 125, 3) := by decide +kernel
theorem dX15_tell_92 : decode cX15_tell 92 = .ok (.iload 6, 2) := by decide +kernel
theorem dX15_tell_94 : decode cX15_tell 94 = .ok (.iaload, 1) := by decide +kernel
theorem dX15_tell_95 : decode cX15_tell 95 = .ok (.aload_n 0, 1) := by decide +kernel
theorem dX15_tell_96 : decode cX15_tell 96 = .ok (.getfield 125, 3) := by decide +kernel
theorem dX15_tell_99 : decode cX15_tell 99 = .ok (.iload 4, 2) := by decide +kernel
theorem dX15_tell_101 : decode cX15_tell 101 = .ok (.iaload, 1) := by decide +kernel
theorem dX15_tell_102 : decode cX15_tell 102 = .ok (.if_icmp .ne 17, 3) := by decide +kernel
theorem dX15_tell_105 : decode cX15_tell 105 = .ok (.aload_n 0, 1) := by decide +kernel
theorem dX15_tell_106 : decode cX15_tell 106 = .ok (.iload 6, 2) := by decide +kernel
theorem dX15_tell_108 : decode cX15_tell 108 = .ok (.iload_n 1, 1) := by decide +kernel
theorem dX15_tell_109 : decode cX15_tell 109 = .ok (.invokevirtual 553, 3) := by decide +kernel
theorem dX15_tell_112 : decode cX15_tell 112 = .ok (.ifCond .eq 7, 3) := by decide +kernel
theorem dX15_tell_115 : decode cX15_tell 115 = .ok (.iconst 1, 1) := by decide +kernel
theorem dX15_tell_116 : decode cX15_tell 116 = .ok (.goto 4, 3) := by decide +kernel
theorem dX15_tell_119 : decode cX15_tell 119 = .ok (.iconst 0, 1) := by decide +kernel
theorem dX15_tell_120 : decode cX15_tell 120 = .ok (.iadd, 1) := by decide +kernel
theorem dX15_tell_121 : decode cX15_tell 121 = .ok (.istore 5, 2) := by decide +kernel
theorem dX15_tell_123 : decode cX15_tell 123 = .ok (.iinc 6 1, 3) := by decide +kernel
theorem dX15_tell_126 : decode cX15_tell 126 = .ok (.goto (-49), 3) := by decide +kernel
theorem dX15_tell_129 : decode cX15_tell 129 = .ok (.iload 5, 2) := by decide +kernel
theorem dX15_tell_131 : decode cX15_tell 131 = .ok (.iload_n 3, 1) := by decide +kernel
theorem dX15_tell_132 : decode cX15_tell 132 = .ok (.if_icmp .lt 34, 3) := by decide +kernel
theorem dX15_tell_135 : decode cX15_tell 135 = .ok (.iload 5, 2) := by decide +kernel
theorem dX15_tell_137 : decode cX15_tell 137 = .ok (.iload_n 3, 1) := by decide +kernel
theorem dX15_tell_138 : decode cX15_tell 138 = .ok (.if_icmp .ne 17, 3) := by decide +kernel
theorem dX15_tell_141 : decode cX15_tell 141 = .ok (.aload_n 0, 1) := by decide +kernel
theorem dX15_tell_142 : decode cX15_tell 142 = .ok (.getfield 125, 3) := by decide +kernel
theorem dX15_tell_145 : decode cX15_tell 145 = .ok (.iload 4, 2) := by decide +kernel
theorem dX15_tell_147 : decode cX15_tell 147 = .ok (.iaload, 1) := by decide +kernel
theorem dX15_tell_148 : decode cX15_tell 148 = .ok (.iload_n 2, 1) := by decide +kernel
theorem dX15_tell_149 : decode cX15_tell 149 = .ok (.if_icmp .lt 6, 3) := by decide +kernel
theorem dX15_tell_152 : decode cX15_tell 152 = .ok (.goto 14, 3) := by decide +kernel
theorem dX15_tell_155 : decode cX15_tell 155 = .ok (.iload 5, 2) := by decide +kernel
theorem dX15_tell_157 : decode cX15_tell 157 = .ok (.istore_n 3, 1) := by decide +kernel
theorem dX15_tell_158 : decode cX15_tell 158 = .ok (.aload_n 0, 1) := by decide +kernel
theorem dX15_tell_159 : decode cX15_tell 159 = .ok (.getfield 125, 3) := by decide +kernel
theorem dX15_tell_162 : decode cX15_tell 162 = .ok (.iload 4, 2) := by decide +kernel
theorem dX15_tell_164 : decode cX15_tell 164 = .ok (.iaload, 1) := by decide +kernel
theorem dX15_tell_165 : decode cX15_tell 165 = .ok (.istore_n 2, 1) := by decide +kernel
theorem dX15_tell_166 : decode cX15_tell 166 = .ok (.iinc 4 1, 3) := by decide +kernel
theorem dX15_tell_169 : decode cX15_tell 169 = .ok (.goto (-120), 3) := by decide +kernel
theorem dX15_tell_172 : decode cX15_tell 172 = .ok (.aload_n 0, 1) := by decide +kernel
theorem dX15_tell_173 : decode cX15_tell 173 = .ok (.getfield 45, 3) := by decide +kernel
theorem dX15_tell_176 : decode cX15_tell 176 = .ok (.iload_n 1, 1) := by decide +kernel
theorem dX15_tell_177 : decode cX15_tell 177 = .ok (.iconst 1, 1) := by decide +kernel
theorem dX15_tell_178 : decode cX15_tell 178 = .ok (.bastore, 1) := by decide +kernel
theorem dX15_tell_179 : decode cX15_tell 179 = .ok (.aload_n 0, 1) := by decide +kernel
theorem dX15_tell_180 : decode cX15_tell 180 = .ok (.getfield 35, 3) := by decide +kernel
theorem dX15_tell_183 : decode cX15_tell 183 = .ok (.iload_n 1, 1) := by decide +kernel
theorem dX15_tell_184 : decode cX15_tell 184 = .ok (.iload_n 2, 1) := by decide +kernel
theorem dX15_tell_185 : decode cX15_tell 185 = .ok (.iastore, 1) := by decide +kernel
theorem dX15_tell_186 : decode cX15_tell 186 = .ok (.aload_n 0, 1) := by decide +kernel
theorem dX15_tell_187 : decode cX15_tell 187 = .ok (.iload_n 2, 1) := by decide +kernel
theorem dX15_tell_188 : decode cX15_tell 188 = .ok (.invokevirtual 205, 3) := by decide +kernel
theorem dX15_tell_191 : decode cX15_tell 191 = .ok (.ireturn, 1) := by decide +kernel
def f_X15_tell_b36 (σ : TH) (l0 : Nat) : Option (Int32 × TH) :=
  gt_ (kd_ σ l0 = 17) <| bd_ (f_X15_refused σ l0 (5 : Int32)) fun x11 s12 => some (x11, s12)
set_option maxHeartbeats 4000000 in
set_option maxRecDepth 100000 in
theorem t_X15_tell_b36 {l : Launch} {D : va_G} {cy : Nat → ClassId} {ka : Nat → Nat} {σ0 z : TH} {r : Int32}  {σ : TH} {l0 : Nat} (hf : f_X15_tell_b36 σ l0 = some (r, z)) : v_ l D cy ka cX15_tell RX15 7 (some FieldType.int) "tell" 15 330 (qf_ D cy σ0 z (some (.int r))) σ0 z σ 36 [(0, va_rf (some l0))] [] := by
  unfold f_X15_tell_b36 at hf
  refine v_aload_n (x := (some l0)) dX15_tell_36 rfl 0 rfl ?_
  refine v_iconst (v := 5) dX15_tell_37 (by decide) ?_
  obtain ⟨hk_l0, hf⟩ := gt_of hf
  obtain ⟨x11, s12, hcs12, hf⟩ := bd_of hf
  have hts12 := c_X15_refused (l := l) (D := D) (cy := cy) (ka := ka) hcs12
  refine v_callV cb_16 hk_l0 (As := [.int (5 : Int32)]) (rest := []) hts12 yb_X15_refused kw_1729 kw_1731 kp_77 rfl ⟨Nat.le_of_ble_eq_true rfl, Nat.le_of_ble_eq_true rfl⟩ rfl (cat_len (Nat.le_of_ble_eq_true rfl)) dX15_tell_38 ?_
  have hk_l0 := tk_ hts12.1 hk_l0
  show v_ l D cy ka cX15_tell RX15 7 (some FieldType.int) "tell" 15 330 (qf_ D cy σ0 z (some (.int r))) σ0 z _ 41 [(0, va_rf (some l0))] [.int x11]
  exact v_iret hf dX15_tell_41
def f_X15_tell_b166 (rec_49 : TH → Nat → Int32 → Int32 → Int32 → Int32 → Option (Int32 × TH)) (σ : TH) (l0 : Nat) (l1 : Int32) (l2 : Int32) (l3 : Int32) (l4 : Int32) : Option (Int32 × TH) :=
  lt_ (l4 + 1) fun x24 => rec_49 σ l0 l1 l2 l3 x24
set_option maxHeartbeats 4000000 in
set_option maxRecDepth 100000 in
theorem t_X15_tell_b166 {l : Launch} {D : va_G} {cy : Nat → ClassId} {ka : Nat → Nat} {σ0 z : TH} {r : Int32} {rec_49 : TH → Nat → Int32 → Int32 → Int32 → Int32 → Option (Int32 × TH)} (hrec_49 : ∀ (σ : TH) (l0 : Nat) (l1 : Int32) (l2 : Int32) (l3 : Int32) (l4 : Int32), rec_49 σ l0 l1 l2 l3 l4 = some (r, z) → v_ l D cy ka cX15_tell RX15 7 (some FieldType.int) "tell" 15 330 (qf_ D cy σ0 z (some (.int r))) σ0 z σ 49 [(0, va_rf (some l0)), (1, .int l1), (2, .int l2), (3, .int l3), (4, .int l4)] []) {σ : TH} {l0 : Nat} {l1 : Int32} {l2 : Int32} {l3 : Int32} {l4 : Int32} (hf : f_X15_tell_b166 rec_49 σ l0 l1 l2 l3 l4 = some (r, z)) : v_ l D cy ka cX15_tell RX15 7 (some FieldType.int) "tell" 15 330 (qf_ D cy σ0 z (some (.int r))) σ0 z σ 166 [(0, va_rf (some l0)), (1, .int l1), (2, .int l2), (3, .int l3), (4, .int l4)] [] := by
  unfold f_X15_tell_b166 at hf
  obtain ⟨x24, ex24⟩ : ∃ y : Int32, y = l4 + 1 := ⟨_, rfl⟩
  rw [lt_e, ← ex24] at hf
  refine v_iinc (v := x24) [(4, .int x24), (0, va_rf (some l0)), (1, .int l1), (2, .int l2), (3, .int l3)] dX15_tell_166 4 rfl (by rw [ex24]; rfl) (by decide) rfl ?_
  refine v_goto (tgt := 49) dX15_tell_169 (by decide) ?_
  refine v_sub [1, 2, 3, 4, 0] (L2 := [(0, va_rf (some l0)), (1, .int l1), (2, .int l2), (3, .int l3), (4, .int x24)]) rfl ?_
  exact hrec_49 _ _ _ _ _ _ hf
def f_X15_tell_b155 (rec_49 : TH → Nat → Int32 → Int32 → Int32 → Int32 → Option (Int32 × TH)) (σ : TH) (l0 : Nat) (l1 : Int32) (l4 : Int32) (l5 : Int32) : Option (Int32 × TH) :=
  gt_ (kd_ σ l0 = 17) <| lt_ (fr_ σ 1663 l0) fun r29 => nn_ r29 fun a30 => gt_ (kd_ σ a30 = 20) <| gt_ (¬ (l4 < 0 ∨ ln_ σ a30 ≤ l4.toNatClampNeg)) <| lt_ (ai_ σ a30 l4.toNatClampNeg) fun x31 => f_X15_tell_b166 rec_49 σ l0 l1 x31 l5 l4
set_option maxHeartbeats 4000000 in
set_option maxRecDepth 100000 in
theorem t_X15_tell_b155 {l : Launch} {D : va_G} {cy : Nat → ClassId} {ka : Nat → Nat} {σ0 z : TH} {r : Int32} {rec_49 : TH → Nat → Int32 → Int32 → Int32 → Int32 → Option (Int32 × TH)} (hrec_49 : ∀ (σ : TH) (l0 : Nat) (l1 : Int32) (l2 : Int32) (l3 : Int32) (l4 : Int32), rec_49 σ l0 l1 l2 l3 l4 = some (r, z) → v_ l D cy ka cX15_tell RX15 7 (some FieldType.int) "tell" 15 330 (qf_ D cy σ0 z (some (.int r))) σ0 z σ 49 [(0, va_rf (some l0)), (1, .int l1), (2, .int l2), (3, .int l3), (4, .int l4)] []) {σ : TH} {l0 : Nat} {l1 : Int32} {l4 : Int32} {l5 : Int32} (hf : f_X15_tell_b155 rec_49 σ l0 l1 l4 l5 = some (r, z)) : v_ l D cy ka cX15_tell RX15 7 (some FieldType.int) "tell" 15 330 (qf_ D cy σ0 z (some (.int r))) σ0 z σ 155 [(0, va_rf (some l0)), (1, .int l1), (4, .int l4), (5, .int l5)] [] := by
  unfold f_X15_tell_b155 at hf
  refine v_iload (x := l5) dX15_tell_155 3 rfl ?_
  refine v_istore_n [(3, .int l5), (0, va_rf (some l0)), (1, .int l1), (4, .int l4), (5, .int l5)] dX15_tell_157 rfl (by decide) rfl ?_
  refine v_aload_n (x := (some l0)) dX15_tell_158 rfl 1 rfl ?_
  obtain ⟨hk_l0, hf⟩ := gt_of hf
  refine v_getr cb_16 hk_l0 63 1663 rfl (by decide) rfl (lk_n kw_1520 rfl) hf dX15_tell_159 (fun r29 hf => ?_)
  refine v_iload (x := l4) dX15_tell_162 3 rfl ?_
  obtain ⟨a30, rfl, hf⟩ := nn_of hf
  obtain ⟨hk_a30, hf⟩ := gt_of hf
  refine v_iald hk_a30 hf dX15_tell_164 (fun x31 hf => ?_)
  refine v_istore_n [(2, .int x31), (3, .int l5), (0, va_rf (some l0)), (1, .int l1), (4, .int l4), (5, .int l5)] dX15_tell_165 rfl (by decide) rfl ?_
  refine v_sub [2, 3, 0, 1, 4] (L2 := [(0, va_rf (some l0)), (1, .int l1), (2, .int x31), (3, .int l5), (4, .int l4)]) rfl ?_
  exact t_X15_tell_b166 hrec_49 hf
def f_X15_tell_b120 (rec_77 : TH → Nat → Int32 → Int32 → Int32 → Int32 → Int32 → Int32 → Option (Int32 × TH)) (σ : TH) (l0 : Nat) (l1 : Int32) (l2 : Int32) (l3 : Int32) (l4 : Int32) (l6 : Int32) (t0 : Int32) (t1 : Int32) : Option (Int32 × TH) :=
  lt_ (t1 + t0) fun x40 => lt_ (l6 + 1) fun x41 => rec_77 σ l0 l1 l2 l3 l4 x40 x41
set_option maxHeartbeats 4000000 in
set_option maxRecDepth 100000 in
theorem t_X15_tell_b120 {l : Launch} {D : va_G} {cy : Nat → ClassId} {ka : Nat → Nat} {σ0 z : TH} {r : Int32} {rec_77 : TH → Nat → Int32 → Int32 → Int32 → Int32 → Int32 → Int32 → Option (Int32 × TH)} (hrec_77 : ∀ (σ : TH) (l0 : Nat) (l1 : Int32) (l2 : Int32) (l3 : Int32) (l4 : Int32) (l5 : Int32) (l6 : Int32), rec_77 σ l0 l1 l2 l3 l4 l5 l6 = some (r, z) → v_ l D cy ka cX15_tell RX15 7 (some FieldType.int) "tell" 15 330 (qf_ D cy σ0 z (some (.int r))) σ0 z σ 77 [(0, va_rf (some l0)), (1, .int l1), (2, .int l2), (3, .int l3), (4, .int l4), (5, .int l5), (6, .int l6)] []) {σ : TH} {l0 : Nat} {l1 : Int32} {l2 : Int32} {l3 : Int32} {l4 : Int32} {l6 : Int32} {t0 : Int32} {t1 : Int32} (hf : f_X15_tell_b120 rec_77 σ l0 l1 l2 l3 l4 l6 t0 t1 = some (r, z)) : v_ l D cy ka cX15_tell RX15 7 (some FieldType.int) "tell" 15 330 (qf_ D cy σ0 z (some (.int r))) σ0 z σ 120 [(0, va_rf (some l0)), (1, .int l1), (2, .int l2), (3, .int l3), (4, .int l4), (6, .int l6)] [.int t0, .int t1] := by
  unfold f_X15_tell_b120 at hf
  refine v_iadd dX15_tell_120 ?_
  obtain ⟨x40, ex40⟩ : ∃ y : Int32, y = t1 + t0 := ⟨_, rfl⟩
  rw [lt_e, ← ex40] at hf
  rw [← ex40]
  refine v_istore [(5, .int x40), (0, va_rf (some l0)), (1, .int l1), (2, .int l2), (3, .int l3), (4, .int l4), (6, .int l6)] dX15_tell_121 (by decide) rfl ?_
  obtain ⟨x41, ex41⟩ : ∃ y : Int32, y = l6 + 1 := ⟨_, rfl⟩
  rw [lt_e, ← ex41] at hf
  refine v_iinc (v := x41) [(6, .int x41), (5, .int x40), (0, va_rf (some l0)), (1, .int l1), (2, .int l2), (3, .int l3), (4, .int l4)] dX15_tell_123 6 rfl (by rw [ex41]; rfl) (by decide) rfl ?_
  refine v_goto (tgt := 77) dX15_tell_126 (by decide) ?_
  refine v_sub [2, 3, 4, 5, 6, 1, 0] (L2 := [(0, va_rf (some l0)), (1, .int l1), (2, .int l2), (3, .int l3), (4, .int l4), (5, .int x40), (6, .int x41)]) rfl ?_
  exact hrec_77 _ _ _ _ _ _ _ _ hf
def f_X15_tell_b119 (rec_77 : TH → Nat → Int32 → Int32 → Int32 → Int32 → Int32 → Int32 → Option (Int32 × TH)) (σ : TH) (l0 : Nat) (l1 : Int32) (l2 : Int32) (l3 : Int32) (l4 : Int32) (l6 : Int32) (t0 : Int32) : Option (Int32 × TH) :=
  f_X15_tell_b120 rec_77 σ l0 l1 l2 l3 l4 l6 (0 : Int32) t0
set_option maxHeartbeats 4000000 in
set_option maxRecDepth 100000 in
theorem t_X15_tell_b119 {l : Launch} {D : va_G} {cy : Nat → ClassId} {ka : Nat → Nat} {σ0 z : TH} {r : Int32} {rec_77 : TH → Nat → Int32 → Int32 → Int32 → Int32 → Int32 → Int32 → Option (Int32 × TH)} (hrec_77 : ∀ (σ : TH) (l0 : Nat) (l1 : Int32) (l2 : Int32) (l3 : Int32) (l4 : Int32) (l5 : Int32) (l6 : Int32), rec_77 σ l0 l1 l2 l3 l4 l5 l6 = some (r, z) → v_ l D cy ka cX15_tell RX15 7 (some FieldType.int) "tell" 15 330 (qf_ D cy σ0 z (some (.int r))) σ0 z σ 77 [(0, va_rf (some l0)), (1, .int l1), (2, .int l2), (3, .int l3), (4, .int l4), (5, .int l5), (6, .int l6)] []) {σ : TH} {l0 : Nat} {l1 : Int32} {l2 : Int32} {l3 : Int32} {l4 : Int32} {l6 : Int32} {t0 : Int32} (hf : f_X15_tell_b119 rec_77 σ l0 l1 l2 l3 l4 l6 t0 = some (r, z)) : v_ l D cy ka cX15_tell RX15 7 (some FieldType.int) "tell" 15 330 (qf_ D cy σ0 z (some (.int r))) σ0 z σ 119 [(0, va_rf (some l0)), (1, .int l1), (2, .int l2), (3, .int l3), (4, .int l4), (6, .int l6)] [.int t0] := by
  unfold f_X15_tell_b119 at hf
  refine v_iconst (v := 0) dX15_tell_119 (by decide) ?_
  refine v_sub [0, 1, 2, 3, 4, 5] (L2 := [(0, va_rf (some l0)), (1, .int l1), (2, .int l2), (3, .int l3), (4, .int l4), (6, .int l6)]) rfl ?_
  exact t_X15_tell_b120 hrec_77 hf
def f_X15_tell_b77 (rec_49 : TH → Nat → Int32 → Int32 → Int32 → Int32 → Option (Int32 × TH)) : Nat → TH → Nat → Int32 → Int32 → Int32 → Int32 → Int32 → Int32 → Option (Int32 × TH)
  | 0, _, _, _, _, _, _, _, _ => none
  | n + 1, σ, l0, l1, l2, l3, l4, l5, l6 => gt_ (kd_ σ l0 = 17) <| lt_ (fi_ σ 1659 l0) fun x25 => if x25 ≤ l6 then (if l5 < l3 then (f_X15_tell_b166 rec_49 σ l0 l1 l2 l3 l4) else (if l5 = l3 then (lt_ (fr_ σ 1663 l0) fun r26 => nn_ r26 fun a27 => gt_ (kd_ σ a27 = 20) <| gt_ (¬ (l4 < 0 ∨ ln_ σ a27 ≤ l4.toNatClampNeg)) <| lt_ (ai_ σ a27 l4.toNatClampNeg) fun x28 => if x28 < l2 then (f_X15_tell_b155 rec_49 σ l0 l1 l4 l5) else (f_X15_tell_b166 rec_49 σ l0 l1 l2 l3 l4)) else (f_X15_tell_b155 rec_49 σ l0 l1 l4 l5))) else (lt_ (fr_ σ 1663 l0) fun r32 => nn_ r32 fun a33 => gt_ (kd_ σ a33 = 20) <| gt_ (¬ (l6 < 0 ∨ ln_ σ a33 ≤ l6.toNatClampNeg)) <| lt_ (ai_ σ a33 l6.toNatClampNeg) fun x34 => lt_ (fr_ σ 1663 l0) fun r35 => nn_ r35 fun a36 => gt_ (kd_ σ a36 = 20) <| gt_ (¬ (l4 < 0 ∨ ln_ σ a36 ≤ l4.toNatClampNeg)) <| lt_ (ai_ σ a36 l4.toNatClampNeg) fun x37 => if x34 = x37 then (bd_ (f_X15_speaksOf σ l0 l6 l1) fun x38 s39 => if x38 = 0 then (f_X15_tell_b119 (f_X15_tell_b77 rec_49 n) s39 l0 l1 l2 l3 l4 l6 l5) else (f_X15_tell_b120 (f_X15_tell_b77 rec_49 n) s39 l0 l1 l2 l3 l4 l6 (1 : Int32) l5)) else (f_X15_tell_b119 (f_X15_tell_b77 rec_49 n) σ l0 l1 l2 l3 l4 l6 l5))
set_option maxHeartbeats 4000000 in
set_option maxRecDepth 100000 in
theorem t_X15_tell_b77 {l : Launch} {D : va_G} {cy : Nat → ClassId} {ka : Nat → Nat} {σ0 z : TH} {r : Int32} {rec_49 : TH → Nat → Int32 → Int32 → Int32 → Int32 → Option (Int32 × TH)} (hrec_49 : ∀ (σ : TH) (l0 : Nat) (l1 : Int32) (l2 : Int32) (l3 : Int32) (l4 : Int32), rec_49 σ l0 l1 l2 l3 l4 = some (r, z) → v_ l D cy ka cX15_tell RX15 7 (some FieldType.int) "tell" 15 330 (qf_ D cy σ0 z (some (.int r))) σ0 z σ 49 [(0, va_rf (some l0)), (1, .int l1), (2, .int l2), (3, .int l3), (4, .int l4)] []) : ∀ (n : Nat) (σ : TH) (l0 : Nat) (l1 : Int32) (l2 : Int32) (l3 : Int32) (l4 : Int32) (l5 : Int32) (l6 : Int32), f_X15_tell_b77 rec_49 n σ l0 l1 l2 l3 l4 l5 l6 = some (r, z) → v_ l D cy ka cX15_tell RX15 7 (some FieldType.int) "tell" 15 330 (qf_ D cy σ0 z (some (.int r))) σ0 z σ 77 [(0, va_rf (some l0)), (1, .int l1), (2, .int l2), (3, .int l3), (4, .int l4), (5, .int l5), (6, .int l6)] [] := by
  intro n
  induction n with
  | zero => intro σ l0 l1 l2 l3 l4 l5 l6 hf; unfold f_X15_tell_b77 at hf; cases hf
  | succ n ih =>
    intro σ l0 l1 l2 l3 l4 l5 l6 hf
    unfold f_X15_tell_b77 at hf
    have hrec_77 := ih
    refine v_iload (x := l6) dX15_tell_77 6 rfl ?_
    refine v_aload_n (x := (some l0)) dX15_tell_79 rfl 0 rfl ?_
    obtain ⟨hk_l0, hf⟩ := gt_of hf
    refine v_geti cb_16 hk_l0 59 1659 rfl (by decide) rfl (lk_n kw_1516 rfl) hf dX15_tell_80 (fun x25 hf => ?_)
    refine v_icmp_ge (tgt := 129) hf dX15_tell_83 (by decide) (fun hq hf => ?_) (fun hq hf => ?_)
    · refine v_iload (x := l5) dX15_tell_129 5 rfl ?_
      refine v_iload_n (x := l3) dX15_tell_131 rfl 3 rfl ?_
      refine v_icmp_lt (tgt := 166) hf dX15_tell_132 (by decide) (fun hq hf => ?_) (fun hq hf => ?_)
      · refine v_sub [0, 1, 2, 3, 4] (L2 := [(0, va_rf (some l0)), (1, .int l1), (2, .int l2), (3, .int l3), (4, .int l4)]) rfl ?_
        exact t_X15_tell_b166 hrec_49 hf
      · refine v_iload (x := l5) dX15_tell_135 5 rfl ?_
        refine v_iload_n (x := l3) dX15_tell_137 rfl 3 rfl ?_
        refine v_icmp_ne (tgt := 155) hf dX15_tell_138 (by decide) (fun hq hf => ?_) (fun hq hf => ?_)
        · refine v_aload_n (x := (some l0)) dX15_tell_141 rfl 0 rfl ?_
          refine v_getr cb_16 hk_l0 63 1663 rfl (by decide) rfl (lk_n kw_1520 rfl) hf dX15_tell_142 (fun r26 hf => ?_)
          refine v_iload (x := l4) dX15_tell_145 4 rfl ?_
          obtain ⟨a27, rfl, hf⟩ := nn_of hf
          obtain ⟨hk_a27, hf⟩ := gt_of hf
          refine v_iald hk_a27 hf dX15_tell_147 (fun x28 hf => ?_)
          refine v_iload_n (x := l2) dX15_tell_148 rfl 2 rfl ?_
          refine v_icmp_lt (tgt := 155) hf dX15_tell_149 (by decide) (fun hq hf => ?_) (fun hq hf => ?_)
          · refine v_sub [0, 1, 4, 5] (L2 := [(0, va_rf (some l0)), (1, .int l1), (4, .int l4), (5, .int l5)]) rfl ?_
            exact t_X15_tell_b155 hrec_49 hf
          · refine v_goto (tgt := 166) dX15_tell_152 (by decide) ?_
            refine v_sub [0, 1, 2, 3, 4] (L2 := [(0, va_rf (some l0)), (1, .int l1), (2, .int l2), (3, .int l3), (4, .int l4)]) rfl ?_
            exact t_X15_tell_b166 hrec_49 hf
        · refine v_sub [0, 1, 4, 5] (L2 := [(0, va_rf (some l0)), (1, .int l1), (4, .int l4), (5, .int l5)]) rfl ?_
          exact t_X15_tell_b155 hrec_49 hf
    · refine v_iload (x := l5) dX15_tell_86 5 rfl ?_
      refine v_aload_n (x := (some l0)) dX15_tell_88 rfl 0 rfl ?_
      refine v_getr cb_16 hk_l0 63 1663 rfl (by decide) rfl (lk_n kw_1520 rfl) hf dX15_tell_89 (fun r32 hf => ?_)
      refine v_iload (x := l6) dX15_tell_92 6 rfl ?_
      obtain ⟨a33, rfl, hf⟩ := nn_of hf
      obtain ⟨hk_a33, hf⟩ := gt_of hf
      refine v_iald hk_a33 hf dX15_tell_94 (fun x34 hf => ?_)
      refine v_aload_n (x := (some l0)) dX15_tell_95 rfl 0 rfl ?_
      refine v_getr cb_16 hk_l0 63 1663 rfl (by decide) rfl (lk_n kw_1520 rfl) hf dX15_tell_96 (fun r35 hf => ?_)
      refine v_iload (x := l4) dX15_tell_99 4 rfl ?_
      obtain ⟨a36, rfl, hf⟩ := nn_of hf
      obtain ⟨hk_a36, hf⟩ := gt_of hf
      refine v_iald hk_a36 hf dX15_tell_101 (fun x37 hf => ?_)
      refine v_icmp_ne (tgt := 119) hf dX15_tell_102 (by decide) (fun hq hf => ?_) (fun hq hf => ?_)
      · refine v_aload_n (x := (some l0)) dX15_tell_105 rfl 0 rfl ?_
        refine v_iload (x := l6) dX15_tell_106 6 rfl ?_
        refine v_iload_n (x := l1) dX15_tell_108 rfl 1 rfl ?_
        obtain ⟨x38, s39, hcs39, hf⟩ := bd_of hf
        have hts39 := c_X15_speaksOf (l := l) (D := D) (cy := cy) (ka := ka) hcs39
        refine v_callV cb_16 hk_l0 (As := [.int l6, .int l1]) (rest := [.int l5]) hts39 yb_X15_speaksOf kw_1974 kw_1976 kp_112 rfl ⟨Nat.le_of_ble_eq_true rfl, Nat.le_of_ble_eq_true rfl⟩ rfl (cat_len (Nat.le_of_ble_eq_true rfl)) dX15_tell_109 ?_
        have hk_l0 := tk_ hts39.1 hk_l0
        show v_ l D cy ka cX15_tell RX15 7 (some FieldType.int) "tell" 15 330 (qf_ D cy σ0 z (some (.int r))) σ0 z _ 112 [(0, va_rf (some l0)), (1, .int l1), (2, .int l2), (3, .int l3), (4, .int l4), (5, .int l5), (6, .int l6)] [.int x38, .int l5]
        refine v_if_eq (tgt := 119) hf dX15_tell_112 (by decide) (fun hq hf => ?_) (fun hq hf => ?_)
        · refine v_sub [0, 1, 2, 3, 4, 6] (L2 := [(0, va_rf (some l0)), (1, .int l1), (2, .int l2), (3, .int l3), (4, .int l4), (6, .int l6)]) rfl ?_
          exact t_X15_tell_b119 hrec_77 hf
        · refine v_iconst (v := 1) dX15_tell_115 (by decide) ?_
          refine v_goto (tgt := 120) dX15_tell_116 (by decide) ?_
          refine v_sub [0, 1, 2, 3, 4, 6] (L2 := [(0, va_rf (some l0)), (1, .int l1), (2, .int l2), (3, .int l3), (4, .int l4), (6, .int l6)]) rfl ?_
          exact t_X15_tell_b120 hrec_77 hf
      · refine v_sub [0, 1, 2, 3, 4, 6] (L2 := [(0, va_rf (some l0)), (1, .int l1), (2, .int l2), (3, .int l3), (4, .int l4), (6, .int l6)]) rfl ?_
        exact t_X15_tell_b119 hrec_77 hf
def f_X15_tell_b49 : Nat → TH → Nat → Int32 → Int32 → Int32 → Int32 → Option (Int32 × TH)
  | 0, _, _, _, _, _, _ => none
  | n + 1, σ, l0, l1, l2, l3, l4 => gt_ (kd_ σ l0 = 17) <| lt_ (fi_ σ 1659 l0) fun x13 => if x13 ≤ l4 then (lt_ (fr_ σ 1615 l0) fun r14 => nn_ r14 fun a15 => gt_ (kd_ σ a15 = 22) <| gt_ (¬ (l1 < 0 ∨ ln_ σ a15 ≤ l1.toNatClampNeg)) <| lt_ (sa_ σ a15 l1.toNatClampNeg (vp_nar .boolean (1 : Int32))) fun s16 => lt_ (fr_ s16 1612 l0) fun r17 => nn_ r17 fun a18 => gt_ (kd_ s16 a18 = 20) <| gt_ (¬ (l1 < 0 ∨ ln_ s16 a18 ≤ l1.toNatClampNeg)) <| lt_ (sa_ s16 a18 l1.toNatClampNeg l2) fun s19 => bd_ (f_X15_done s19 l0 l2) fun x20 s21 => some (x20, s21)) else (bd_ (f_X15_speaksOf σ l0 l4 l1) fun x22 s23 => if x22 = 0 then (f_X15_tell_b166 (f_X15_tell_b49 n) s23 l0 l1 l2 l3 l4) else (f_X15_tell_b77 (f_X15_tell_b49 n) fu_ s23 l0 l1 l2 l3 l4 (0 : Int32) (0 : Int32)))
set_option maxHeartbeats 4000000 in
set_option maxRecDepth 100000 in
theorem t_X15_tell_b49 {l : Launch} {D : va_G} {cy : Nat → ClassId} {ka : Nat → Nat} {σ0 z : TH} {r : Int32}  : ∀ (n : Nat) (σ : TH) (l0 : Nat) (l1 : Int32) (l2 : Int32) (l3 : Int32) (l4 : Int32), f_X15_tell_b49 n σ l0 l1 l2 l3 l4 = some (r, z) → v_ l D cy ka cX15_tell RX15 7 (some FieldType.int) "tell" 15 330 (qf_ D cy σ0 z (some (.int r))) σ0 z σ 49 [(0, va_rf (some l0)), (1, .int l1), (2, .int l2), (3, .int l3), (4, .int l4)] [] := by
  intro n
  induction n with
  | zero => intro σ l0 l1 l2 l3 l4 hf; unfold f_X15_tell_b49 at hf; cases hf
  | succ n ih =>
    intro σ l0 l1 l2 l3 l4 hf
    unfold f_X15_tell_b49 at hf
    have hrec_49 := ih
    refine v_iload (x := l4) dX15_tell_49 4 rfl ?_
    refine v_aload_n (x := (some l0)) dX15_tell_51 rfl 0 rfl ?_
    obtain ⟨hk_l0, hf⟩ := gt_of hf
    refine v_geti cb_16 hk_l0 59 1659 rfl (by decide) rfl (lk_n kw_1516 rfl) hf dX15_tell_52 (fun x13 hf => ?_)
    refine v_icmp_ge (tgt := 172) hf dX15_tell_55 (by decide) (fun hq hf => ?_) (fun hq hf => ?_)
    · refine v_aload_n (x := (some l0)) dX15_tell_172 rfl 0 rfl ?_
      refine v_getr cb_16 hk_l0 15 1615 rfl (by decide) rfl (lk_n kw_1472 rfl) hf dX15_tell_173 (fun r14 hf => ?_)
      refine v_iload_n (x := l1) dX15_tell_176 rfl 1 rfl ?_
      refine v_iconst (v := 1) dX15_tell_177 (by decide) ?_
      obtain ⟨a15, rfl, hf⟩ := nn_of hf
      obtain ⟨hk_a15, hf⟩ := gt_of hf
      refine v_zast2 hk_a15 hf dX15_tell_178 (fun s16 hts16 hf => ?_)
      have hk_l0 := tk_ hts16 hk_l0
      refine v_aload_n (x := (some l0)) dX15_tell_179 rfl 0 rfl ?_
      refine v_getr cb_16 hk_l0 12 1612 rfl (by decide) rfl (lk_n kw_1469 rfl) hf dX15_tell_180 (fun r17 hf => ?_)
      refine v_iload_n (x := l1) dX15_tell_183 rfl 1 rfl ?_
      refine v_iload_n (x := l2) dX15_tell_184 rfl 2 rfl ?_
      obtain ⟨a18, rfl, hf⟩ := nn_of hf
      obtain ⟨hk_a18, hf⟩ := gt_of hf
      refine v_iast2 hk_a18 hf dX15_tell_185 (fun s19 hts19 hf => ?_)
      have hk_l0 := tk_ hts19 hk_l0
      refine v_aload_n (x := (some l0)) dX15_tell_186 rfl 0 rfl ?_
      refine v_iload_n (x := l2) dX15_tell_187 rfl 2 rfl ?_
      obtain ⟨x20, s21, hcs21, hf⟩ := bd_of hf
      have hts21 := c_X15_done (l := l) (D := D) (cy := cy) (ka := ka) hcs21
      refine v_callV cb_16 hk_l0 (As := [.int l2]) (rest := []) hts21 yb_X15_done kw_1733 kw_1735 kp_78 rfl ⟨Nat.le_of_ble_eq_true rfl, Nat.le_of_ble_eq_true rfl⟩ rfl (cat_len (Nat.le_of_ble_eq_true rfl)) dX15_tell_188 ?_
      have hk_l0 := tk_ hts21.1 hk_l0
      show v_ l D cy ka cX15_tell RX15 7 (some FieldType.int) "tell" 15 330 (qf_ D cy σ0 z (some (.int r))) σ0 z _ 191 [(0, va_rf (some l0)), (1, .int l1), (2, .int l2), (3, .int l3), (4, .int l4)] [.int x20]
      exact v_iret hf dX15_tell_191
    · refine v_aload_n (x := (some l0)) dX15_tell_58 rfl 0 rfl ?_
      refine v_iload (x := l4) dX15_tell_59 4 rfl ?_
      refine v_iload_n (x := l1) dX15_tell_61 rfl 1 rfl ?_
      obtain ⟨x22, s23, hcs23, hf⟩ := bd_of hf
      have hts23 := c_X15_speaksOf (l := l) (D := D) (cy := cy) (ka := ka) hcs23
      refine v_callV cb_16 hk_l0 (As := [.int l4, .int l1]) (rest := []) hts23 yb_X15_speaksOf kw_1974 kw_1976 kp_112 rfl ⟨Nat.le_of_ble_eq_true rfl, Nat.le_of_ble_eq_true rfl⟩ rfl (cat_len (Nat.le_of_ble_eq_true rfl)) dX15_tell_62 ?_
      have hk_l0 := tk_ hts23.1 hk_l0
      show v_ l D cy ka cX15_tell RX15 7 (some FieldType.int) "tell" 15 330 (qf_ D cy σ0 z (some (.int r))) σ0 z _ 65 [(0, va_rf (some l0)), (1, .int l1), (2, .int l2), (3, .int l3), (4, .int l4)] [.int x22]
      refine v_if_ne (tgt := 71) hf dX15_tell_65 (by decide) (fun hq hf => ?_) (fun hq hf => ?_)
      · refine v_goto (tgt := 166) dX15_tell_68 (by decide) ?_
        refine v_sub [0, 1, 2, 3, 4] (L2 := [(0, va_rf (some l0)), (1, .int l1), (2, .int l2), (3, .int l3), (4, .int l4)]) rfl ?_
        exact t_X15_tell_b166 hrec_49 hf
      · refine v_iconst (v := 0) dX15_tell_71 (by decide) ?_
        refine v_istore [(5, .int (0 : Int32)), (0, va_rf (some l0)), (1, .int l1), (2, .int l2), (3, .int l3), (4, .int l4)] dX15_tell_72 (by decide) rfl ?_
        refine v_iconst (v := 0) dX15_tell_74 (by decide) ?_
        refine v_istore [(6, .int (0 : Int32)), (5, .int (0 : Int32)), (0, va_rf (some l0)), (1, .int l1), (2, .int l2), (3, .int l3), (4, .int l4)] dX15_tell_75 (by decide) rfl ?_
        refine v_sub [2, 3, 4, 5, 6, 1, 0] (L2 := [(0, va_rf (some l0)), (1, .int l1), (2, .int l2), (3, .int l3), (4, .int l4), (5, .int (0 : Int32)), (6, .int (0 : Int32))]) rfl ?_
        exact t_X15_tell_b77 hrec_49 _ _ _ _ _ _ _ _ _ hf
/-- LivesAheadModel.tell(I)I -/
def f_X15_tell (σ : TH) (p0 : Nat) (p1 : Int32) : Option (Int32 × TH) :=
  gt_ (kd_ σ p0 = 17) <| lt_ (si_ σ 1600 p0 (0 : Int32)) fun s1 => bd_ (f_X15_isPerson s1 p0 p1) fun x2 s3 => if x2 = 0 then (bd_ (f_X15_refused s3 p0 (1 : Int32)) fun x4 s5 => some (x4, s5)) else (lt_ (fr_ s3 1615 p0) fun r6 => nn_ r6 fun a7 => gt_ (kd_ s3 a7 = 22) <| gt_ (¬ (p1 < 0 ∨ ln_ s3 a7 ≤ p1.toNatClampNeg)) <| lt_ (ai_ s3 a7 p1.toNatClampNeg) fun x8 => if x8 = 0 then (bd_ (f_X15_mayBeTold s3 p0 p1) fun x9 s10 => if x9 = 0 then (f_X15_tell_b36 s10 p0) else (f_X15_tell_b49 fu_ s10 p0 p1 (-1 : Int32) (0 : Int32) (0 : Int32))) else (f_X15_tell_b36 s3 p0))
set_option maxHeartbeats 4000000 in
set_option maxRecDepth 100000 in
theorem c_X15_tell {l : Launch} {D : va_G} {cy : Nat → ClassId} {ka : Nat → Nat} {σ z : TH} {p0 : Nat} {p1 : Int32} {r : Int32} (hf : f_X15_tell σ p0 p1 = some (r, z)) : ct_ l D cy ka yX15_tell 15 330 [va_rf (some p0), .int p1] σ (some (.int r)) z := by
  unfold f_X15_tell at hf
  refine v_start (cc := cX15_tell) (own := RX15) (maxL := 7) (ret := (some FieldType.int)) (nm := "tell") (by decide +kernel) kw_2145 rfl rfl (by simp [lg_sl, va_rf_cat, cat_i, cat_l]) ?_
  refine v_eqL (L2 := [(0, va_rf (some p0)), (1, .int p1)]) (by simp [lv_args, va_rf_cat, cat_i, cat_l]) ?_
  refine v_aload_n (x := (some p0)) dX15_tell_0 rfl 0 rfl ?_
  refine v_iconst (v := 0) dX15_tell_1 (by decide) ?_
  obtain ⟨hk_p0, hf⟩ := gt_of hf
  refine v_puti2 cb_16 hk_p0 0 1600 rfl (by decide) rfl (lk_n kw_1457 rfl) (Or.inl rfl) rfl rfl hf dX15_tell_2 (fun s1 hts1 hf => ?_)
  have hk_p0 := tk_ hts1 hk_p0
  refine v_aload_n (x := (some p0)) dX15_tell_5 rfl 0 rfl ?_
  refine v_iload_n (x := p1) dX15_tell_6 rfl 1 rfl ?_
  obtain ⟨x2, s3, hcs3, hf⟩ := bd_of hf
  have hts3 := c_X15_isPerson (l := l) (D := D) (cy := cy) (ka := ka) hcs3
  refine v_callV cb_16 hk_p0 (As := [.int p1]) (rest := []) hts3 yb_X15_isPerson kw_1770 kw_1772 kp_83 rfl ⟨Nat.le_of_ble_eq_true rfl, Nat.le_of_ble_eq_true rfl⟩ rfl (cat_len (Nat.le_of_ble_eq_true rfl)) dX15_tell_7 ?_
  have hk_p0 := tk_ hts3.1 hk_p0
  show v_ l D cy ka cX15_tell RX15 7 (some FieldType.int) "tell" 15 330 (qf_ D cy σ z (some (.int r))) σ z _ 10 [(0, va_rf (some p0)), (1, .int p1)] [.int x2]
  refine v_if_ne (tgt := 19) hf dX15_tell_10 (by decide) (fun hq hf => ?_) (fun hq hf => ?_)
  · refine v_aload_n (x := (some p0)) dX15_tell_13 rfl 0 rfl ?_
    refine v_iconst (v := 1) dX15_tell_14 (by decide) ?_
    obtain ⟨x4, s5, hcs5, hf⟩ := bd_of hf
    have hts5 := c_X15_refused (l := l) (D := D) (cy := cy) (ka := ka) hcs5
    refine v_callV cb_16 hk_p0 (As := [.int (1 : Int32)]) (rest := []) hts5 yb_X15_refused kw_1729 kw_1731 kp_77 rfl ⟨Nat.le_of_ble_eq_true rfl, Nat.le_of_ble_eq_true rfl⟩ rfl (cat_len (Nat.le_of_ble_eq_true rfl)) dX15_tell_15 ?_
    have hk_p0 := tk_ hts5.1 hk_p0
    show v_ l D cy ka cX15_tell RX15 7 (some FieldType.int) "tell" 15 330 (qf_ D cy σ z (some (.int r))) σ z _ 18 [(0, va_rf (some p0)), (1, .int p1)] [.int x4]
    exact v_iret hf dX15_tell_18
  · refine v_aload_n (x := (some p0)) dX15_tell_19 rfl 0 rfl ?_
    refine v_getr cb_16 hk_p0 15 1615 rfl (by decide) rfl (lk_n kw_1472 rfl) hf dX15_tell_20 (fun r6 hf => ?_)
    refine v_iload_n (x := p1) dX15_tell_23 rfl 1 rfl ?_
    obtain ⟨a7, rfl, hf⟩ := nn_of hf
    obtain ⟨hk_a7, hf⟩ := gt_of hf
    refine v_zald hk_a7 hf dX15_tell_24 (fun x8 hf => ?_)
    refine v_if_ne (tgt := 36) hf dX15_tell_25 (by decide) (fun hq hf => ?_) (fun hq hf => ?_)
    · refine v_aload_n (x := (some p0)) dX15_tell_28 rfl 0 rfl ?_
      refine v_iload_n (x := p1) dX15_tell_29 rfl 1 rfl ?_
      obtain ⟨x9, s10, hcs10, hf⟩ := bd_of hf
      have hts10 := c_X15_mayBeTold (l := l) (D := D) (cy := cy) (ka := ka) hcs10
      refine v_callV cb_16 hk_p0 (As := [.int p1]) (rest := []) hts10 yb_X15_mayBeTold kw_2138 kw_2140 kp_131 rfl ⟨Nat.le_of_ble_eq_true rfl, Nat.le_of_ble_eq_true rfl⟩ rfl (cat_len (Nat.le_of_ble_eq_true rfl)) dX15_tell_30 ?_
      have hk_p0 := tk_ hts10.1 hk_p0
      show v_ l D cy ka cX15_tell RX15 7 (some FieldType.int) "tell" 15 330 (qf_ D cy σ z (some (.int r))) σ z _ 33 [(0, va_rf (some p0)), (1, .int p1)] [.int x9]
      refine v_if_ne (tgt := 42) hf dX15_tell_33 (by decide) (fun hq hf => ?_) (fun hq hf => ?_)
      · refine v_sub [0] (L2 := [(0, va_rf (some p0))]) rfl ?_
        exact t_X15_tell_b36  hf
      · refine v_iconst (v := (-1)) dX15_tell_42 (by decide) ?_
        refine v_istore_n [(2, .int (-1 : Int32)), (0, va_rf (some p0)), (1, .int p1)] dX15_tell_43 rfl (by decide) rfl ?_
        refine v_iconst (v := 0) dX15_tell_44 (by decide) ?_
        refine v_istore_n [(3, .int (0 : Int32)), (2, .int (-1 : Int32)), (0, va_rf (some p0)), (1, .int p1)] dX15_tell_45 rfl (by decide) rfl ?_
        refine v_iconst (v := 0) dX15_tell_46 (by decide) ?_
        refine v_istore [(4, .int (0 : Int32)), (3, .int (0 : Int32)), (2, .int (-1 : Int32)), (0, va_rf (some p0)), (1, .int p1)] dX15_tell_47 (by decide) rfl ?_
        refine v_sub [3, 4, 2, 1, 0] (L2 := [(0, va_rf (some p0)), (1, .int p1), (2, .int (-1 : Int32)), (3, .int (0 : Int32)), (4, .int (0 : Int32))]) rfl ?_
        exact t_X15_tell_b49  _ _ _ _ _ _ _ hf
    · refine v_sub [0] (L2 := [(0, va_rf (some p0))]) rfl ?_
      exact t_X15_tell_b36  hf
theorem dX15_paragraphOf_0 : decode cX15_paragraphOf 0 = .ok (.aload_n 0, 1) := by decide +kernel
theorem dX15_paragraphOf_1 : decode cX15_paragraphOf 1 = .ok (.iconst 0, 1) := by decide +kernel
theorem dX15_paragraphOf_2 : decode cX15_paragraphOf 2 = .ok (.putfield 1, 3) := by decide +kernel
theorem dX15_paragraphOf_5 : decode cX15_paragraphOf 5 = .ok (.aload_n 0, 1) := by decide +kernel
theorem dX15_paragraphOf_6 : decode cX15_paragraphOf 6 = .ok (.iload_n 1, 1) := by decide +kernel
theorem dX15_paragraphOf_7 : decode cX15_paragraphOf 7 = .ok (.invokevirtual 227, 3) := by decide +kernel
theorem dX15_paragraphOf_10 : decode cX15_paragraphOf 10 = .ok (.ifCond .eq 12, 3) := by decide +kernel
theorem dX15_paragraphOf_13 : decode cX15_paragraphOf 13 = .ok (.aload_n 0, 1) := by decide +kernel
theorem dX15_paragraphOf_14 : decode cX15_paragraphOf 14 = .ok (.iload_n 1, 1) := by decide +kernel
theorem dX15_paragraphOf_15 : decode cX15_paragraphOf 15 = .ok (.iload_n 2, 1) := by decide +kernel
theorem dX15_paragraphOf_16 : decode cX15_paragraphOf 16 = .ok (.invokevirtual 506, 3) := by decide +kernel
theorem dX15_paragraphOf_19 : decode cX15_paragraphOf 19 = .ok (.goto 4, 3) := by decide +kernel
theorem dX15_paragraphOf_22 : decode cX15_paragraphOf 22 = .ok (.aconst_null, 1) := by decide +kernel
theorem dX15_paragraphOf_23 : decode cX15_paragraphOf 23 = .ok (.astore 4, 2) := by decide +kernel
theorem dX15_paragraphOf_25 : decode cX15_paragraphOf 25 = .ok (.aload 4, 2) := by decide +kernel
theorem dX15_paragraphOf_27 : decode cX15_paragraphOf 27 = .ok (.ifnonnull 5, 3) := by decide +kernel
theorem dX15_paragraphOf_30 : decode cX15_paragraphOf 30 = .ok (.iconst (-1), 1) := by decide +kernel
theorem dX15_paragraphOf_31 : decode cX15_paragraphOf 31 = .ok (.ireturn, 1) := by decide +kernel
theorem dX15_paragraphOf_32 : decode cX15_paragraphOf 32 = .ok (.iload_n 3, 1) := by decide +kernel
theorem dX15_paragraphOf_33 : decode cX15_paragraphOf 33 = .ok (.tableswitch 85 0 5 #[39, 45, 51, 58, 73, 79], 39) := by decide +kernel
theorem dX15_paragraphOf_72 : decode cX15_paragraphOf 72 = .ok (.aload 4, 2) := by decide +kernel
theorem dX15_paragraphOf_74 : decode cX15_paragraphOf 74 = .ok (.getfield 497, 3) := by decide +kernel
theorem dX15_paragraphOf_77 : decode cX15_paragraphOf 77 = .ok (.ireturn, 1) := by decide +kernel
theorem dX15_paragraphOf_78 : decode cX15_paragraphOf 78 = .ok (.aload 4, 2) := by decide +kernel
theorem dX15_paragraphOf_80 : decode cX15_paragraphOf 80 = .ok (.getfield 499, 3) := by decide +kernel
theorem dX15_paragraphOf_83 : decode cX15_paragraphOf 83 = .ok (.ireturn, 1) := by decide +kernel
theorem dX15_paragraphOf_84 : decode cX15_paragraphOf 84 = .ok (.aload_n 0, 1) := by decide +kernel
theorem dX15_paragraphOf_85 : decode cX15_paragraphOf 85 = .ok (.aload 4, 2) := by decide +kernel
theorem dX15_paragraphOf_87 : decode cX15_paragraphOf 87 = .ok (.invokevirtual 509, 3) := by decide +kernel
theorem dX15_paragraphOf_90 : decode cX15_paragraphOf 90 = .ok (.ireturn, 1) := by decide +kernel
theorem dX15_paragraphOf_91 : decode cX15_paragraphOf 91 = .ok (.aload_n 0, 1) := by decide +kernel
theorem dX15_paragraphOf_92 : decode cX15_paragraphOf 92 = .ok (.aload 4, 2) := by decide +kernel
theorem dX15_paragraphOf_94 : decode cX15_paragraphOf 94 = .ok (.invokevirtual 513, 3) := by decide +kernel
theorem dX15_paragraphOf_97 : decode cX15_paragraphOf 97 = .ok (.ifCond .eq 7, 3) := by decide +kernel
theorem dX15_paragraphOf_100 : decode cX15_paragraphOf 100 = .ok (.iconst 1, 1) := by decide +kernel
theorem dX15_paragraphOf_101 : decode cX15_paragraphOf 101 = .ok (.goto 4, 3) := by decide +kernel
theorem dX15_paragraphOf_104 : decode cX15_paragraphOf 104 = .ok (.iconst 0, 1) := by decide +kernel
theorem dX15_paragraphOf_105 : decode cX15_paragraphOf 105 = .ok (.ireturn, 1) := by decide +kernel
theorem dX15_paragraphOf_106 : decode cX15_paragraphOf 106 = .ok (.aload 4, 2) := by decide +kernel
theorem dX15_paragraphOf_108 : decode cX15_paragraphOf 108 = .ok (.getfield 486, 3) := by decide +kernel
theorem dX15_paragraphOf_111 : decode cX15_paragraphOf 111 = .ok (.ireturn, 1) := by decide +kernel
theorem dX15_paragraphOf_112 : decode cX15_paragraphOf 112 = .ok (.aload 4, 2) := by decide +kernel
theorem dX15_paragraphOf_114 : decode cX15_paragraphOf 114 = .ok (.getfield 489, 3) := by decide +kernel
theorem dX15_paragraphOf_117 : decode cX15_paragraphOf 117 = .ok (.ireturn, 1) := by decide +kernel
theorem dX15_paragraphOf_118 : decode cX15_paragraphOf 118 = .ok (.iconst (-1), 1) := by decide +kernel
theorem dX15_paragraphOf_119 : decode cX15_paragraphOf 119 = .ok (.ireturn, 1) := by decide +kernel
def f_X15_paragraphOf_b105 (σ : TH) (t0 : Int32) : Option (Int32 × TH) :=
  some (t0, σ)
set_option maxHeartbeats 4000000 in
set_option maxRecDepth 100000 in
theorem t_X15_paragraphOf_b105 {l : Launch} {D : va_G} {cy : Nat → ClassId} {ka : Nat → Nat} {σ0 z : TH} {r : Int32}  {σ : TH} {t0 : Int32} (hf : f_X15_paragraphOf_b105 σ t0 = some (r, z)) : v_ l D cy ka cX15_paragraphOf RX15 5 (some FieldType.int) "paragraphOf" 41 938 (qf_ D cy σ0 z (some (.int r))) σ0 z σ 105 [] [.int t0] := by
  unfold f_X15_paragraphOf_b105 at hf
  exact v_iret hf dX15_paragraphOf_105
def f_X15_paragraphOf_b23 (σ : TH) (l0 : Nat) (l3 : Int32) (t0 : Option Nat) : Option (Int32 × TH) :=
  oc_ t0 (some ((-1 : Int32), σ)) (fun a4 => if l3 = 0 then (gt_ (kd_ σ a4 = 15) <| lt_ (fi_ σ 1402 a4) fun x5 => some (x5, σ)) else if l3 = 1 then (gt_ (kd_ σ a4 = 15) <| lt_ (fi_ σ 1403 a4) fun x6 => some (x6, σ)) else if l3 = 2 then (gt_ (kd_ σ l0 = 17) <| bd_ (f_X15_lengthOf σ l0 (some a4)) fun x7 s8 => some (x7, s8)) else if l3 = 3 then (gt_ (kd_ σ l0 = 17) <| bd_ (f_X15_isMarked σ l0 (some a4)) fun x9 s10 => if x9 = 0 then (f_X15_paragraphOf_b105 s10 (0 : Int32)) else (f_X15_paragraphOf_b105 s10 (1 : Int32))) else if l3 = 4 then (gt_ (kd_ σ a4 = 15) <| lt_ (fi_ σ 1404 a4) fun x11 => some (x11, σ)) else if l3 = 5 then (gt_ (kd_ σ a4 = 15) <| lt_ (fi_ σ 1405 a4) fun x12 => some (x12, σ)) else (some ((-1 : Int32), σ)))
set_option maxHeartbeats 4000000 in
set_option maxRecDepth 100000 in
theorem t_X15_paragraphOf_b23 {l : Launch} {D : va_G} {cy : Nat → ClassId} {ka : Nat → Nat} {σ0 z : TH} {r : Int32}  {σ : TH} {l0 : Nat} {l3 : Int32} {t0 : Option Nat} (hf : f_X15_paragraphOf_b23 σ l0 l3 t0 = some (r, z)) : v_ l D cy ka cX15_paragraphOf RX15 5 (some FieldType.int) "paragraphOf" 41 938 (qf_ D cy σ0 z (some (.int r))) σ0 z σ 23 [(0, va_rf (some l0)), (3, .int l3)] [va_rf t0] := by
  unfold f_X15_paragraphOf_b23 at hf
  refine v_astore [(4, va_rf t0), (0, va_rf (some l0)), (3, .int l3)] dX15_paragraphOf_23 (by decide) rfl ?_
  refine v_aload (x := t0) dX15_paragraphOf_25 0 rfl ?_
  refine v_ifnonnull2 (tgt := 32) hf dX15_paragraphOf_27 (by decide) (fun e9 hf9 => ?_) (fun a4 e9 hf9 => ?_)
  · subst e9
    replace hf := hf9
    clear hf9
    refine v_iconst (v := (-1)) dX15_paragraphOf_30 (by decide) ?_
    exact v_iret hf dX15_paragraphOf_31
  · subst e9
    replace hf := hf9
    clear hf9
    refine v_iload_n (x := l3) dX15_paragraphOf_32 rfl 2 rfl ?_
    try dsimp only [oc_] at hf
    by_cases hq0 : l3 = 0
    · rw [if_pos hq0] at hf
      refine v_tswIn (tgt := 72) (c9 := 0) hq0 dX15_paragraphOf_33 (by decide) (by decide) rfl (by decide) ?_
      refine v_aload (x := (some a4)) dX15_paragraphOf_72 0 rfl ?_
      obtain ⟨hk_a4, hf⟩ := gt_of hf
      refine v_geti cb_14 hk_a4 2 1402 rfl (by decide) rfl (lk_N kw_2030 rfl) hf dX15_paragraphOf_74 (fun x5 hf => ?_)
      exact v_iret hf dX15_paragraphOf_77
    rw [if_neg hq0] at hf
    by_cases hq1 : l3 = 1
    · rw [if_pos hq1] at hf
      refine v_tswIn (tgt := 78) (c9 := 1) hq1 dX15_paragraphOf_33 (by decide) (by decide) rfl (by decide) ?_
      refine v_aload (x := (some a4)) dX15_paragraphOf_78 0 rfl ?_
      obtain ⟨hk_a4, hf⟩ := gt_of hf
      refine v_geti cb_14 hk_a4 3 1403 rfl (by decide) rfl (lk_N kw_2031 rfl) hf dX15_paragraphOf_80 (fun x6 hf => ?_)
      exact v_iret hf dX15_paragraphOf_83
    rw [if_neg hq1] at hf
    by_cases hq2 : l3 = 2
    · rw [if_pos hq2] at hf
      refine v_tswIn (tgt := 84) (c9 := 2) hq2 dX15_paragraphOf_33 (by decide) (by decide) rfl (by decide) ?_
      refine v_aload_n (x := (some l0)) dX15_paragraphOf_84 rfl 1 rfl ?_
      refine v_aload (x := (some a4)) dX15_paragraphOf_85 0 rfl ?_
      obtain ⟨hk_l0, hf⟩ := gt_of hf
      obtain ⟨x7, s8, hcs8, hf⟩ := bd_of hf
      have hts8 := c_X15_lengthOf (l := l) (D := D) (cy := cy) (ka := ka) hcs8
      refine v_callV cb_16 hk_l0 (As := [va_rf (some a4)]) (rest := []) hts8 yb_X15_lengthOf kw_2074 kw_2076 kp_126 rfl ⟨Nat.le_of_ble_eq_true rfl, Nat.le_of_ble_eq_true rfl⟩ rfl (cat_len (Nat.le_of_ble_eq_true rfl)) dX15_paragraphOf_87 ?_
      have hk_l0 := tk_ hts8.1 hk_l0
      show v_ l D cy ka cX15_paragraphOf RX15 5 (some FieldType.int) "paragraphOf" 41 938 (qf_ D cy σ0 z (some (.int r))) σ0 z _ 90 [(4, va_rf (some a4)), (0, va_rf (some l0)), (3, .int l3)] [.int x7]
      exact v_iret hf dX15_paragraphOf_90
    rw [if_neg hq2] at hf
    by_cases hq3 : l3 = 3
    · rw [if_pos hq3] at hf
      refine v_tswIn (tgt := 91) (c9 := 3) hq3 dX15_paragraphOf_33 (by decide) (by decide) rfl (by decide) ?_
      refine v_aload_n (x := (some l0)) dX15_paragraphOf_91 rfl 1 rfl ?_
      refine v_aload (x := (some a4)) dX15_paragraphOf_92 0 rfl ?_
      obtain ⟨hk_l0, hf⟩ := gt_of hf
      obtain ⟨x9, s10, hcs10, hf⟩ := bd_of hf
      have hts10 := c_X15_isMarked (l := l) (D := D) (cy := cy) (ka := ka) hcs10
      refine v_callV cb_16 hk_l0 (As := [va_rf (some a4)]) (rest := []) hts10 yb_X15_isMarked kw_2078 kw_2080 kp_127 rfl ⟨Nat.le_of_ble_eq_true rfl, Nat.le_of_ble_eq_true rfl⟩ rfl (cat_len (Nat.le_of_ble_eq_true rfl)) dX15_paragraphOf_94 ?_
      have hk_l0 := tk_ hts10.1 hk_l0
      show v_ l D cy ka cX15_paragraphOf RX15 5 (some FieldType.int) "paragraphOf" 41 938 (qf_ D cy σ0 z (some (.int r))) σ0 z _ 97 [(4, va_rf (some a4)), (0, va_rf (some l0)), (3, .int l3)] [.int x9]
      refine v_if_eq (tgt := 104) hf dX15_paragraphOf_97 (by decide) (fun hq hf => ?_) (fun hq hf => ?_)
      · refine v_iconst (v := 0) dX15_paragraphOf_104 (by decide) ?_
        refine v_sub [] (L2 := []) rfl ?_
        exact t_X15_paragraphOf_b105  hf
      · refine v_iconst (v := 1) dX15_paragraphOf_100 (by decide) ?_
        refine v_goto (tgt := 105) dX15_paragraphOf_101 (by decide) ?_
        refine v_sub [] (L2 := []) rfl ?_
        exact t_X15_paragraphOf_b105  hf
    rw [if_neg hq3] at hf
    by_cases hq4 : l3 = 4
    · rw [if_pos hq4] at hf
      refine v_tswIn (tgt := 106) (c9 := 4) hq4 dX15_paragraphOf_33 (by decide) (by decide) rfl (by decide) ?_
      refine v_aload (x := (some a4)) dX15_paragraphOf_106 0 rfl ?_
      obtain ⟨hk_a4, hf⟩ := gt_of hf
      refine v_geti cb_14 hk_a4 4 1404 rfl (by decide) rfl (lk_N kw_2032 rfl) hf dX15_paragraphOf_108 (fun x11 hf => ?_)
      exact v_iret hf dX15_paragraphOf_111
    rw [if_neg hq4] at hf
    by_cases hq5 : l3 = 5
    · rw [if_pos hq5] at hf
      refine v_tswIn (tgt := 112) (c9 := 5) hq5 dX15_paragraphOf_33 (by decide) (by decide) rfl (by decide) ?_
      refine v_aload (x := (some a4)) dX15_paragraphOf_112 0 rfl ?_
      obtain ⟨hk_a4, hf⟩ := gt_of hf
      refine v_geti cb_14 hk_a4 5 1405 rfl (by decide) rfl (lk_N kw_2033 rfl) hf dX15_paragraphOf_114 (fun x12 hf => ?_)
      exact v_iret hf dX15_paragraphOf_117
    rw [if_neg hq5] at hf
    refine v_tswOut (tgt := 118) 6 0 (by decide) (by decide) (fun j hj => ?_) (by decide) (by decide) dX15_paragraphOf_33 (by decide) ?_
    · match j, hj with
      | 0, _ => exact hq0
      | 1, _ => exact hq1
      | 2, _ => exact hq2
      | 3, _ => exact hq3
      | 4, _ => exact hq4
      | 5, _ => exact hq5
      | j + 6, hj => exact absurd hj (by omega)
    · refine v_iconst (v := (-1)) dX15_paragraphOf_118 (by decide) ?_
      exact v_iret hf dX15_paragraphOf_119
/-- LivesAheadModel.paragraphOf(III)I -/
def f_X15_paragraphOf (σ : TH) (p0 : Nat) (p1 : Int32) (p2 : Int32) (p3 : Int32) : Option (Int32 × TH) :=
  gt_ (kd_ σ p0 = 17) <| lt_ (si_ σ 1600 p0 (0 : Int32)) fun s1 => bd_ (f_X15_isPerson s1 p0 p1) fun x2 s3 => if x2 = 0 then (f_X15_paragraphOf_b23 s3 p0 p3 none) else (bd_ (f_X15_at s3 p0 p1 p2) fun r13 s14 => f_X15_paragraphOf_b23 s14 p0 p3 r13)
set_option maxHeartbeats 4000000 in
set_option maxRecDepth 100000 in
theorem c_X15_paragraphOf {l : Launch} {D : va_G} {cy : Nat → ClassId} {ka : Nat → Nat} {σ z : TH} {p0 : Nat} {p1 : Int32} {p2 : Int32} {p3 : Int32} {r : Int32} (hf : f_X15_paragraphOf σ p0 p1 p2 p3 = some (r, z)) : ct_ l D cy ka yX15_paragraphOf 41 938 [va_rf (some p0), .int p1, .int p2, .int p3] σ (some (.int r)) z := by
  unfold f_X15_paragraphOf at hf
  refine v_start (cc := cX15_paragraphOf) (own := RX15) (maxL := 5) (ret := (some FieldType.int)) (nm := "paragraphOf") (by decide +kernel) kw_2073 rfl rfl (by simp [lg_sl, va_rf_cat, cat_i, cat_l]) ?_
  refine v_eqL (L2 := [(0, va_rf (some p0)), (1, .int p1), (2, .int p2), (3, .int p3)]) (by simp [lv_args, va_rf_cat, cat_i, cat_l]) ?_
  refine v_aload_n (x := (some p0)) dX15_paragraphOf_0 rfl 0 rfl ?_
  refine v_iconst (v := 0) dX15_paragraphOf_1 (by decide) ?_
  obtain ⟨hk_p0, hf⟩ := gt_of hf
  refine v_puti2 cb_16 hk_p0 0 1600 rfl (by decide) rfl (lk_n kw_1457 rfl) (Or.inl rfl) rfl rfl hf dX15_paragraphOf_2 (fun s1 hts1 hf => ?_)
  have hk_p0 := tk_ hts1 hk_p0
  refine v_aload_n (x := (some p0)) dX15_paragraphOf_5 rfl 0 rfl ?_
  refine v_iload_n (x := p1) dX15_paragraphOf_6 rfl 1 rfl ?_
  obtain ⟨x2, s3, hcs3, hf⟩ := bd_of hf
  have hts3 := c_X15_isPerson (l := l) (D := D) (cy := cy) (ka := ka) hcs3
  refine v_callV cb_16 hk_p0 (As := [.int p1]) (rest := []) hts3 yb_X15_isPerson kw_1770 kw_1772 kp_83 rfl ⟨Nat.le_of_ble_eq_true rfl, Nat.le_of_ble_eq_true rfl⟩ rfl (cat_len (Nat.le_of_ble_eq_true rfl)) dX15_paragraphOf_7 ?_
  have hk_p0 := tk_ hts3.1 hk_p0
  show v_ l D cy ka cX15_paragraphOf RX15 5 (some FieldType.int) "paragraphOf" 41 938 (qf_ D cy σ z (some (.int r))) σ z _ 10 [(0, va_rf (some p0)), (1, .int p1), (2, .int p2), (3, .int p3)] [.int x2]
  refine v_if_eq (tgt := 22) hf dX15_paragraphOf_10 (by decide) (fun hq hf => ?_) (fun hq hf => ?_)
  · refine v_null dX15_paragraphOf_22 ?_
    refine v_sub [0, 3] (L2 := [(0, va_rf (some p0)), (3, .int p3)]) rfl ?_
    exact t_X15_paragraphOf_b23  hf
  · refine v_aload_n (x := (some p0)) dX15_paragraphOf_13 rfl 0 rfl ?_
    refine v_iload_n (x := p1) dX15_paragraphOf_14 rfl 1 rfl ?_
    refine v_iload_n (x := p2) dX15_paragraphOf_15 rfl 2 rfl ?_
    obtain ⟨r13, s14, hcs14, hf⟩ := bd_of hf
    have hts14 := c_X15_at (l := l) (D := D) (cy := cy) (ka := ka) hcs14
    refine v_callV cb_16 hk_p0 (As := [.int p1, .int p2]) (rest := []) hts14 yb_X15_at kw_2058 kw_2060 kp_125 rfl ⟨Nat.le_of_ble_eq_true rfl, Nat.le_of_ble_eq_true rfl⟩ rfl (cat_len (Nat.le_of_ble_eq_true rfl)) dX15_paragraphOf_16 ?_
    have hk_p0 := tk_ hts14.1 hk_p0
    show v_ l D cy ka cX15_paragraphOf RX15 5 (some FieldType.int) "paragraphOf" 41 938 (qf_ D cy σ z (some (.int r))) σ z _ 19 [(0, va_rf (some p0)), (1, .int p1), (2, .int p2), (3, .int p3)] [va_rf r13]
    refine v_goto (tgt := 23) dX15_paragraphOf_19 (by decide) ?_
    refine v_sub [0, 3] (L2 := [(0, va_rf (some p0)), (3, .int p3)]) rfl ?_
    exact t_X15_paragraphOf_b23  hf
theorem dX15_print_0 : decode cX15_print 0 = .ok (.aload_n 0, 1) := by decide +kernel
theorem dX15_print_1 : decode cX15_print 1 = .ok (.iconst 0, 1) := by decide +kernel
theorem dX15_print_2 : decode cX15_print 2 = .ok (.putfield 1, 3) := by decide +kernel
theorem dX15_print_5 : decode cX15_print 5 = .ok (.aload_n 0, 1) := by decide +kernel
theorem dX15_print_6 : decode cX15_print 6 = .ok (.iload_n 1, 1) := by decide +kernel
theorem dX15_print_7 : decode cX15_print 7 = .ok (.invokevirtual 227, 3) := by decide +kernel
theorem dX15_print_10 : decode cX15_print 10 = .ok (.ifCond .eq 12, 3) := by decide +kernel
theorem dX15_print_13 : decode cX15_print 13 = .ok (.aload_n 0, 1) := by decide +kernel
theorem dX15_print_14 : decode cX15_print 14 = .ok (.iload_n 1, 1) := by decide +kernel
theorem dX15_print_15 : decode cX15_print 15 = .ok (.iload_n 2, 1) := by decide +kernel
theorem dX15_print_16 : decode cX15_print 16 = .ok (.invokevirtual 506, 3) := by decide +kernel
theorem dX15_print_19 : decode cX15_print 19 = .ok (.goto 4, 3) := by decide +kernel
theorem dX15_print_22 : decode cX15_print 22 = .ok (.aconst_null, 1) := by decide +kernel
theorem dX15_print_23 : decode cX15_print 23 = .ok (.astore_n 3, 1) := by decide +kernel
theorem dX15_print_24 : decode cX15_print 24 = .ok (.aload_n 3, 1) := by decide +kernel
theorem dX15_print_25 : decode cX15_print 25 = .ok (.ifnonnull 9, 3) := by decide +kernel
theorem dX15_print_28 : decode cX15_print 28 = .ok (.aload_n 0, 1) := by decide +kernel
theorem dX15_print_29 : decode cX15_print 29 = .ok (.iconst 1, 1) := by decide +kernel
theorem dX15_print_30 : decode cX15_print 30 = .ok (.invokevirtual 201, 3) := by decide +kernel
theorem dX15_print_33 : decode cX15_print 33 = .ok (.ireturn, 1) := by decide +kernel
theorem dX15_print_34 : decode cX15_print 34 = .ok (.aload_n 0, 1) := by decide +kernel
theorem dX15_print_35 : decode cX15_print 35 = .ok (.aload_n 0, 1) := by decide +kernel
theorem dX15_print_36 : decode cX15_print 36 = .ok (.aload_n 3, 1) := by decide +kernel
theorem dX15_print_37 : decode cX15_print 37 = .ok (.invokevirtual 509, 3) := by decide +kernel
theorem dX15_print_40 : decode cX15_print 40 = .ok (.putfield 517, 3) := by decide +kernel
theorem dX15_print_43 : decode cX15_print 43 = .ok (.iconst 0, 1) := by decide +kernel
theorem dX15_print_44 : decode cX15_print 44 = .ok (.istore 4, 2) := by decide +kernel
theorem dX15_print_46 : decode cX15_print 46 = .ok (.iload 4, 2) := by decide +kernel
theorem dX15_print_48 : decode cX15_print 48 = .ok (.aload_n 0, 1) := by decide +kernel
theorem dX15_print_49 : decode cX15_print 49 = .ok (.getfield 517, 3) := by decide +kernel
theorem dX15_print_52 : decode cX15_print 52 = .ok (.if_icmp .ge 23, 3) := by decide +kernel
theorem dX15_print_55 : decode cX15_print 55 = .ok (.aload_n 0, 1) := by decide +kernel
theorem dX15_print_56 : decode cX15_print 56 = .ok (.getfield 86, 3) := by decide +kernel
theorem dX15_print_59 : decode cX15_print 59 = .ok (.iload 4, 2) := by decide +kernel
theorem dX15_print_61 : decode cX15_print 61 = .ok (.aload_n 0, 1) := by decide +kernel
theorem dX15_print_62 : decode cX15_print 62 = .ok (.getfield 83, 3) := by decide +kernel
theorem dX15_print_65 : decode cX15_print 65 = .ok (.iload 4, 2) := by decide +kernel
theorem dX15_print_67 : decode cX15_print 67 = .ok (.baload, 1) := by decide +kernel
theorem dX15_print_68 : decode cX15_print 68 = .ok (.bastore, 1) := by decide +kernel
theorem dX15_print_69 : decode cX15_print 69 = .ok (.iinc 4 1, 3) := by decide +kernel
theorem dX15_print_72 : decode cX15_print 72 = .ok (.goto (-26), 3) := by decide +kernel
theorem dX15_print_75 : decode cX15_print 75 = .ok (.aload_n 0, 1) := by decide +kernel
theorem dX15_print_76 : decode cX15_print 76 = .ok (.aload_n 0, 1) := by decide +kernel
theorem dX15_print_77 : decode cX15_print 77 = .ok (.getfield 517, 3) := by decide +kernel
theorem dX15_print_80 : decode cX15_print 80 = .ok (.invokevirtual 205, 3) := by decide +kernel
theorem dX15_print_83 : decode cX15_print 83 = .ok (.ireturn, 1) := by decide +kernel
def f_X15_print_b46 : Nat → TH → Nat → Int32 → Option (Int32 × TH)
  | 0, _, _, _ => none
  | n + 1, σ, l0, l4 => gt_ (kd_ σ l0 = 17) <| lt_ (fi_ σ 1642 l0) fun x10 => if x10 ≤ l4 then (lt_ (fi_ σ 1642 l0) fun x11 => bd_ (f_X15_done σ l0 x11) fun x12 s13 => some (x12, s13)) else (lt_ (fr_ σ 1628 l0) fun r14 => lt_ (fr_ σ 1627 l0) fun r15 => nn_ r15 fun a16 => gt_ (kd_ σ a16 = 21) <| gt_ (¬ (l4 < 0 ∨ ln_ σ a16 ≤ l4.toNatClampNeg)) <| lt_ (ai_ σ a16 l4.toNatClampNeg) fun x17 => nn_ r14 fun a18 => gt_ (kd_ σ a18 = 21) <| gt_ (¬ (l4 < 0 ∨ ln_ σ a18 ≤ l4.toNatClampNeg)) <| lt_ (sa_ σ a18 l4.toNatClampNeg (vp_nar .byte x17)) fun s19 => lt_ (l4 + 1) fun x20 => (f_X15_print_b46 n) s19 l0 x20)
set_option maxHeartbeats 4000000 in
set_option maxRecDepth 100000 in
theorem t_X15_print_b46 {l : Launch} {D : va_G} {cy : Nat → ClassId} {ka : Nat → Nat} {σ0 z : TH} {r : Int32}  : ∀ (n : Nat) (σ : TH) (l0 : Nat) (l4 : Int32), f_X15_print_b46 n σ l0 l4 = some (r, z) → v_ l D cy ka cX15_print RX15 5 (some FieldType.int) "print" 41 938 (qf_ D cy σ0 z (some (.int r))) σ0 z σ 46 [(0, va_rf (some l0)), (4, .int l4)] [] := by
  intro n
  induction n with
  | zero => intro σ l0 l4 hf; unfold f_X15_print_b46 at hf; cases hf
  | succ n ih =>
    intro σ l0 l4 hf
    unfold f_X15_print_b46 at hf
    have hrec_46 := ih
    refine v_iload (x := l4) dX15_print_46 1 rfl ?_
    refine v_aload_n (x := (some l0)) dX15_print_48 rfl 0 rfl ?_
    obtain ⟨hk_l0, hf⟩ := gt_of hf
    refine v_geti cb_16 hk_l0 42 1642 rfl (by decide) rfl (lk_n kw_1499 rfl) hf dX15_print_49 (fun x10 hf => ?_)
    refine v_icmp_ge (tgt := 75) hf dX15_print_52 (by decide) (fun hq hf => ?_) (fun hq hf => ?_)
    · refine v_aload_n (x := (some l0)) dX15_print_75 rfl 0 rfl ?_
      refine v_aload_n (x := (some l0)) dX15_print_76 rfl 0 rfl ?_
      refine v_geti cb_16 hk_l0 42 1642 rfl (by decide) rfl (lk_n kw_1499 rfl) hf dX15_print_77 (fun x11 hf => ?_)
      obtain ⟨x12, s13, hcs13, hf⟩ := bd_of hf
      have hts13 := c_X15_done (l := l) (D := D) (cy := cy) (ka := ka) hcs13
      refine v_callV cb_16 hk_l0 (As := [.int x11]) (rest := []) hts13 yb_X15_done kw_1733 kw_1735 kp_78 rfl ⟨Nat.le_of_ble_eq_true rfl, Nat.le_of_ble_eq_true rfl⟩ rfl (cat_len (Nat.le_of_ble_eq_true rfl)) dX15_print_80 ?_
      have hk_l0 := tk_ hts13.1 hk_l0
      show v_ l D cy ka cX15_print RX15 5 (some FieldType.int) "print" 41 938 (qf_ D cy σ0 z (some (.int r))) σ0 z _ 83 [(0, va_rf (some l0)), (4, .int l4)] [.int x12]
      exact v_iret hf dX15_print_83
    · refine v_aload_n (x := (some l0)) dX15_print_55 rfl 0 rfl ?_
      refine v_getr cb_16 hk_l0 28 1628 rfl (by decide) rfl (lk_n kw_1485 rfl) hf dX15_print_56 (fun r14 hf => ?_)
      refine v_iload (x := l4) dX15_print_59 1 rfl ?_
      refine v_aload_n (x := (some l0)) dX15_print_61 rfl 0 rfl ?_
      refine v_getr cb_16 hk_l0 27 1627 rfl (by decide) rfl (lk_n kw_1484 rfl) hf dX15_print_62 (fun r15 hf => ?_)
      refine v_iload (x := l4) dX15_print_65 1 rfl ?_
      obtain ⟨a16, rfl, hf⟩ := nn_of hf
      obtain ⟨hk_a16, hf⟩ := gt_of hf
      refine v_bald hk_a16 hf dX15_print_67 (fun x17 hf => ?_)
      obtain ⟨a18, rfl, hf⟩ := nn_of hf
      obtain ⟨hk_a18, hf⟩ := gt_of hf
      refine v_bast2 hk_a18 hf dX15_print_68 (fun s19 hts19 hf => ?_)
      have hk_l0 := tk_ hts19 hk_l0
      obtain ⟨x20, ex20⟩ : ∃ y : Int32, y = l4 + 1 := ⟨_, rfl⟩
      rw [lt_e, ← ex20] at hf
      refine v_iinc (v := x20) [(4, .int x20), (0, va_rf (some l0))] dX15_print_69 1 rfl (by rw [ex20]; rfl) (by decide) rfl ?_
      refine v_goto (tgt := 46) dX15_print_72 (by decide) ?_
      refine v_sub [1, 0] (L2 := [(0, va_rf (some l0)), (4, .int x20)]) rfl ?_
      exact hrec_46 _ _ _ hf
def f_X15_print_b23 (σ : TH) (l0 : Nat) (t0 : Option Nat) : Option (Int32 × TH) :=
  oc_ t0 (gt_ (kd_ σ l0 = 17) <| bd_ (f_X15_refused σ l0 (1 : Int32)) fun x5 s6 => some (x5, s6)) (fun a4 => gt_ (kd_ σ l0 = 17) <| bd_ (f_X15_lengthOf σ l0 (some a4)) fun x7 s8 => lt_ (si_ s8 1642 l0 x7) fun s9 => f_X15_print_b46 fu_ s9 l0 (0 : Int32))
set_option maxHeartbeats 4000000 in
set_option maxRecDepth 100000 in
theorem t_X15_print_b23 {l : Launch} {D : va_G} {cy : Nat → ClassId} {ka : Nat → Nat} {σ0 z : TH} {r : Int32}  {σ : TH} {l0 : Nat} {t0 : Option Nat} (hf : f_X15_print_b23 σ l0 t0 = some (r, z)) : v_ l D cy ka cX15_print RX15 5 (some FieldType.int) "print" 41 938 (qf_ D cy σ0 z (some (.int r))) σ0 z σ 23 [(0, va_rf (some l0))] [va_rf t0] := by
  unfold f_X15_print_b23 at hf
  refine v_astore_n [(3, va_rf t0), (0, va_rf (some l0))] dX15_print_23 rfl (by decide) rfl ?_
  refine v_aload_n (x := t0) dX15_print_24 rfl 0 rfl ?_
  refine v_ifnonnull2 (tgt := 34) hf dX15_print_25 (by decide) (fun e9 hf9 => ?_) (fun a4 e9 hf9 => ?_)
  · subst e9
    replace hf := hf9
    clear hf9
    refine v_aload_n (x := (some l0)) dX15_print_28 rfl 1 rfl ?_
    refine v_iconst (v := 1) dX15_print_29 (by decide) ?_
    obtain ⟨hk_l0, hf⟩ := gt_of hf
    obtain ⟨x5, s6, hcs6, hf⟩ := bd_of hf
    have hts6 := c_X15_refused (l := l) (D := D) (cy := cy) (ka := ka) hcs6
    refine v_callV cb_16 hk_l0 (As := [.int (1 : Int32)]) (rest := []) hts6 yb_X15_refused kw_1729 kw_1731 kp_77 rfl ⟨Nat.le_of_ble_eq_true rfl, Nat.le_of_ble_eq_true rfl⟩ rfl (cat_len (Nat.le_of_ble_eq_true rfl)) dX15_print_30 ?_
    have hk_l0 := tk_ hts6.1 hk_l0
    show v_ l D cy ka cX15_print RX15 5 (some FieldType.int) "print" 41 938 (qf_ D cy σ0 z (some (.int r))) σ0 z _ 33 [(3, va_rf none), (0, va_rf (some l0))] [.int x5]
    exact v_iret hf dX15_print_33
  · subst e9
    replace hf := hf9
    clear hf9
    refine v_aload_n (x := (some l0)) dX15_print_34 rfl 1 rfl ?_
    refine v_aload_n (x := (some l0)) dX15_print_35 rfl 1 rfl ?_
    refine v_aload_n (x := (some a4)) dX15_print_36 rfl 0 rfl ?_
    obtain ⟨hk_l0, hf⟩ := gt_of hf
    obtain ⟨x7, s8, hcs8, hf⟩ := bd_of hf
    have hts8 := c_X15_lengthOf (l := l) (D := D) (cy := cy) (ka := ka) hcs8
    refine v_callV cb_16 hk_l0 (As := [va_rf (some a4)]) (rest := [va_rf (some l0)]) hts8 yb_X15_lengthOf kw_2074 kw_2076 kp_126 rfl ⟨Nat.le_of_ble_eq_true rfl, Nat.le_of_ble_eq_true rfl⟩ rfl (cat_len (Nat.le_of_ble_eq_true rfl)) dX15_print_37 ?_
    have hk_l0 := tk_ hts8.1 hk_l0
    show v_ l D cy ka cX15_print RX15 5 (some FieldType.int) "print" 41 938 (qf_ D cy σ0 z (some (.int r))) σ0 z _ 40 [(3, va_rf (some a4)), (0, va_rf (some l0))] [.int x7, va_rf (some l0)]
    refine v_puti2 cb_16 hk_l0 42 1642 rfl (by decide) rfl (lk_n kw_1499 rfl) (Or.inl rfl) rfl rfl hf dX15_print_40 (fun s9 hts9 hf => ?_)
    have hk_l0 := tk_ hts9 hk_l0
    refine v_iconst (v := 0) dX15_print_43 (by decide) ?_
    refine v_istore [(4, .int (0 : Int32)), (3, va_rf (some a4)), (0, va_rf (some l0))] dX15_print_44 (by decide) rfl ?_
    refine v_sub [2, 0] (L2 := [(0, va_rf (some l0)), (4, .int (0 : Int32))]) rfl ?_
    exact t_X15_print_b46  _ _ _ _ hf
/-- LivesAheadModel.print(II)I -/
def f_X15_print (σ : TH) (p0 : Nat) (p1 : Int32) (p2 : Int32) : Option (Int32 × TH) :=
  gt_ (kd_ σ p0 = 17) <| lt_ (si_ σ 1600 p0 (0 : Int32)) fun s1 => bd_ (f_X15_isPerson s1 p0 p1) fun x2 s3 => if x2 = 0 then (f_X15_print_b23 s3 p0 none) else (bd_ (f_X15_at s3 p0 p1 p2) fun r21 s22 => f_X15_print_b23 s22 p0 r21)
set_option maxHeartbeats 4000000 in
set_option maxRecDepth 100000 in
theorem c_X15_print {l : Launch} {D : va_G} {cy : Nat → ClassId} {ka : Nat → Nat} {σ z : TH} {p0 : Nat} {p1 : Int32} {p2 : Int32} {r : Int32} (hf : f_X15_print σ p0 p1 p2 = some (r, z)) : ct_ l D cy ka yX15_print 41 938 [va_rf (some p0), .int p1, .int p2] σ (some (.int r)) z := by
  unfold f_X15_print at hf
  refine v_start (cc := cX15_print) (own := RX15) (maxL := 5) (ret := (some FieldType.int)) (nm := "print") (by decide +kernel) kw_2085 rfl rfl (by simp [lg_sl, va_rf_cat, cat_i, cat_l]) ?_
  refine v_eqL (L2 := [(0, va_rf (some p0)), (1, .int p1), (2, .int p2)]) (by simp [lv_args, va_rf_cat, cat_i, cat_l]) ?_
  refine v_aload_n (x := (some p0)) dX15_print_0 rfl 0 rfl ?_
  refine v_iconst (v := 0) dX15_print_1 (by decide) ?_
  obtain ⟨hk_p0, hf⟩ := gt_of hf
  refine v_puti2 cb_16 hk_p0 0 1600 rfl (by decide) rfl (lk_n kw_1457 rfl) (Or.inl rfl) rfl rfl hf dX15_print_2 (fun s1 hts1 hf => ?_)
  have hk_p0 := tk_ hts1 hk_p0
  refine v_aload_n (x := (some p0)) dX15_print_5 rfl 0 rfl ?_
  refine v_iload_n (x := p1) dX15_print_6 rfl 1 rfl ?_
  obtain ⟨x2, s3, hcs3, hf⟩ := bd_of hf
  have hts3 := c_X15_isPerson (l := l) (D := D) (cy := cy) (ka := ka) hcs3
  refine v_callV cb_16 hk_p0 (As := [.int p1]) (rest := []) hts3 yb_X15_isPerson kw_1770 kw_1772 kp_83 rfl ⟨Nat.le_of_ble_eq_true rfl, Nat.le_of_ble_eq_true rfl⟩ rfl (cat_len (Nat.le_of_ble_eq_true rfl)) dX15_print_7 ?_
  have hk_p0 := tk_ hts3.1 hk_p0
  show v_ l D cy ka cX15_print RX15 5 (some FieldType.int) "print" 41 938 (qf_ D cy σ z (some (.int r))) σ z _ 10 [(0, va_rf (some p0)), (1, .int p1), (2, .int p2)] [.int x2]
  refine v_if_eq (tgt := 22) hf dX15_print_10 (by decide) (fun hq hf => ?_) (fun hq hf => ?_)
  · refine v_null dX15_print_22 ?_
    refine v_sub [0] (L2 := [(0, va_rf (some p0))]) rfl ?_
    exact t_X15_print_b23  hf
  · refine v_aload_n (x := (some p0)) dX15_print_13 rfl 0 rfl ?_
    refine v_iload_n (x := p1) dX15_print_14 rfl 1 rfl ?_
    refine v_iload_n (x := p2) dX15_print_15 rfl 2 rfl ?_
    obtain ⟨r21, s22, hcs22, hf⟩ := bd_of hf
    have hts22 := c_X15_at (l := l) (D := D) (cy := cy) (ka := ka) hcs22
    refine v_callV cb_16 hk_p0 (As := [.int p1, .int p2]) (rest := []) hts22 yb_X15_at kw_2058 kw_2060 kp_125 rfl ⟨Nat.le_of_ble_eq_true rfl, Nat.le_of_ble_eq_true rfl⟩ rfl (cat_len (Nat.le_of_ble_eq_true rfl)) dX15_print_16 ?_
    have hk_p0 := tk_ hts22.1 hk_p0
    show v_ l D cy ka cX15_print RX15 5 (some FieldType.int) "print" 41 938 (qf_ D cy σ z (some (.int r))) σ z _ 19 [(0, va_rf (some p0)), (1, .int p1), (2, .int p2)] [va_rf r21]
    refine v_goto (tgt := 23) dX15_print_19 (by decide) ?_
    refine v_sub [0] (L2 := [(0, va_rf (some p0))]) rfl ?_
    exact t_X15_print_b23  hf
