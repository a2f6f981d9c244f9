/-! THE CLASS'S READER ON THE HEAP: words, numbers, the whole reading. Written by wip/b/mk99x.py. -/
def wl9_ : List (List Nat) := [[105, 102], [111, 114], [97, 110, 100], [110, 111, 116], [104, 97, 115], [97, 103, 101], [107, 105, 110], [100, 101, 97, 100], [98, 111, 114, 110], [121, 101, 97, 114], [115, 116, 97, 108, 101], [119, 111, 114, 116, 104], [114, 105, 118, 97, 108], [104, 111, 117, 114, 115], [100, 111, 99, 116, 111, 114], [111, 102, 102, 105, 99, 101], [97, 103, 101, 110, 99, 121], [115, 111, 117, 114, 99, 101, 115]]
theorem k_len (σ : TH) {j : Nat} (hj : j < 18) : f_J0_length_8abf5 σ j = some (nI (wl9_.getD j []).length, σ) := by
  have key : ∀ j, j < 18 → (Int32.ofNat (stl_.getD j 0)) >>> ((0 : Int32) &&& 31) = nI (wl9_.getD j []).length := by decide +kernel
  unfold f_J0_length_8abf5 f_J0_coder_7d493 f_J0_coder_7d493_b14
  rw [gt_t hj, if_neg (by decide), gt_t hj, gt_t (by decide), bd_s, key j hj]
theorem k_char (σ : TH) {j i : Nat} (hj : j < 18) (hi : i < (wl9_.getD j []).length) : f_J0_charAt_5068e σ j (nI i) = some (nI ((wl9_.getD j []).getD i 0), σ) := by
  have hi7 : ∀ j, j < 18 → (wl9_.getD j []).length ≤ 7 ∧ (wl9_.getD j []).length = stl_.getD j 0 := by decide +kernel
  obtain ⟨h7, hl⟩ := hi7 j hj
  have key : ∀ j, j < 18 → ∀ i, i < 7 → i < (wl9_.getD j []).length → (Int32.toUInt32 (((stb_.getD j []).getD i 0) &&& (255 : Int32)) % 65536).toInt32 = nI ((wl9_.getD j []).getD i 0) ∧ (Int32.toUInt32 (nI ((wl9_.getD j []).getD i 0)) % 65536).toInt32 = nI ((wl9_.getD j []).getD i 0) := by decide +kernel
  obtain ⟨k1, k2⟩ := key j hj i (by omega) hi
  have q1 : ¬ nI i < 0 := nI_pos (by omega)
  have q2 : nI i < Int32.ofNat (stl_.getD j 0) := nI_lt (b := stl_.getD j 0) (by omega) (by omega)
  have q3 : (nI i).toNatClampNeg = i := nI_clamp (by omega)
  unfold f_J0_charAt_5068e f_J0_isLatin1_aae02 f_J0_isLatin1_aae02_b18 f_J1_charAt_3b067 f_J0_checkIndex_df160 f_J3_checkIndex_8e157
  rw [gt_t hj, if_neg (show ¬ (1 : Int32) = 0 by decide), gt_t hj, if_pos rfl, gt_t (by decide), bd_s, if_neg (show ¬ (1 : Int32) = 0 by decide), gt_t hj, if_neg q1, if_pos q2, bd_s, bd_s, q3, gt_t (ix9_ (k := i) (M := stl_.getD j 0) (by omega) (by omega)), k1, k2, gt_t rfl, bd_s, k2, gt_t rfl]
section WD9
variable {σ : TH} {R T S K : Nat} {r : Bool} {w : Nat → Nat} {n : Nat} {m : MM} {a L : Nat} {F X Y : Nat → Int32}
theorem k_spellsL (hS : hS_ σ R T S K) (hb : bt9_ w n (ai_ σ T)) (e8 : F 708 = nI n) {p j : Nat} (hp : p < 2 ^ 29) (hj : j < 18) : ∀ (l : List Nat) (i f : Nat), (wl9_.getD j []).drop i = l → i ≤ 7 → l.length < f → i + l.length = (wl9_.getD j []).length → f_X6_spells_b2 f (kh_ σ R S K F X Y) R (nI p) j (nI i) = some (bi_ (sp9_ w (p + i) l = true), kh_ σ R S K F X Y) := by
  intro l
  have h7 : ∀ j, j < 18 → (wl9_.getD j []).length ≤ 7 := by decide +kernel
  have h7 := h7 j hj
  have hr : ∀ j, j < 18 → ∀ i, i < 7 → i < (wl9_.getD j []).length → 0 < (wl9_.getD j []).getD i 0 ∧ (wl9_.getD j []).getD i 0 < 128 := by decide +kernel
  induction l with
  | nil =>
    intro i f h hi hf hl
    obtain ⟨g, rfl⟩ : ∃ g, f = g + 1 := ⟨f - 1, by simp at hf; omega⟩
    have hl : i = (wl9_.getD j []).length := by simpa using hl
    unfold f_X6_spells_b2
    rw [gt_t hj, k_len _ hj, bd_s, ← hl, if_pos (nI_le (Nat.le_refl _) (by omega)), bi_t (show sp9_ w (p + i) [] = true from rfl)]
  | cons c l ih =>
    intro i f h hi hf hl
    obtain ⟨g, rfl⟩ : ∃ g, f = g + 1 := ⟨f - 1, by simp at hf; omega⟩
    have hf : l.length < g := by simpa using hf
    have hl : i + (l.length + 1) = (wl9_.getD j []).length := hl
    have hil : i < (wl9_.getD j []).length := by omega
    have ec : (wl9_.getD j []).getD i 0 = c := by
      have q := congrArg (fun u : List Nat => u.getD 0 0) h
      simpa [List.getD, List.getElem?_drop] using q
    have et : (wl9_.getD j []).drop (i + 1) = l := by
      have q := congrArg List.tail h
      rw [List.tail_drop] at q
      exact q
    have rg := hr j hj i (by omega) hil
    rw [ec] at rg
    unfold f_X6_spells_b2
    rw [gt_t hj, k_len _ hj, bd_s, if_neg (nI_ge hil (by omega)), gt_t (k8 hS), nI_add, k_byte hS hb e8 (by omega), bd_s, k_char _ hj hil, ec, bd_s]
    have bq : sb9_ (w (p + i)) = nI c ↔ w (p + i) = c := sb9_eq (bt9_ok hb _) rg rfl
    by_cases z : w (p + i) = c
    · rw [if_pos (bq.mpr z), lt_e, nI_1, ih (i + 1) g et (by omega) hf (by omega)]
      have : sp9_ w (p + i) (c :: l) = sp9_ w (p + (i + 1)) l := by
        show (decide (w (p + i) = c) && sp9_ w (p + i + 1) l) = _
        rw [decide_eq_true z]
        rfl
      rw [this]
    · rw [if_neg (fun q => z (bq.mp q))]
      have : ¬ sp9_ w (p + i) (c :: l) = true := by
        show ¬ (decide (w (p + i) = c) && sp9_ w (p + i + 1) l) = true
        rw [decide_eq_false z]
        simp
      rw [bi_f this]
theorem k_spells (hS : hS_ σ R T S K) (hb : bt9_ w n (ai_ σ T)) (e8 : F 708 = nI n) {p j : Nat} (hp : p < 2 ^ 29) (hj : j < 18) : f_X6_spells (kh_ σ R S K F X Y) R (nI p) j = some (bi_ (sp9_ w p (wl9_.getD j []) = true), kh_ σ R S K F X Y) := by
  have h7 : ∀ j, j < 18 → (wl9_.getD j []).length ≤ 7 := by decide +kernel
  have h7 := h7 j hj
  have fu : (wl9_.getD j []).length < fu_ := Nat.lt_of_le_of_lt h7 (by decide)
  exact k_spellsL hS hb e8 hp hj (wl9_.getD j []) 0 fu_ rfl (by decide) fu (Nat.zero_add _)
theorem k_wordAt (hS : hS_ σ R T S K) (hb : bt9_ w n (ai_ σ T)) (e8 : F 708 = nI n) {p l : Nat} (hp : p < 2 ^ 29) (hl : l ≤ 8) : f_X6_wordAt (kh_ σ R S K F X Y) R (nI p) (nI l) = some (cw9_ (wc9_ w p l), kh_ σ R S K F X Y) := by
  unfold f_X6_wordAt wc9_ f_X6_wordAt_b71 f_X6_wordAt_b124 f_X6_wordAt_b186 f_X6_wordAt_b233 f_X6_wordAt_b250
  by_cases z2 : l = 2
  · rw [if_pos ((iq9_ (b := 2) (B := 2) rfl (by omega) (by decide)).mpr z2), if_pos z2, gt_t (k8 hS)]
    by_cases y0 : sp9_ w p [105, 102] = true
    · rw [k_spells hS hb e8 hp (j := 0) (by decide), show wl9_.getD 0 [] = [105, 102] from rfl, bd_s, bi_t y0, if_neg (show ¬ (1 : Int32) = 0 by decide), if_pos y0]
      rfl
    rw [k_spells hS hb e8 hp (j := 0) (by decide), show wl9_.getD 0 [] = [105, 102] from rfl, bd_s, bi_f y0, if_pos rfl, if_neg y0]
    by_cases y1 : sp9_ w p [111, 114] = true
    · rw [k_spells hS hb e8 hp (j := 1) (by decide), show wl9_.getD 1 [] = [111, 114] from rfl, bd_s, bi_t y1, if_neg (show ¬ (1 : Int32) = 0 by decide), if_pos y1]
      rfl
    rw [k_spells hS hb e8 hp (j := 1) (by decide), show wl9_.getD 1 [] = [111, 114] from rfl, bd_s, bi_f y1, if_pos rfl, if_neg y1]
    rfl
  rw [if_neg (fun q => z2 ((iq9_ (b := 2) (B := 2) rfl (by omega) (by decide)).mp q)), if_neg z2]
  by_cases z3 : l = 3
  · rw [if_pos ((iq9_ (b := 3) (B := 3) rfl (by omega) (by decide)).mpr z3), if_pos z3, gt_t (k8 hS)]
    unfold f_X6_shortWordAt f_X6_shortWordAt_b70
    rw [gt_t (k8 hS)]
    by_cases y0 : sp9_ w p [97, 110, 100] = true
    · rw [k_spells hS hb e8 hp (j := 2) (by decide), show wl9_.getD 2 [] = [97, 110, 100] from rfl, bd_s, bi_t y0, if_neg (show ¬ (1 : Int32) = 0 by decide), if_pos y0]
      rfl
    rw [k_spells hS hb e8 hp (j := 2) (by decide), show wl9_.getD 2 [] = [97, 110, 100] from rfl, bd_s, bi_f y0, if_pos rfl, if_neg y0]
    by_cases y1 : sp9_ w p [110, 111, 116] = true
    · rw [k_spells hS hb e8 hp (j := 3) (by decide), show wl9_.getD 3 [] = [110, 111, 116] from rfl, bd_s, bi_t y1, if_neg (show ¬ (1 : Int32) = 0 by decide), if_pos y1]
      rfl
    rw [k_spells hS hb e8 hp (j := 3) (by decide), show wl9_.getD 3 [] = [110, 111, 116] from rfl, bd_s, bi_f y1, if_pos rfl, if_neg y1]
    by_cases y2 : sp9_ w p [104, 97, 115] = true
    · rw [k_spells hS hb e8 hp (j := 4) (by decide), show wl9_.getD 4 [] = [104, 97, 115] from rfl, bd_s, bi_t y2, if_neg (show ¬ (1 : Int32) = 0 by decide), if_pos y2]
      rfl
    rw [k_spells hS hb e8 hp (j := 4) (by decide), show wl9_.getD 4 [] = [104, 97, 115] from rfl, bd_s, bi_f y2, if_pos rfl, if_neg y2]
    by_cases y3 : sp9_ w p [97, 103, 101] = true
    · rw [k_spells hS hb e8 hp (j := 5) (by decide), show wl9_.getD 5 [] = [97, 103, 101] from rfl, bd_s, bi_t y3, if_neg (show ¬ (1 : Int32) = 0 by decide), if_pos y3]
      rfl
    rw [k_spells hS hb e8 hp (j := 5) (by decide), show wl9_.getD 5 [] = [97, 103, 101] from rfl, bd_s, bi_f y3, if_pos rfl, if_neg y3]
    by_cases y4 : sp9_ w p [107, 105, 110] = true
    · rw [k_spells hS hb e8 hp (j := 6) (by decide), show wl9_.getD 6 [] = [107, 105, 110] from rfl, bd_s, bi_t y4, if_neg (show ¬ (1 : Int32) = 0 by decide), if_pos y4]
      rfl
    rw [k_spells hS hb e8 hp (j := 6) (by decide), show wl9_.getD 6 [] = [107, 105, 110] from rfl, bd_s, bi_f y4, if_pos rfl, if_neg y4]
    rfl
  rw [if_neg (fun q => z3 ((iq9_ (b := 3) (B := 3) rfl (by omega) (by decide)).mp q)), if_neg z3]
  by_cases z4 : l = 4
  · rw [if_pos ((iq9_ (b := 4) (B := 4) rfl (by omega) (by decide)).mpr z4), if_pos z4, gt_t (k8 hS)]
    by_cases y0 : sp9_ w p [100, 101, 97, 100] = true
    · rw [k_spells hS hb e8 hp (j := 7) (by decide), show wl9_.getD 7 [] = [100, 101, 97, 100] from rfl, bd_s, bi_t y0, if_neg (show ¬ (1 : Int32) = 0 by decide), if_pos y0]
      rfl
    rw [k_spells hS hb e8 hp (j := 7) (by decide), show wl9_.getD 7 [] = [100, 101, 97, 100] from rfl, bd_s, bi_f y0, if_pos rfl, if_neg y0]
    by_cases y1 : sp9_ w p [98, 111, 114, 110] = true
    · rw [k_spells hS hb e8 hp (j := 8) (by decide), show wl9_.getD 8 [] = [98, 111, 114, 110] from rfl, bd_s, bi_t y1, if_neg (show ¬ (1 : Int32) = 0 by decide), if_pos y1]
      rfl
    rw [k_spells hS hb e8 hp (j := 8) (by decide), show wl9_.getD 8 [] = [98, 111, 114, 110] from rfl, bd_s, bi_f y1, if_pos rfl, if_neg y1]
    by_cases y2 : sp9_ w p [121, 101, 97, 114] = true
    · rw [k_spells hS hb e8 hp (j := 9) (by decide), show wl9_.getD 9 [] = [121, 101, 97, 114] from rfl, bd_s, bi_t y2, if_neg (show ¬ (1 : Int32) = 0 by decide), if_pos y2]
      rfl
    rw [k_spells hS hb e8 hp (j := 9) (by decide), show wl9_.getD 9 [] = [121, 101, 97, 114] from rfl, bd_s, bi_f y2, if_pos rfl, if_neg y2]
    rfl
  rw [if_neg (fun q => z4 ((iq9_ (b := 4) (B := 4) rfl (by omega) (by decide)).mp q)), if_neg z4]
  by_cases z5 : l = 5
  · rw [if_pos ((iq9_ (b := 5) (B := 5) rfl (by omega) (by decide)).mpr z5), if_pos z5, gt_t (k8 hS)]
    by_cases y0 : sp9_ w p [115, 116, 97, 108, 101] = true
    · rw [k_spells hS hb e8 hp (j := 10) (by decide), show wl9_.getD 10 [] = [115, 116, 97, 108, 101] from rfl, bd_s, bi_t y0, if_neg (show ¬ (1 : Int32) = 0 by decide), if_pos y0]
      rfl
    rw [k_spells hS hb e8 hp (j := 10) (by decide), show wl9_.getD 10 [] = [115, 116, 97, 108, 101] from rfl, bd_s, bi_f y0, if_pos rfl, if_neg y0]
    by_cases y1 : sp9_ w p [119, 111, 114, 116, 104] = true
    · rw [k_spells hS hb e8 hp (j := 11) (by decide), show wl9_.getD 11 [] = [119, 111, 114, 116, 104] from rfl, bd_s, bi_t y1, if_neg (show ¬ (1 : Int32) = 0 by decide), if_pos y1]
      rfl
    rw [k_spells hS hb e8 hp (j := 11) (by decide), show wl9_.getD 11 [] = [119, 111, 114, 116, 104] from rfl, bd_s, bi_f y1, if_pos rfl, if_neg y1]
    by_cases y2 : sp9_ w p [114, 105, 118, 97, 108] = true
    · rw [k_spells hS hb e8 hp (j := 12) (by decide), show wl9_.getD 12 [] = [114, 105, 118, 97, 108] from rfl, bd_s, bi_t y2, if_neg (show ¬ (1 : Int32) = 0 by decide), if_pos y2]
      rfl
    rw [k_spells hS hb e8 hp (j := 12) (by decide), show wl9_.getD 12 [] = [114, 105, 118, 97, 108] from rfl, bd_s, bi_f y2, if_pos rfl, if_neg y2]
    by_cases y3 : sp9_ w p [104, 111, 117, 114, 115] = true
    · rw [k_spells hS hb e8 hp (j := 13) (by decide), show wl9_.getD 13 [] = [104, 111, 117, 114, 115] from rfl, bd_s, bi_t y3, if_neg (show ¬ (1 : Int32) = 0 by decide), if_pos y3]
      rfl
    rw [k_spells hS hb e8 hp (j := 13) (by decide), show wl9_.getD 13 [] = [104, 111, 117, 114, 115] from rfl, bd_s, bi_f y3, if_pos rfl, if_neg y3]
    rfl
  rw [if_neg (fun q => z5 ((iq9_ (b := 5) (B := 5) rfl (by omega) (by decide)).mp q)), if_neg z5]
  by_cases z6 : l = 6
  · rw [if_pos ((iq9_ (b := 6) (B := 6) rfl (by omega) (by decide)).mpr z6), if_pos z6, gt_t (k8 hS)]
    by_cases y0 : sp9_ w p [100, 111, 99, 116, 111, 114] = true
    · rw [k_spells hS hb e8 hp (j := 14) (by decide), show wl9_.getD 14 [] = [100, 111, 99, 116, 111, 114] from rfl, bd_s, bi_t y0, if_neg (show ¬ (1 : Int32) = 0 by decide), if_pos y0]
      rfl
    rw [k_spells hS hb e8 hp (j := 14) (by decide), show wl9_.getD 14 [] = [100, 111, 99, 116, 111, 114] from rfl, bd_s, bi_f y0, if_pos rfl, if_neg y0]
    by_cases y1 : sp9_ w p [111, 102, 102, 105, 99, 101] = true
    · rw [k_spells hS hb e8 hp (j := 15) (by decide), show wl9_.getD 15 [] = [111, 102, 102, 105, 99, 101] from rfl, bd_s, bi_t y1, if_neg (show ¬ (1 : Int32) = 0 by decide), if_pos y1]
      rfl
    rw [k_spells hS hb e8 hp (j := 15) (by decide), show wl9_.getD 15 [] = [111, 102, 102, 105, 99, 101] from rfl, bd_s, bi_f y1, if_pos rfl, if_neg y1]
    by_cases y2 : sp9_ w p [97, 103, 101, 110, 99, 121] = true
    · rw [k_spells hS hb e8 hp (j := 16) (by decide), show wl9_.getD 16 [] = [97, 103, 101, 110, 99, 121] from rfl, bd_s, bi_t y2, if_neg (show ¬ (1 : Int32) = 0 by decide), if_pos y2]
      rfl
    rw [k_spells hS hb e8 hp (j := 16) (by decide), show wl9_.getD 16 [] = [97, 103, 101, 110, 99, 121] from rfl, bd_s, bi_f y2, if_pos rfl, if_neg y2]
    rfl
  rw [if_neg (fun q => z6 ((iq9_ (b := 6) (B := 6) rfl (by omega) (by decide)).mp q)), if_neg z6]
  by_cases z7 : l = 7
  · rw [if_pos ((iq9_ (b := 7) (B := 7) rfl (by omega) (by decide)).mpr z7), if_pos z7, gt_t (k8 hS)]
    by_cases y0 : sp9_ w p [115, 111, 117, 114, 99, 101, 115] = true
    · rw [k_spells hS hb e8 hp (j := 17) (by decide), show wl9_.getD 17 [] = [115, 111, 117, 114, 99, 101, 115] from rfl, bd_s, bi_t y0, if_neg (show ¬ (1 : Int32) = 0 by decide), if_pos y0]
      rfl
    rw [k_spells hS hb e8 hp (j := 17) (by decide), show wl9_.getD 17 [] = [115, 111, 117, 114, 99, 101, 115] from rfl, bd_s, bi_f y0, if_pos rfl, if_neg y0]
    rfl
  rw [if_neg (fun q => z7 ((iq9_ (b := 7) (B := 7) rfl (by omega) (by decide)).mp q)), if_neg z7]
  rfl
theorem wc_ok (w : Nat → Nat) (p l : Nat) : wc9_ w p l ≤ 27 ∨ wc9_ w p l = 99 := by
  unfold wc9_
  repeat' split
  all_goals omega
/-- A WORD IS READ -/
theorem k_readWord (hS : hS_ σ R T S K) (hb : bt9_ w n (ai_ σ T)) (h : PR_ r n m a L F X Y) (hL : L + 1 < 1024) (ha : a < n) (hw : tL (w a) = true) : ∃ F' X', f_X6_readWord (kh_ σ R S K F X Y) R = some ((), kh_ σ R S K F' X' Y) ∧ ou9_ r n (tr9_ r m (tkp_ w a)) (tkp_ w a).2.2.2 (L + 2) F' X' Y := by
  have hn := hb.2.2
  have e8 : F 708 = nI n := h.1.2.2.2.1
  have e9 : F 709 = nI a := h.1.2.2.2.2
  have w9 : w a ≠ 999 := fun q => by rw [q] at hw; cases hw
  have E1 := en9_ge tL w 500 a
  have E2 := en9_le (q := tL) rfl hb.2.1 (f := 500) (a := a) (by omega)
  have E3 := en9_end (q := tL) rfl hb.2.1 (f := 500) (a := a) (by omega)
  have E4 : ∀ i, a ≤ i → i < en9_ tL w 500 a → tL (w i) = true := fun i h1 h2 => en9_in h1 h2
  unfold tkp_
  rw [if_neg w9, if_pos hw]
  obtain ⟨e, he⟩ : ∃ e, e = en9_ tL w 500 a := ⟨_, rfl⟩
  rw [← he] at E1 E2 E3 E4 ⊢
  have last : ∃ F' X', f_X6_readWord_b33 (kh_ σ R S K F X Y) R (nI a) (nI (e - a)) = some ((), kh_ σ R S K F' X' Y) ∧ ou9_ r n (tr9_ r m ((if e - a ≤ 8 then 4 else 0), wv9_ w a e, a, (if tD (w e) = true then e + 1 else e))) (if tD (w e) = true then e + 1 else e) (L + 2) F' X' Y := by
    unfold f_X6_readWord_b33
    have h1 := PR_at h e
    have e81 : upd F 709 (nI e) 708 = nI n := e8
    rw [gt_t (k8 hS), nI_add, show a + (e - a) = e by omega, lt_e, kh_si]
    by_cases z8 : e - a ≤ 8
    · rw [if_pos (show nI (e - a) ≤ 8 from nI_le (b := 8) z8 (by decide)), if_pos z8, lt_e, kh_fi, show upd F 709 (nI e) 709 = nI e from rfl, k_byte hS hb e81 (by omega), bd_s, k_dig _ (bt9_ok hb e), bd_s]
      unfold wv9_
      by_cases zd : tD (w e) = true
      · rw [bi_t zd, if_neg (show ¬ (1 : Int32) = 0 by decide), if_pos zd, if_pos zd, lt_e, kh_fi, show upd F 709 (nI e) 709 = nI e from rfl, nI_1, lt_e, kh_si]
        have h2 := PR_at h1 (e + 1)
        have e82 : upd (upd F 709 (nI e)) 709 (nI (e + 1)) 708 = nI n := e8
        have t1 : ∀ c, c ≤ 27 ∨ c = 99 → ∃ F' X', f_X6_readWord_b127 (kh_ σ R S K (upd (upd F 709 (nI e)) 709 (nI (e + 1))) X Y) (nI a) (cw9_ c) (some R) = some ((), kh_ σ R S K F' X' Y) ∧ ou9_ r n (tr9_ r m (4, c, a, e + 1)) (e + 1) (L + 2) F' X' Y := fun c hc => by
          unfold f_X6_readWord_b127
          obtain ⟨F3, X3, q3, h3⟩ := k_word hS h2 hL (pl := a) (e + 1) hc
          rw [nn_s, gt_t (k8 hS), q3, bd_s]
          exact ⟨_, _, rfl, h3⟩
        have un : ∃ F' X', f_X6_readWord_b110 (kh_ σ R S K (upd (upd F 709 (nI e)) 709 (nI (e + 1))) X Y) R (nI a) (sb9_ (w e)) = some ((), kh_ σ R S K F' X' Y) ∧ ou9_ r n (tr9_ r m (4, 99, a, e + 1)) (e + 1) (L + 2) F' X' Y := by
          unfold f_X6_readWord_b110 f_X6_readWord_b111
          rw [if_pos rfl]
          exact t1 99 (Or.inr rfl)
        by_cases z1 : e - a = 1
        · rw [if_pos ((iq9_ (b := 1) (B := 1) rfl (by omega) (by decide)).mpr z1), k_byte hS hb e82 (by omega), bd_s]
          have bk : sb9_ (w a) = 107 ↔ w a = 107 := sb9_eq (bt9_ok hb _) (d := 107) (by decide) rfl
          by_cases zk : w a = 107
          · rw [if_pos (bk.mpr zk), if_pos (show e = a + 1 ∧ w a = 107 from ⟨by omega, zk⟩)]
            unfold f_X6_readWord_b111
            rw [if_neg (show ¬ (1 : Int32) = 0 by decide)]
            have hd : 48 ≤ w e ∧ w e ≤ 57 := by simpa [tD] using zd
            have es : sb9_ (w e) - 48 = cw9_ (w e - 48) := by
              rw [show sb9_ (w e) = nI (w e) from if_pos (by omega), show cw9_ (w e - 48) = nI (w e - 48) from if_neg (by omega)]
              exact pk_sub (b := 48) hd.1
            rw [es]
            exact t1 (w e - 48) (Or.inl (by omega))
          · rw [if_neg (fun q => zk (bk.mp q)), if_neg (show ¬ (e = a + 1 ∧ w a = 107) from fun q => zk q.2)]
            exact un
        · rw [if_neg (fun q => z1 ((iq9_ (b := 1) (B := 1) rfl (by omega) (by decide)).mp q)), if_neg (show ¬ (e = a + 1 ∧ w a = 107) from fun q => z1 (by omega))]
          exact un
      · rw [bi_f zd, if_pos rfl, if_neg zd, if_neg zd, k_wordAt hS hb e81 (by omega) z8, bd_s]
        obtain ⟨F3, X3, q3, h3⟩ := k_word hS h1 hL (pl := a) e (wc_ok w a (e - a))
        rw [q3, bd_s]
        exact ⟨_, _, rfl, h3⟩
    · rw [if_neg (show ¬ nI (e - a) ≤ 8 from nI_ge (a := 8) (by omega) (by omega)), if_neg z8]
      obtain ⟨F2, q1, q2⟩ := k_failP (F := upd F 709 (nI e)) (X := X) (Y := Y) hS (p1 := 1) (p2 := nI a) (f := 1) (p := a) rfl rfl (by decide)
      rw [q1, bd_s]
      exact ⟨_, _, rfl, q2 _ _ _ _⟩
  unfold f_X6_readWord
  rw [gt_t (k8 hS), lt_e, kh_fi, e9]
  obtain ⟨F', X', lq, lo⟩ := last
  obtain ⟨q, q1, q2⟩ := lpe_ (F := fun f (_ : Unit) k => f_X6_readWord_b7 f (kh_ σ R S K F X Y) R (nI a) k) (e - a) (fun _ _ => True) (fun q => q = ((), kh_ σ R S K F' X' Y)) (fun f i u hi _ => by
      refine ⟨(), ?_, trivial⟩
      show f_X6_readWord_b7 (f + 1) _ _ _ _ = _
      rw [f_X6_readWord_b7, if_neg (show ¬ (400 : Int32) ≤ nI i from nI_ge (b := 400) (by omega) (by decide)), gt_t (k8 hS), nI_add, k_byte hS hb e8 (by omega), bd_s, k_let _ (bt9_ok hb _), bd_s, bi_t (E4 (a + i) (by omega) (by omega)), if_neg (show ¬ (1 : Int32) = 0 by decide), lt_e, nI_1])
    (fun f u _ => by
      refine ⟨((), kh_ σ R S K F' X' Y), ?_, rfl⟩
      show f_X6_readWord_b7 (f + 1) _ _ _ _ = _
      rw [f_X6_readWord_b7]
      by_cases z : (400 : Int32) ≤ nI (e - a)
      · rw [if_pos z]; exact lq
      · rw [if_neg z, gt_t (k8 hS), nI_add, k_byte hS hb e8 (by omega), show a + (e - a) = e by omega, bd_s, k_let _ (bt9_ok hb _), bd_s, bi_f (by rw [E3]; decide), if_pos rfl]
        exact lq) (by omega) () trivial
  subst q2
  exact ⟨F', X', q1, lo⟩
/-- A NUMBER IS READ -/
theorem k_readWhole (hS : hS_ σ R T S K) (hb : bt9_ w n (ai_ σ T)) (h : PR_ r n m a L F X Y) (hL : L + 1 < 1024) (ha : a < n) (hl : tL (w a) = false) (hw : tD (w a) = true) : ∃ F' X', f_X6_readWhole (kh_ σ R S K F X Y) R = some ((), kh_ σ R S K F' X' Y) ∧ ou9_ r n (tr9_ r m (tkp_ w a)) (tkp_ w a).2.2.2 (L + 2) F' X' Y := by
  have hn := hb.2.2
  have e8 : F 708 = nI n := h.1.2.2.2.1
  have e9 : F 709 = nI a := h.1.2.2.2.2
  have w9 : w a ≠ 999 := fun q => by rw [q] at hw; cases hw
  have E1 := en9_ge tD w 500 a
  have E2 := en9_le (q := tD) rfl hb.2.1 (f := 500) (a := a) (by omega)
  have E3 := en9_end (q := tD) rfl hb.2.1 (f := 500) (a := a) (by omega)
  have E4 : ∀ i, a ≤ i → i < en9_ tD w 500 a → tD (w i) = true := fun i h1 h2 => en9_in h1 h2
  unfold tkp_
  rw [if_neg w9, if_neg (show ¬ tL (w a) = true by rw [hl]; decide), if_pos hw]
  obtain ⟨e, he⟩ : ∃ e, e = en9_ tD w 500 a := ⟨_, rfl⟩
  rw [← he] at E1 E2 E3 E4 ⊢
  have nvb : ∀ k, k ≤ e - a → nv9_ w a k ≤ 9999 := fun k hk => by
    have q := nv9_lt (w := w) (p := a) (n := k) (fun i h1 h2 => E4 i h1 (by omega))
    have q2 : 10 ^ min k 4 ≤ 10 ^ 4 := Nat.pow_le_pow_right (by decide) (Nat.min_le_right _ _)
    omega
  have last : ∃ F' X', f_X6_readWhole_b60 (kh_ σ R S K F X Y) R (nI a) (nI (e - a)) (nI (nv9_ w a (e - a))) = some ((), kh_ σ R S K F' X' Y) ∧ ou9_ r n (tr9_ r m ((if e - a < 5 then 2 else 0), nv9_ w a (e - a), a, e)) e (L + 2) F' X' Y := by
    unfold f_X6_readWhole_b60
    have h1 := PR_at h e
    have fl : ∀ x : FT ⊕ MM, x = .inl (1, a) → ∃ F' X', f_X6_readWhole_b79 (kh_ σ R S K (upd F 709 (nI e)) X Y) R (nI a) = some ((), kh_ σ R S K F' X' Y) ∧ ou9_ r n x e (L + 2) F' X' Y := fun x hx => by
      subst hx
      unfold f_X6_readWhole_b79 f_X6_readWhole_b95
      obtain ⟨F2, q1, q2⟩ := k_failP (F := upd F 709 (nI e)) (X := X) (Y := Y) hS (p1 := 1) (p2 := nI a) (f := 1) (p := a) rfl rfl (by decide)
      rw [gt_t (k8 hS), q1, bd_s]
      exact ⟨_, _, rfl, q2 _ _ _ _⟩
    rw [gt_t (k8 hS), nI_add, show a + (e - a) = e by omega, lt_e, kh_si]
    by_cases z5 : e - a < 5
    · rw [if_neg (show ¬ (4 : Int32) < nI (e - a) from nI_nlt (a := 4) (by omega) (by decide)), if_pos z5, k_mayCome hS h1, bd_s]
      have tr : tr9_ r m (2, nv9_ w a (e - a), a, e) = if mtc_ (ms_ m) = true then mtt_ m 1 (nv9_ w a (e - a)) a else .inl (1, a) := rfl
      rw [tr]
      by_cases zt : mtc_ (ms_ m) = true
      · rw [bi_t zt, if_neg (show ¬ (1 : Int32) = 0 by decide), if_pos zt]
        obtain ⟨F3, X3, q3, h3⟩ := k_term hS h1 (by omega) (p1 := 1) (p2 := nI (nv9_ w a (e - a))) (p3 := nI a) (s := 1) (d := nv9_ w a (e - a)) (pl := a) rfl rfl rfl (sk9_o (by decide) (nvb _ (Nat.le_refl _)) (by decide))
        unfold f_X6_readWhole_b95
        rw [q3, bd_s]
        exact ⟨_, _, rfl, ou9_L h3 (by omega)⟩
      · rw [bi_f zt, if_pos rfl]
        exact fl _ (if_neg zt)
    · rw [if_pos (show (4 : Int32) < nI (e - a) from nI_lt (a := 4) (by omega) (by omega)), if_neg z5]
      exact fl _ rfl
  unfold f_X6_readWhole
  rw [gt_t (k8 hS), lt_e, kh_fi, e9]
  obtain ⟨F', X', lq, lo⟩ := last
  obtain ⟨q, q1, q2⟩ := lpe_ (F := fun f (v : Int32) k => f_X6_readWhole_b9 f (kh_ σ R S K F X Y) R (nI a) k v) (e - a) (fun i v => v = nI (nv9_ w a i)) (fun q => q = ((), kh_ σ R S K F' X' Y)) (fun f i v hi hv => by
      subst hv
      have dg := E4 (a + i) (by omega) (by omega)
      have hd : 48 ≤ w (a + i) ∧ w (a + i) ≤ 57 := by simpa [tD] using dg
      refine ⟨_, ?_, rfl⟩
      show f_X6_readWhole_b9 (f + 1) _ _ _ _ _ = _
      rw [f_X6_readWhole_b9, if_neg (show ¬ (400 : Int32) ≤ nI i from nI_ge (b := 400) (by omega) (by decide)), gt_t (k8 hS), nI_add, k_byte hS hb e8 (by omega), bd_s, k_dig _ (bt9_ok hb _), bd_s, bi_t dg, if_neg (show ¬ (1 : Int32) = 0 by decide)]
      by_cases z4 : i < 4
      · rw [if_neg (show ¬ (4 : Int32) ≤ nI i from nI_ge (b := 4) z4 (by decide)), k_byte hS hb e8 (by omega), bd_s]
        unfold f_X6_readWhole_b53
        rw [lt_e, nI_1, show sb9_ (w (a + i)) = nI (w (a + i)) from if_pos (by omega)]
        have e10 : nI (nv9_ w a i) * 10 + nI (w (a + i)) - 48 = nI (nv9_ w a (i + 1)) := by
          rw [show nI (nv9_ w a i) * 10 = nI (nv9_ w a i * 10) from pk_mul _ 10, nI_add, show nI (nv9_ w a i * 10 + w (a + i)) - 48 = nI (nv9_ w a i * 10 + w (a + i) - 48) from pk_sub (b := 48) (by omega)]
          congr 1
          show _ = if i < 4 then 10 * nv9_ w a i + (w (a + i) - 48) else nv9_ w a i
          rw [if_pos z4]
          omega
        rw [e10]
      · rw [if_pos (show (4 : Int32) ≤ nI i from nI_le (a := 4) (by omega) (by omega))]
        unfold f_X6_readWhole_b53
        rw [lt_e, nI_1, show nv9_ w a (i + 1) = nv9_ w a i from if_neg z4])
    (fun f v hv => by
      subst hv
      refine ⟨((), kh_ σ R S K F' X' Y), ?_, rfl⟩
      show f_X6_readWhole_b9 (f + 1) _ _ _ _ _ = _
      rw [f_X6_readWhole_b9]
      by_cases z : (400 : Int32) ≤ nI (e - a)
      · rw [if_pos z]; exact lq
      · rw [if_neg z, gt_t (k8 hS), nI_add, k_byte hS hb e8 (by omega), show a + (e - a) = e by omega, bd_s, k_dig _ (bt9_ok hb _), bd_s, bi_f (by rw [E3]; decide), if_pos rfl]
        exact lq) (by omega) 0 rfl
  subst q2
  exact ⟨F', X', q1, lo⟩
end WD9
