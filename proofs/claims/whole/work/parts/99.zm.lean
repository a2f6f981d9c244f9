/-! CALLS: tell. Written by wip/b/mk99zm.py. -/
/-- the day said most often, the earlier of two -/
def ud9_ (s : Int32 × Nat) (d : Int32) (c : Nat) : Int32 × Nat := if s.2 < c ∨ (c = s.2 ∧ d < s.1) then (d, c) else s
def cd9_ (A : AS) (N : Nat → Nat) (p : Nat) (d : Int32) : Nat := cn_ (fun q => decide (aV A 63 q = d) && sR_ A N p q) (N 59)
def dm9_ (A : AS) (N : Nat → Nat) (p : Nat) : Nat → Int32 × Nat
  | 0 => (-1, 0)
  | k + 1 => if sR_ A N p k = true then ud9_ (dm9_ A N p k) (aV A 63 k) (cd9_ A N p (aV A 63 k)) else dm9_ A N p k
def fd9_ (A : AS) (N : Nat → Nat) (p : Nat) (l : List Nat) : Int32 × Nat := l.foldl (fun s r => ud9_ s (aV A 63 r) (cd9_ A N p (aV A 63 r))) (-1, 0)
theorem fd9_eq {A : AS} {N : Nat → Nat} {p : Nat} : ∀ n, dm9_ A N p n = fd9_ A N p (fl9_ (sR_ A N p) n)
  | 0 => rfl
  | n + 1 => by
    have ih := fd9_eq (A := A) (N := N) (p := p) n
    show (if sR_ A N p n = true then ud9_ (dm9_ A N p n) (aV A 63 n) (cd9_ A N p (aV A 63 n)) else dm9_ A N p n) = fd9_ A N p (fl9_ (sR_ A N p) n ++ (if sR_ A N p n = true then [n] else []))
    unfold fd9_
    rw [List.foldl_append]
    by_cases z : sR_ A N p n = true
    · rw [if_pos z, if_pos z, ih]
      rfl
    · rw [if_neg z, if_neg z, ih]
      rfl
/-- a day that was said, or none -/
theorem dm9_day {A : AS} {N : Nat → Nat} {p : Nat} (hR : pvR A N) : ∀ n, n ≤ N 59 → (dm9_ A N p n = (-1, 0) ∧ cn_ (sR_ A N p) n = 0) ∨ ((∃ d, d ≤ td_ N ∧ (dm9_ A N p n).1 = nI d) ∧ 0 < (dm9_ A N p n).2 ∧ (dm9_ A N p n).2 ≤ N 59)
  | 0, _ => Or.inl ⟨rfl, rfl⟩
  | n + 1, hn => by
    have ih := dm9_day hR (p := p) n (by omega)
    have st := cn_s (sR_ A N p) n
    have e : dm9_ A N p (n + 1) = if sR_ A N p n = true then ud9_ (dm9_ A N p n) (aV A 63 n) (cd9_ A N p (aV A 63 n)) else dm9_ A N p n := rfl
    by_cases z : sR_ A N p n = true
    · rw [if_pos z] at e
      right
      have cpos : 0 < cd9_ A N p (aV A 63 n) := by
        have := cn_lt9 (q := fun q => decide (aV A 63 q = aV A 63 n) && sR_ A N p q) (k := n) (n := N 59) (by omega) (by simp [z])
        unfold cd9_
        omega
      have cle : cd9_ A N p (aV A 63 n) ≤ N 59 := cn_le _ _
      have dd := (hR n (by omega)).2.1
      rw [e]
      unfold ud9_
      by_cases w : (dm9_ A N p n).2 < cd9_ A N p (aV A 63 n) ∨ (cd9_ A N p (aV A 63 n) = (dm9_ A N p n).2 ∧ aV A 63 n < (dm9_ A N p n).1)
      · rw [if_pos w]
        exact ⟨dd, cpos, cle⟩
      · rw [if_neg w]
        rcases ih with ⟨i1, i2⟩ | i1
        · exfalso
          refine w (Or.inl ?_)
          rw [i1]
          exact cpos
        · exact i1
    · rw [if_neg z] at e st
      rw [e, st]
      exact ih
section DM9
variable {ka : Nat → Nat} {x : Nat} {TX : Nat → Nat → (Nat → Int32) → Nat → (Nat → Int32) → Prop} {σ : TH} {G : GH} {A : AS} {N : Nat → Nat}
theorem k_dayMost {a e p : Nat} (h : rc_ ka TX σ x G A N) (hR : pvR A N) (hr : N 59 ≤ 120) (hl : ls_ ka σ a e (fl9_ (sR_ A N p) (N 59)).length (fun i => ga_ G 41 ((fl9_ (sR_ A N p) (N 59)).getD i 0))) : f_X11_dayMostSaid σ (some a) = some ((dm9_ A N p (N 59)).1, σ) := by
  obtain ⟨l, hld⟩ : ∃ l, l = fl9_ (sR_ A N p) (N 59) := ⟨_, rfl⟩
  rw [← hld] at hl
  have lc : l.length ≤ 120 := by
    rw [hld, fl9_len]
    exact Nat.le_trans (cn_le _ _) hr
  have lr : ∀ i, i < l.length → l.getD i 0 < N 59 := fun i hi => by
    have : l.getD i 0 ∈ l := by
      have e : l.getD i 0 = l[i] := by simp [List.getD, hi]
      rw [e]; exact List.getElem_mem hi
    rw [hld] at this
    have q := (fl9_mem.mp this).1
    rw [← hld] at q
    exact q
  have tk : ∀ i, i < l.length → l.take (i + 1) = l.take i ++ [l.getD i 0] := fun i hi => by
    rw [List.take_succ]
    simp [List.getD, hi]
  have full : ∀ d : Int32, l.countP (fun r => decide (aV A 63 r = d)) = cd9_ A N p d := fun d => by
    rw [hld, fl9_cnt]
    rfl
  have cb : ∀ d : Int32, ∀ i, (l.take i).countP (fun r => decide (aV A 63 r = d)) ≤ 120 := fun d i => Nat.le_trans List.countP_le_length (by rw [List.length_take]; omega)
  have rep : ∀ i, i < l.length → kd_ σ (ga_ G 41 (l.getD i 0)) = 9 ∧ fi_ σ 802 (ga_ G 41 (l.getD i 0)) = aV A 63 (l.getD i 0) := fun i hi => ⟨(k_rep h (lr i hi)).1, (k_rep h (lr i hi)).2.1.2.2.1⟩
  have mb : ∀ i, (fd9_ A N p (l.take i)).2 ≤ N 59 := fun i => by
    have key : ∀ (L : List Nat) (s : Int32 × Nat), s.2 ≤ N 59 → (L.foldl (fun s r => ud9_ s (aV A 63 r) (cd9_ A N p (aV A 63 r))) s).2 ≤ N 59 := by
      intro L
      induction L with
      | nil => intro s hs; exact hs
      | cons r L ih =>
        intro s hs
        refine ih _ ?_
        show (ud9_ s (aV A 63 r) (cd9_ A N p (aV A 63 r))).2 ≤ N 59
        unfold ud9_
        split
        · exact cn_le _ _
        · exact hs
    exact key _ _ (Nat.zero_le _)
  -- the inner loop
  have inner : ∀ (rec_6 : TH → Option Nat → Int32 → Int32 → Int32 → Option (Int32 × TH)) (best most i : Int32) (d : Int32) , f_X11_dayMostSaid_b33 rec_6 fu_ σ (some a) best most i d 0 0 = (if most < nI (cd9_ A N p d) then (f_X11_dayMostSaid_b96 rec_6 σ (some a) i d (nI (cd9_ A N p d))) else (if nI (cd9_ A N p d) = most then (if best ≤ d then (f_X11_dayMostSaid_b102 rec_6 σ (some a) best most i) else (f_X11_dayMostSaid_b96 rec_6 σ (some a) i d (nI (cd9_ A N p d)))) else (f_X11_dayMostSaid_b102 rec_6 σ (some a) best most i))) := fun rec_6 best most i d => by
    refine lpk_ (F := fun f (s : Int32) k => f_X11_dayMostSaid_b33 rec_6 f σ (some a) best most i d s k) 0 l.length (Nat.zero_le _) (fun j => nI ((l.take j).countP (fun r => decide (aV A 63 r = d)))) (fun f j _ hj => ?_) (fun f => ?_) (by omega)
    · show f_X11_dayMostSaid_b33 rec_6 (f + 1) σ (some a) best most i d (nI ((l.take j).countP (fun r => decide (aV A 63 r = d)))) (nI j) = f_X11_dayMostSaid_b33 rec_6 f σ (some a) best most i d (nI ((l.take (j + 1)).countP (fun r => decide (aV A 63 r = d)))) (nI (j + 1))
      obtain ⟨r1, r2⟩ := rep j hj
      rw [f_X11_dayMostSaid_b33, nn_s, gt_t hl.1, l_size hl, bd_s, if_neg (nI_ge hj (by omega)), l_get hl hj, bd_s, gt_t (show Option.elim (some (ga_ G 41 (l.getD j 0))) 9 (kd_ σ) = 9 from r1), nn_s, gt_t r1, lt_e, r2, tk j hj, List.countP_append]
      unfold f_X11_dayMostSaid_b66
      by_cases z : aV A 63 (l.getD j 0) = d
      · have e1 : [l.getD j 0].countP (fun r => decide (aV A 63 r = d)) = 1 := by
          rw [List.countP_cons, decide_eq_true z]
          rfl
        rw [if_pos z, k_asN σ (Or.inr rfl), bd_s, lt_e, lt_e, nI_1, nI_1, e1]
      · have e0 : [l.getD j 0].countP (fun r => decide (aV A 63 r = d)) = 0 := by
          rw [List.countP_cons, decide_eq_false z]
          rfl
        rw [if_neg z, k_asN σ (Or.inl rfl), bd_s, lt_e, lt_e, nI_1, e0, show ∀ v : Int32, v + 0 = v from fun v => by simp]
        rfl
    · show f_X11_dayMostSaid_b33 rec_6 (f + 1) σ (some a) best most i d (nI ((l.take l.length).countP (fun r => decide (aV A 63 r = d)))) (nI l.length) = _
      rw [f_X11_dayMostSaid_b33, nn_s, gt_t hl.1, l_size hl, bd_s, if_pos (nI_le (Nat.le_refl _) (by omega)), List.take_length, full]
  unfold f_X11_dayMostSaid
  have eN : (dm9_ A N p (N 59)).1 = (fd9_ A N p (l.take l.length)).1 := by
    rw [fd9_eq, ← hld, List.take_length]
  rw [eN]
  refine lpk_ (F := fun f (s : Int32 × Int32) k => f_X11_dayMostSaid_b6 f σ (some a) s.1 s.2 k) 0 l.length (Nat.zero_le _) (fun i => ((fd9_ A N p (l.take i)).1, nI (fd9_ A N p (l.take i)).2)) (fun f i _ hi => ?_) (fun f => ?_) (by omega)
  · show f_X11_dayMostSaid_b6 (f + 1) σ (some a) (fd9_ A N p (l.take i)).1 (nI (fd9_ A N p (l.take i)).2) (nI i) = f_X11_dayMostSaid_b6 f σ (some a) (fd9_ A N p (l.take (i + 1))).1 (nI (fd9_ A N p (l.take (i + 1))).2) (nI (i + 1))
    obtain ⟨r1, r2⟩ := rep i hi
    have hm := mb i
    have hc : cd9_ A N p (aV A 63 (l.getD i 0)) ≤ N 59 := cn_le _ _
    have st : fd9_ A N p (l.take (i + 1)) = ud9_ (fd9_ A N p (l.take i)) (aV A 63 (l.getD i 0)) (cd9_ A N p (aV A 63 (l.getD i 0))) := by
      rw [tk i hi]
      unfold fd9_
      rw [List.foldl_append]
      rfl
    rw [f_X11_dayMostSaid_b6, nn_s, gt_t hl.1, l_size hl, bd_s, if_neg (nI_ge hi (by omega)), l_get hl hi, bd_s, gt_t (show Option.elim (some (ga_ G 41 (l.getD i 0))) 9 (kd_ σ) = 9 from r1), nn_s, gt_t r1, lt_e, r2, inner, st]
    unfold f_X11_dayMostSaid_b96 f_X11_dayMostSaid_b102 ud9_
    by_cases z1 : (fd9_ A N p (l.take i)).2 < cd9_ A N p (aV A 63 (l.getD i 0))
    · rw [if_pos (nI_lt z1 (by omega)), if_pos (Or.inl z1), lt_e, nI_1]
    · rw [if_neg (nI_nlt (by omega) (by omega))]
      by_cases z2 : cd9_ A N p (aV A 63 (l.getD i 0)) = (fd9_ A N p (l.take i)).2
      · rw [if_pos (by rw [z2])]
        by_cases z3 : aV A 63 (l.getD i 0) < (fd9_ A N p (l.take i)).1
        · rw [if_neg (Int32.not_le.mpr z3), if_pos (Or.inr ⟨z2, z3⟩), lt_e, nI_1]
        · rw [if_pos (Int32.not_lt.mp z3), if_neg (fun q => q.elim z1 (fun q => z3 q.2)), lt_e, nI_1]
      · rw [if_neg (fun q => z2 ((nI_eq (by omega) (by omega)).mp q)), if_neg (fun q => q.elim z1 (fun q => z2 q.1)), lt_e, nI_1]
  · show f_X11_dayMostSaid_b6 (f + 1) σ (some a) (fd9_ A N p (l.take l.length)).1 _ (nI l.length) = _
    rw [f_X11_dayMostSaid_b6, nn_s, gt_t hl.1, l_size hl, bd_s, if_pos (nI_le (Nat.le_refl _) (by omega))]
end DM9
section MT8
variable {σ : TH} {y : Nat} {G : GH} {A : AS} {N : Nat → Nat}
theorem m_tellL (h : mr_ σ y G A N) (hT : pvT A N) (hR : pvR A N) {p : Nat} (hp : p < 30) : f_X15_tell_b49 fu_ σ y (nI p) (-1) 0 0 = some ((dm9_ A N p (N 59)).1, tr_ (sa_ (sa_ σ (ga_ G 15 0) p 1) (ga_ G 12 0) p (dm9_ A N p (N 59)).1) y 0) := by
  have hy := mo_y h.1
  obtain ⟨e59, hN59⟩ := mo_n h.1 (j := 59) (cj := 1659) (m := 120) (by decide)
  obtain ⟨a63, b63, c63⟩ := mo_a h.1 (j := 63) (cj := 1663) (K := 20) (n := 120) (by decide)
  obtain ⟨a15, b15, c15⟩ := mo_a h.1 (j := 15) (cj := 1615) (K := 22) (n := 30) (by decide)
  obtain ⟨a12, b12, c12⟩ := mo_a h.1 (j := 12) (cj := 1612) (K := 20) (n := 30) (by decide)
  have v63 : ∀ i, ai_ σ (ga_ G 63 0) i = aV A 63 i := fun i => mr_V h (by decide) i
  have mbd : ∀ k, k ≤ N 59 → (dm9_ A N p k).2 ≤ N 59 := fun k hk => by
    rcases dm9_day hR (p := p) k hk with ⟨q, -⟩ | ⟨-, -, q⟩
    · rw [q]; exact Nat.zero_le _
    · exact q
  have inner : ∀ (rec_49 : TH → Nat → Int32 → Int32 → Int32 → Int32 → Option (Int32 × TH)) (best most : Int32) (k : Nat), k < N 59 → f_X15_tell_b77 rec_49 fu_ σ y (nI p) best most (nI k) 0 0 = (if nI (cd9_ A N p (aV A 63 k)) < most then (f_X15_tell_b166 rec_49 σ y (nI p) best most (nI k)) else (if nI (cd9_ A N p (aV A 63 k)) = most then (if aV A 63 k < best then (f_X15_tell_b155 rec_49 σ y (nI p) (nI k) (nI (cd9_ A N p (aV A 63 k)))) else (f_X15_tell_b166 rec_49 σ y (nI p) best most (nI k))) else (f_X15_tell_b155 rec_49 σ y (nI p) (nI k) (nI (cd9_ A N p (aV A 63 k)))))) := fun rec_49 best most k hk => by
    have i120 := ix9_ (k := k) (M := 120) (by omega) (by omega)
    refine lpk_ (F := fun f (s : Int32) j => f_X15_tell_b77 rec_49 f σ y (nI p) best most (nI k) s j) 0 (N 59) (Nat.zero_le _) (fun j => nI (cn_ (fun q => decide (aV A 63 q = aV A 63 k) && sR_ A N p q) j)) (fun f j _ hj => ?_) (fun f => ?_) (by omega)
    · show f_X15_tell_b77 rec_49 (f + 1) σ y (nI p) best most (nI k) (nI (cn_ (fun q => decide (aV A 63 q = aV A 63 k) && sR_ A N p q) j)) (nI j) = f_X15_tell_b77 rec_49 f σ y (nI p) best most (nI k) (nI (cn_ (fun q => decide (aV A 63 q = aV A 63 k) && sR_ A N p q) (j + 1))) (nI (j + 1))
      have ij := ix9_ (k := j) (M := 120) (by omega) (by omega)
      have sp := m_speaks h hT hR hj p
      rw [f_X15_tell_b77, gt_t hy, lt_e, e59, if_neg (nI_ge hj (by omega)), lt_e, a63, nn_s, gt_t b63, nI_clamp (by omega), c63, gt_t ij, lt_e, v63, lt_e, nn_s, gt_t b63, nI_clamp (by omega), c63, gt_t i120, lt_e, v63, cn_s]
      unfold f_X15_tell_b119 f_X15_tell_b120
      by_cases z : aV A 63 j = aV A 63 k
      · rw [if_pos z, sp, bd_s]
        by_cases z2 : sR_ A N p j = true
        · rw [bi_t z2, if_neg (by decide), lt_e, lt_e, nI_1, nI_1, if_pos (by simp [z, z2])]
        · rw [bi_f z2, if_pos rfl, lt_e, lt_e, nI_1, if_neg (by simp [z2]), show ∀ v : Int32, v + 0 = v from fun v => by simp]
          rfl
      · rw [if_neg z, lt_e, lt_e, nI_1, if_neg (by simp [z]), show ∀ v : Int32, v + 0 = v from fun v => by simp]
        rfl
    · show f_X15_tell_b77 rec_49 (f + 1) σ y (nI p) best most (nI k) (nI (cn_ (fun q => decide (aV A 63 q = aV A 63 k) && sR_ A N p q) (N 59))) (nI (N 59)) = _
      rw [f_X15_tell_b77, gt_t hy, lt_e, e59, if_pos (nI_le (Nat.le_refl _) (by omega)), lt_e, a63, nn_s, gt_t b63, nI_clamp (by omega), c63, gt_t i120, lt_e, v63]
      rfl
  refine lpk_ (F := fun f (s : Int32 × Int32) k => f_X15_tell_b49 f σ y (nI p) s.1 s.2 k) 0 (N 59) (Nat.zero_le _) (fun i => ((dm9_ A N p i).1, nI (dm9_ A N p i).2)) (fun f k _ hk => ?_) (fun f => ?_) (by omega)
  · show f_X15_tell_b49 (f + 1) σ y (nI p) (dm9_ A N p k).1 (nI (dm9_ A N p k).2) (nI k) = f_X15_tell_b49 f σ y (nI p) (dm9_ A N p (k + 1)).1 (nI (dm9_ A N p (k + 1)).2) (nI (k + 1))
    have sp := m_speaks h hT hR hk p
    have hm := mbd k (by omega)
    have hc : cd9_ A N p (aV A 63 k) ≤ N 59 := cn_le _ _
    have i120 := ix9_ (k := k) (M := 120) (by omega) (by omega)
    have e : dm9_ A N p (k + 1) = if sR_ A N p k = true then ud9_ (dm9_ A N p k) (aV A 63 k) (cd9_ A N p (aV A 63 k)) else dm9_ A N p k := rfl
    rw [f_X15_tell_b49, gt_t hy, lt_e, e59, if_neg (nI_ge hk (by omega)), sp, bd_s, e]
    by_cases z : sR_ A N p k = true
    · have b155 : ∀ rec_49 cc, f_X15_tell_b155 rec_49 σ y (nI p) (nI k) cc = f_X15_tell_b166 rec_49 σ y (nI p) (aV A 63 k) cc (nI k) := fun rec_49 cc => by
        unfold f_X15_tell_b155
        rw [gt_t hy, lt_e, a63, nn_s, gt_t b63, nI_clamp (by omega), c63, gt_t i120, lt_e, v63]
      rw [bi_t z, if_neg (by decide), if_pos z, inner _ _ _ k hk, b155]
      unfold f_X15_tell_b166 ud9_
      by_cases z1 : (dm9_ A N p k).2 < cd9_ A N p (aV A 63 k)
      · rw [if_neg (nI_nlt (by omega) (by omega)), if_neg (fun q => by have := (nI_eq (by omega) (by omega)).mp q; omega), if_pos (Or.inl z1), lt_e, nI_1]
      · by_cases z2 : cd9_ A N p (aV A 63 k) = (dm9_ A N p k).2
        · rw [if_neg (nI_nlt (by omega) (by omega)), if_pos (by rw [z2])]
          by_cases z3 : aV A 63 k < (dm9_ A N p k).1
          · rw [if_pos z3, if_pos (Or.inr ⟨z2, z3⟩), lt_e, nI_1]
          · rw [if_neg z3, if_neg (fun q => q.elim z1 (fun q => z3 q.2)), lt_e, nI_1]
        · rw [if_pos (nI_lt (by omega) (by omega)), if_neg (fun q => q.elim z1 (fun q => z2 q.1)), lt_e, nI_1]
    · rw [bi_f z, if_pos rfl, if_neg z]
      unfold f_X15_tell_b166
      rw [lt_e, nI_1]
  · show f_X15_tell_b49 (f + 1) σ y (nI p) (dm9_ A N p (N 59)).1 (nI (dm9_ A N p (N 59)).2) (nI (N 59)) = _
    have i30 := ix9_ (k := p) (M := 30) (by omega) (by omega)
    have vb : vp_nar .boolean (1 : Int32) = 1 := by decide
    have s1 : fr_ (sa_ σ (ga_ G 15 0) p 1) 1612 y = some (ga_ G 12 0) := a12
    have s2 : kd_ (sa_ σ (ga_ G 15 0) p 1) (ga_ G 12 0) = 20 := b12
    have s3 : ln_ (sa_ σ (ga_ G 15 0) p 1) (ga_ G 12 0) = 30 := c12
    rw [f_X15_tell_b49, gt_t hy, lt_e, e59, if_pos (nI_le (Nat.le_refl _) (by omega)), lt_e, a15, nn_s, gt_t b15, nI_clamp (by omega), c15, gt_t i30, vb, lt_e, lt_e, s1, nn_s, gt_t s2, s3, gt_t i30, lt_e, m_done (show kd_ (sa_ (sa_ σ (ga_ G 15 0) p 1) (ga_ G 12 0) p (dm9_ A N p (N 59)).1) y = 17 from hy), bd_s]
end MT8
