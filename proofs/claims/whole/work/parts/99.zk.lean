/-! PROOFS: the printer is filled with what is heard. Written by wip/b/mk99zk.py. -/
theorem fl9_cnt (q g : Nat → Bool) : ∀ n, (fl9_ q n).countP g = cn_ (fun r => g r && q r) n
  | 0 => rfl
  | n + 1 => by
    show (fl9_ q n ++ (if q n = true then [n] else [])).countP g = cn_ (fun r => g r && q r) n + (if (g n && q n) = true then 1 else 0)
    rw [List.countP_append, fl9_cnt q g n]
    by_cases z : q n = true
    · rw [if_pos z]
      by_cases z2 : g n = true
      · simp [z, z2]
      · simp [z, z2]
    · rw [if_neg z]
      simp [z]
theorem ff9_sn {q : Nat → Bool} : ∀ (m i : Nat), ff9_ q (m + 1) i = (match ff9_ q m i with
  | some k => some k
  | none => if q (i + m) = true then some (i + m) else none)
  | 0, i => by
    show (if q i = true then some i else none) = if q (i + 0) = true then some (i + 0) else none
    rfl
  | m + 1, i => by
    have ih := ff9_sn (q := q) m (i + 1)
    show (if q i = true then some i else ff9_ q (m + 1) (i + 1)) = match (if q i = true then some i else ff9_ q m (i + 1)) with
      | some k => some k
      | none => if q (i + (m + 1)) = true then some (i + (m + 1)) else none
    by_cases z : q i = true
    · rw [if_pos z, if_pos z]
    · rw [if_neg z, if_neg z, ih, show i + 1 + m = i + (m + 1) by omega]
theorem fl9_head (q : Nat → Bool) : ∀ n, (fl9_ q n).head? = ff9_ q n 0
  | 0 => rfl
  | n + 1 => by
    show (fl9_ q n ++ (if q n = true then [n] else [])).head? = _
    rw [ff9_sn, ← fl9_head q n]
    cases hl : fl9_ q n with
    | nil =>
      by_cases z : q n = true
      · simp [z]
      · simp [z]
    | cons a l => simp
theorem hR_eq {A : AS} {N : Nat → Nat} {p : Nat} : ∀ (m r : Nat), hR_ A N p m r = (match ff9_ (sR_ A N p) m r with
  | some q => (nI (N 6) - aV A 65 q) / 60
  | none => 0)
  | 0, r => rfl
  | m + 1, r => by
    have ih := hR_eq (A := A) (N := N) (p := p) m (r + 1)
    show (if sR_ A N p r = true then (nI (N 6) - aV A 65 r) / 60 else hR_ A N p m (r + 1)) = match (if sR_ A N p r = true then some r else ff9_ (sR_ A N p) m (r + 1)) with
      | some q => (nI (N 6) - aV A 65 q) / 60
      | none => 0
    by_cases z : sR_ A N p r = true
    · rw [if_pos z, if_pos z]
    · rw [if_neg z, if_neg z, ih]
/-- how many of the first i come from s -/
def cs9_ (A : AS) (l : List Nat) (i s : Nat) : Nat := (l.take i).countP (fun r => decide (aV A 64 r = nI s))
theorem cs9_s {A : AS} {l : List Nat} {i : Nat} (hi : i < l.length) (s : Nat) : cs9_ A l (i + 1) s = cs9_ A l i s + if aV A 64 (l.getD i 0) = nI s then 1 else 0 := by
  unfold cs9_
  have e : l.take (i + 1) = l.take i ++ [l.getD i 0] := by
    rw [List.take_succ]
    simp [List.getD, hi]
  rw [e, List.countP_append]
  by_cases z : aV A 64 (l.getD i 0) = nI s
  · simp [z]
  · simp [z]
theorem cn5 (q : Nat → Bool) : cn_ q 5 = (if q 0 = true then 1 else 0) + (if q 1 = true then 1 else 0) + (if q 2 = true then 1 else 0) + (if q 3 = true then 1 else 0) + (if q 4 = true then 1 else 0) := by
  simp [cn_]
section FI9
variable {ka : Nat → Nat} {TX : Nat → Nat → (Nat → Int32) → Nat → (Nat → Int32) → Prop} {x y o N0 : Nat}
variable {σ : TH} {G : GH} {A : AS} {N : Nat → Nat}
/-- zeros -/
theorem k_zero {F X Y : Nat → Int32} (h : rc_ ka TX σ x G A N) : f_J7_fill_53178 (kp_ σ G F X Y) (some (ga_ G 15 0)) 0 = some ((), kp_ σ G F X (fun i => if i < 21 then 0 else Y i)) := by
  have hP := k_hP h
  have r20 : ∀ {F Y}, kd_ (kp_ σ G F X Y) (ga_ G 15 0) = 20 := hP.2.2.1.1
  have r21 : ∀ {F Y}, ln_ (kp_ σ G F X Y) (ga_ G 15 0) = 21 := hP.2.2.1.2
  unfold f_J7_fill_53178
  rw [nn_s, gt_t r20, lt_e, r21]
  refine lpk_ (F := fun f (s : Nat → Int32) k => f_J7_fill_53178_b5 f (kp_ σ G F X s) (some (ga_ G 15 0)) 0 k (Int32.ofNat 21)) 0 21 (by decide) (fun k i => if i < k then 0 else Y i) (fun f i _ hi => ?_) (fun f => ?_) (by decide)
  · show f_J7_fill_53178_b5 (f + 1) (kp_ σ G F X (fun j => if j < i then 0 else Y j)) (some (ga_ G 15 0)) 0 (nI i) (Int32.ofNat 21) = f_J7_fill_53178_b5 f (kp_ σ G F X (fun j => if j < i + 1 then 0 else Y j)) (some (ga_ G 15 0)) 0 (nI (i + 1)) (Int32.ofNat 21)
    have sk : sa_ (kp_ σ G F X (fun j => if j < i then 0 else Y j)) (ga_ G 15 0) i 0 = kp_ σ G F X (fun j => if j < i + 1 then 0 else Y j) := by
      refine (kh_sK (hP_ne hP) i 0).trans ?_
      have e : upd (fun j => if j < i then (0 : Int32) else Y j) i 0 = fun j => if j < i + 1 then 0 else Y j := by
        funext j
        unfold upd
        by_cases z : j = i
        · simp [z]
        · by_cases z2 : j < i
          · simp [z, z2, Nat.lt_succ_of_lt z2]
          · simp [z, z2, show ¬ j < i + 1 by omega]
      rw [e]
      rfl
    rw [f_J7_fill_53178_b5, if_neg (show ¬ Int32.ofNat 21 ≤ nI i from nI_ge (b := 21) hi (by decide)), nn_s, gt_t r20, nI_clamp (by omega), r21, gt_t (ix9_ (k := i) (M := 21) (by omega) (by omega)), lt_e, sk, lt_e, nI_1]
  · show f_J7_fill_53178_b5 (f + 1) (kp_ σ G F X (fun j => if j < 21 then 0 else Y j)) (some (ga_ G 15 0)) 0 (nI 21) (Int32.ofNat 21) = _
    rw [f_J7_fill_53178_b5, if_pos (show Int32.ofNat 21 ≤ nI 21 from nI_le (a := 21) (Nat.le_refl _) (by decide))]
/-- one proof -/
theorem k_fp1 {F X Y : Nat → Int32} {a e : Nat} {l : List Nat} (h : rc_ ka TX σ x G A N) (hX : ∀ j, j < N 42 → X j = aV A 28 j) (hl : ls_ ka σ a e l.length (fun i => ga_ G 41 (l.getD i 0))) (hna : a ≠ ga_ G 14 0 ∧ e ≠ ga_ G 15 0 ∧ e ≠ ga_ G 16 0) {i s : Nat} (hi : i < l.length) (hr : l.getD i 0 < N 59) (hs : s < 5) (es : aV A 64 (l.getD i 0) = nI s) (first : Int32) (f : Nat) : f_X11_fillProofs_b48 (f + 1) (kp_ σ G F X Y) x (some a) first (nI i) = f_X11_fillProofs_b48 f (kp_ σ G F X (upd (if Y (14 + s) = 0 then upd Y 19 (Y 19 + 1) else Y) (14 + s) (Y (14 + s) + 1))) x (some a) (if aV A 65 (l.getD i 0) < first then aV A 65 (l.getD i 0) else first) (nI (i + 1)) := by
  have hP := k_hP h
  have hrc : ∀ {F Y}, rc_ ka TX (kp_ σ G F X Y) x G A N := rc_kp h hX
  have hx : ∀ {F Y}, kd_ (kp_ σ G F X Y) x = 13 := rc_x hrc
  have r9 : ∀ {F Y}, fr_ (kp_ σ G F X Y) 1209 x = some (ga_ G 14 0) := (rc_r1209 hrc).1
  have r6 : ∀ {F Y}, kd_ (kp_ σ G F X Y) (ga_ G 14 0) = 6 := (rc_r1209 hrc).2
  have r5 : ∀ {F Y}, fr_ (kp_ σ G F X Y) 500 (ga_ G 14 0) = some (ga_ G 15 0) := hP.2.1.1
  have r20 : ∀ {F Y}, kd_ (kp_ σ G F X Y) (ga_ G 15 0) = 20 := hP.2.2.1.1
  have r21 : ∀ {F Y}, ln_ (kp_ σ G F X Y) (ga_ G 15 0) = 21 := hP.2.2.1.2
  have aK : ∀ {F Y} (j : Nat), ai_ (kp_ σ G F X Y) (ga_ G 15 0) j = Y j := fun j => kh_K (hP_ne hP) j
  have sk : ∀ {F Y} (k : Nat) (v : Int32), sa_ (kp_ σ G F X Y) (ga_ G 15 0) k v = kp_ σ G F X (upd Y k v) := fun k v => kh_sK (hP_ne hP) k v
  have hlk : ls_ ka (kp_ σ G F X Y) a e l.length (fun i => ga_ G 41 (l.getD i 0)) := by
    obtain ⟨b1, b2, b3, b4, b5, b6⟩ := hl
    exact ⟨b1, (if_neg hna.1).trans b2, b3, b4, b5, b6⟩
  have kr : ∀ {F Y}, kd_ (kp_ σ G F X Y) (ga_ G 41 (l.getD i 0)) = 9 := (k_rep hrc hr).1
  have f3 : ∀ {F Y}, fi_ (kp_ σ G F X Y) 803 (ga_ G 41 (l.getD i 0)) = nI s := (k_rep hrc hr).2.1.2.2.2.1.trans es
  have f4 : ∀ {F Y}, fi_ (kp_ σ G F X Y) 804 (ga_ G 41 (l.getD i 0)) = aV A 65 (l.getD i 0) := (k_rep hrc hr).2.1.2.2.2.2.1
  have e14 : (14 : Int32) + nI s = nI (14 + s) := nI_add 14 s
  have c14 : (nI (14 + s)).toNatClampNeg = 14 + s := nI_clamp (by omega)
  have ix := ix9_ (k := 14 + s) (M := 21) (by omega) (by omega)
  have c19 : ((19 : Int32).toNatClampNeg) = 19 := by decide
  have b105 : ∀ Y', f_X11_fillProofs_b105 (f_X11_fillProofs_b48 f) (kp_ σ G F X Y') x (some a) first (nI i) (some (ga_ G 41 (l.getD i 0))) (nI (14 + s)) = f_X11_fillProofs_b48 f (kp_ σ G F X (upd Y' (14 + s) (Y' (14 + s) + 1))) x (some a) (if aV A 65 (l.getD i 0) < first then aV A 65 (l.getD i 0) else first) (nI (i + 1)) := fun Y' => by
    unfold f_X11_fillProofs_b105
    rw [gt_t hx, lt_e, r9, nn_s, gt_t r6, lt_e, r5, nn_s, gt_t r20, c14, r21, gt_t ix, lt_e, aK, gt_t ix, lt_e, sk, nn_s, gt_t kr, lt_e, f4, lt_e, lt_e, nI_1]
  rw [f_X11_fillProofs_b48, nn_s, gt_t hlk.1, l_size hlk, bd_s, if_neg (nI_ge hi (by have := hlk.2.2.2.1; omega)), l_get hlk hi, bd_s, gt_t (show Option.elim (some (ga_ G 41 (l.getD i 0))) 9 (kd_ (kp_ σ G F X Y)) = 9 from kr), nn_s, gt_t kr, lt_e, f3, lt_e, e14, gt_t hx, lt_e, r9, nn_s, gt_t r6, lt_e, r5, nn_s, gt_t r20, c14, r21, gt_t ix, lt_e, aK]
  by_cases z : Y (14 + s) = 0
  · have e19 : upd Y 19 (Y 19 + 1) (14 + s) = Y (14 + s) := if_neg (by omega)
    rw [if_pos z, if_pos z, lt_e, nn_s, gt_t r6, lt_e, r5, nn_s, gt_t r20, c19, r21, gt_t (by decide), lt_e, aK, gt_t (by decide), lt_e, sk, b105, e19]
  · rw [if_neg z, if_neg z, b105]
/-- THE PRINTER IS FILLED with what is heard -/
theorem k_fillP {a e : Nat} {p : Nat} (h : rc_ ka TX σ x G A N) (hk : kf_ σ x G A N p) (hR : pvR A N) (hr : N 59 ≤ 120) (hl : ls_ ka σ a e (fl9_ (sR_ A N p) (N 59)).length (fun i => ga_ G 41 ((fl9_ (sR_ A N p) (N 59)).getD i 0))) (hna : a ≠ ga_ G 14 0 ∧ e ≠ ga_ G 15 0 ∧ e ≠ ga_ G 16 0) (h0 : 0 < (fl9_ (sR_ A N p) (N 59)).length) : ∃ F' Y', f_X11_fillProofs σ x (some (ga_ G 31 p)) (some a) = some ((), kp_ σ G F' (ai_ σ (ga_ G 16 0)) Y') ∧ KN_ (ER_ A N p) true F' Y' := by
  obtain ⟨hp, hN, hT, hH, hb, hm, h15⟩ := id hk
  have hX := rc_o28 h
  have hP := k_hP h
  have hrc : ∀ {F Y}, rc_ ka TX (kp_ σ G F (ai_ σ (ga_ G 16 0)) Y) x G A N := rc_kp h hX
  have hself : kp_ σ G (fun c => fi_ σ c (ga_ G 14 0)) (ai_ σ (ga_ G 16 0)) (ai_ σ (ga_ G 15 0)) = σ := kh_self
  have hx : ∀ {F Y}, kd_ (kp_ σ G F (ai_ σ (ga_ G 16 0)) Y) x = 13 := rc_x hrc
  have r9 : ∀ {F Y}, fr_ (kp_ σ G F (ai_ σ (ga_ G 16 0)) Y) 1209 x = some (ga_ G 14 0) := (rc_r1209 hrc).1
  have r6 : ∀ {F Y}, kd_ (kp_ σ G F (ai_ σ (ga_ G 16 0)) Y) (ga_ G 14 0) = 6 := (rc_r1209 hrc).2
  have r5 : ∀ {F Y}, fr_ (kp_ σ G F (ai_ σ (ga_ G 16 0)) Y) 500 (ga_ G 14 0) = some (ga_ G 15 0) := hP.2.1.1
  have r20 : ∀ {F Y}, kd_ (kp_ σ G F (ai_ σ (ga_ G 16 0)) Y) (ga_ G 15 0) = 20 := hP.2.2.1.1
  have r21 : ∀ {F Y}, ln_ (kp_ σ G F (ai_ σ (ga_ G 16 0)) Y) (ga_ G 15 0) = 21 := hP.2.2.1.2
  have sk : ∀ {F Y} (k : Nat) (v : Int32), sa_ (kp_ σ G F (ai_ σ (ga_ G 16 0)) Y) (ga_ G 15 0) k v = kp_ σ G F (ai_ σ (ga_ G 16 0)) (upd Y k v) := fun k v => kh_sK (hP_ne hP) k v
  have pk : ∀ {F Y}, kd_ (kp_ σ G F (ai_ σ (ga_ G 16 0)) Y) (ga_ G 31 p) = 4 := (k_per hrc hp).1
  have p3 : ∀ {F Y}, fi_ (kp_ σ G F (ai_ σ (ga_ G 16 0)) Y) 303 (ga_ G 31 p) = aV A 10 p := (k_per hrc hp).2.2.1
  have f13 : ∀ {F Y}, fi_ (kp_ σ G F (ai_ σ (ga_ G 16 0)) Y) 1213 x = nI (N 6) := fun {F Y} => (rc_f0 (hrc (F := F) (Y := Y))).2.2.2.1.trans hm
  have c10 : ((10 : Int32).toNatClampNeg) = 10 := by decide
  have c13 : ((13 : Int32).toNatClampNeg) = 13 := by decide
  have c20 : ((20 : Int32).toNatClampNeg) = 20 := by decide
  obtain ⟨l, hld⟩ : ∃ l, l = fl9_ (sR_ A N p) (N 59) := ⟨_, rfl⟩
  rw [← hld] at hl h0
  have lr : ∀ i, i < l.length → l.getD i 0 < N 59 ∧ sR_ A N p (l.getD i 0) = true := fun i hi => by
    have : l.getD i 0 ∈ l := by
      have e : l.getD i 0 = l[i] := by simp [List.getD, hi]
      rw [e]; exact List.getElem_mem hi
    rw [hld] at this
    have q := fl9_mem.mp this
    rw [← hld] at q
    exact q
  -- the first is the earliest
  have hff : ff9_ (sR_ A N p) (N 59) 0 = some (l.getD 0 0) := by
    rw [← fl9_head, ← hld]
    cases l with
    | nil => cases h0
    | cons b l => rfl
  have hmin : ∀ i, i < l.length → l.getD 0 0 ≤ l.getD i 0 := fun i hi => by
    rcases Nat.lt_or_ge (l.getD i 0) (l.getD 0 0) with z | z
    · exfalso
      have key : ∀ (m i k j : Nat), ff9_ (sR_ A N p) m i = some k → i ≤ j → j < k → sR_ A N p j = false := by
        intro m
        induction m with
        | zero => intro i k j h; cases h
        | succ m ih =>
          intro i k j h h1 h2
          unfold ff9_ at h
          by_cases e : sR_ A N p i = true
          · rw [if_pos e] at h
            cases h
            omega
          · rw [if_neg e] at h
            by_cases e2 : j = i
            · subst e2; simpa using e
            · exact ih (i + 1) k j h (by omega) h2
      have := key _ _ _ (l.getD i 0) hff (Nat.zero_le _) z
      rw [(lr i hi).2] at this
      cases this
    · exact z
  have now : ∀ i, i < l.length → ∃ t, t ≤ N 6 ∧ aV A 65 (l.getD i 0) = nI t := fun i hi => (hR _ (lr i hi).1).2.2.2.1
  have told : ∀ i, i < l.length → aV A 65 (l.getD 0 0) ≤ aV A 65 (l.getD i 0) := fun i hi => (hR _ (lr i hi).1).2.2.2.2.1 _ (hmin i hi)
  have lc : l.length ≤ 120 := by
    rw [hld, fl9_len]
    exact Nat.le_trans (cn_le _ _) hr
  obtain ⟨Y0, hY0⟩ : ∃ Y0 : Nat → Int32, Y0 = upd (upd (fun i => if i < 21 then 0 else ai_ σ (ga_ G 15 0) i) 10 (ag_ A N p)) 13 (aV A 10 p) := ⟨_, rfl⟩
  have lp : ∃ q, f_X11_fillProofs_b48 fu_ (kp_ σ G (fun c => fi_ σ c (ga_ G 14 0)) (ai_ σ (ga_ G 16 0)) Y0) x (some a) (nI (N 6)) (nI 0) = some q ∧ ∃ F' Y', q = ((), kp_ σ G F' (ai_ σ (ga_ G 16 0)) Y') ∧ KN_ (ER_ A N p) true F' Y' := by
    refine lpe_ (F := fun f (s : (Nat → Int32) × Int32) k => f_X11_fillProofs_b48 f (kp_ σ G (fun c => fi_ σ c (ga_ G 14 0)) (ai_ σ (ga_ G 16 0)) s.1) x (some a) s.2 k) l.length (fun i s => (∀ q, q < 5 → s.1 (14 + q) = nI (cs9_ A l i q)) ∧ s.1 19 = nI (cn_ (fun q => decide (0 < cs9_ A l i q)) 5) ∧ s.1 10 = ag_ A N p ∧ s.1 13 = aV A 10 p ∧ s.2 = (if i = 0 then nI (N 6) else aV A 65 (l.getD 0 0))) _ (fun f i s hi hI => ?_) (fun f s hI => ?_) (by omega) (Y0, nI (N 6)) ⟨fun q hq => ?_, ?_, ?_, ?_, rfl⟩
    · obtain ⟨i1, i2, i3, i4, i5⟩ := hI
      obtain ⟨l1, l2⟩ := lr i hi
      obtain ⟨s0, hs0, es0⟩ := (hR _ l1).2.2.1
      obtain ⟨t, ht, et⟩ := now i hi
      refine ⟨(upd (if s.1 (14 + s0) = 0 then upd s.1 19 (s.1 19 + 1) else s.1) (14 + s0) (s.1 (14 + s0) + 1), if aV A 65 (l.getD i 0) < s.2 then aV A 65 (l.getD i 0) else s.2), k_fp1 h hX hl hna hi l1 hs0 es0 s.2 f, fun q hq => ?_, ?_, ?_, ?_, ?_⟩
      · show upd (if s.1 (14 + s0) = 0 then upd s.1 19 (s.1 19 + 1) else s.1) (14 + s0) (s.1 (14 + s0) + 1) (14 + q) = _
        rw [cs9_s hi, es0]
        by_cases z : q = s0
        · subst z
          rw [if_pos rfl, ← nI_1, ← i1 q hq]
          exact if_pos rfl
        · rw [if_neg (fun y => z ((nI_eq (by omega) (by omega)).mp y).symm), Nat.add_zero, ← i1 q hq]
          refine (if_neg (by omega)).trans ?_
          by_cases z2 : s.1 (14 + s0) = 0
          · rw [if_pos z2]; exact if_neg (by omega)
          · rw [if_neg z2]
      · show upd (if s.1 (14 + s0) = 0 then upd s.1 19 (s.1 19 + 1) else s.1) (14 + s0) (s.1 (14 + s0) + 1) 19 = _
        refine (if_neg (by omega)).trans ?_
        have bnd : ∀ q, cs9_ A l i q ≤ 120 := fun q => by
          unfold cs9_
          exact Nat.le_trans List.countP_le_length (by rw [List.length_take]; omega)
        have zz : s.1 (14 + s0) = 0 ↔ cs9_ A l i s0 = 0 := by
          rw [i1 s0 hs0]
          exact iq9_ (b := 0) (B := 0) rfl (by have := bnd s0; omega) (by decide)
        have cst : cn_ (fun q => decide (0 < cs9_ A l (i + 1) q)) 5 = cn_ (fun q => decide (0 < cs9_ A l i q)) 5 + if cs9_ A l i s0 = 0 then 1 else 0 := by
          have e : ∀ q, q < 5 → cs9_ A l (i + 1) q = cs9_ A l i q + if q = s0 then 1 else 0 := fun q hq => by
            rw [cs9_s hi, es0]
            by_cases z : q = s0
            · rw [if_pos z, if_pos (by rw [z])]
            · rw [if_neg z, if_neg (fun y => z ((nI_eq (by omega) (by omega)).mp y).symm)]
          rw [cn5, cn5, e 0 (by decide), e 1 (by decide), e 2 (by decide), e 3 (by decide), e 4 (by decide)]
          simp only [decide_eq_true_eq]
          rcases (by omega : s0 = 0 ∨ s0 = 1 ∨ s0 = 2 ∨ s0 = 3 ∨ s0 = 4) with rfl | rfl | rfl | rfl | rfl
          all_goals simp only [Nat.reduceEqDiff, if_true, if_false, Nat.add_zero]
          all_goals (repeat' split)
          all_goals omega
        by_cases z : s.1 (14 + s0) = 0
        · rw [if_pos z, cst, if_pos (zz.mp z), ← nI_1, ← i2]
          exact if_pos rfl
        · rw [if_neg z, cst, if_neg (fun y => z (zz.mpr y)), Nat.add_zero]
          exact i2
      · show upd (if s.1 (14 + s0) = 0 then upd s.1 19 (s.1 19 + 1) else s.1) (14 + s0) (s.1 (14 + s0) + 1) 10 = _
        refine (if_neg (by omega)).trans ?_
        by_cases z : s.1 (14 + s0) = 0
        · rw [if_pos z]; exact i3
        · rw [if_neg z]; exact i3
      · show upd (if s.1 (14 + s0) = 0 then upd s.1 19 (s.1 19 + 1) else s.1) (14 + s0) (s.1 (14 + s0) + 1) 13 = _
        refine (if_neg (by omega)).trans ?_
        by_cases z : s.1 (14 + s0) = 0
        · rw [if_pos z]; exact i4
        · rw [if_neg z]; exact i4
      · show (if aV A 65 (l.getD i 0) < s.2 then aV A 65 (l.getD i 0) else s.2) = if i + 1 = 0 then nI (N 6) else aV A 65 (l.getD 0 0)
        rw [if_neg (show ¬ i + 1 = 0 by omega), i5]
        by_cases zi : i = 0
        · subst zi
          rw [if_pos rfl, et]
          by_cases z : nI t < nI (N 6)
          · rw [if_pos z]
          · rw [if_neg z]
            have : ¬ t < N 6 := fun y => z (nI_lt y (by omega))
            congr 1
            omega
        · rw [if_neg zi, if_neg (Int32.not_lt.mpr (told i hi))]
    · obtain ⟨i1, i2, i3, i4, i5⟩ := hI
      have hlk : ls_ ka (kp_ σ G (fun c => fi_ σ c (ga_ G 14 0)) (ai_ σ (ga_ G 16 0)) s.1) a e l.length (fun i => ga_ G 41 (l.getD i 0)) := by
        obtain ⟨b1, b2, b3, b4, b5, b6⟩ := hl
        exact ⟨b1, (if_neg hna.1).trans b2, b3, b4, b5, b6⟩
      refine ⟨((), kp_ σ G (fun c => fi_ σ c (ga_ G 14 0)) (ai_ σ (ga_ G 16 0)) (upd s.1 20 ((nI (N 6) - s.2) / 60))), ?_, _, _, rfl, fun c hc => ?_, fun y => by cases y⟩
      · show f_X11_fillProofs_b48 (f + 1) (kp_ σ G (fun c => fi_ σ c (ga_ G 14 0)) (ai_ σ (ga_ G 16 0)) s.1) x (some a) s.2 (nI l.length) = _
        rw [f_X11_fillProofs_b48, nn_s, gt_t hlk.1, l_size hlk, bd_s, if_pos (nI_le (Nat.le_refl _) (by omega)), gt_t hx, lt_e, r9, nn_s, gt_t r6, lt_e, r5, lt_e, f13, gt_t (by decide), nn_s, gt_t r20, c20, r21, gt_t (by decide), lt_e, sk]
      · have hc : c = 10 ∨ (13 ≤ c ∧ c ≤ 20) := by simpa [nm9_] using hc
        rw [if_neg (show ¬ l.length = 0 by omega)] at i5
        have full : ∀ q, cs9_ A l l.length q = bR_ A N p q := fun q => by
          unfold cs9_ bR_
          rw [List.take_length, hld, fl9_cnt]
        show upd s.1 20 ((nI (N 6) - s.2) / 60) c = (ER_ A N p).1 c
        rcases hc with rfl | ⟨h1, h2⟩
        · exact i3.trans (aR_eq hH hp hb h15).symm
        · rcases (by omega : c = 13 ∨ (14 ≤ c ∧ c ≤ 18) ∨ c = 19 ∨ c = 20) with rfl | ⟨h3, h4⟩ | rfl | rfl
          · exact i4
          · have e1 : (ER_ A N p).1 c = nI (bR_ A N p (c - 14)) := by
              show (if c < 10 then _ else if c = 10 then _ else if c = 11 then _ else if c = 12 then _ else if c = 13 then _ else if c = 19 then _ else if c = 20 then _ else nI (bR_ A N p (c - 14))) = _
              rw [if_neg (by omega), if_neg (by omega), if_neg (by omega), if_neg (by omega), if_neg (by omega), if_neg (by omega), if_neg (by omega)]
            have q := i1 (c - 14) (by omega)
            rw [show 14 + (c - 14) = c by omega, full] at q
            rw [e1, ← q]
            exact if_neg (by omega)
          · have q : s.1 19 = nI (nR_ A N p) := by
              rw [i2]
              unfold nR_
              congr 1
              exact cn_cong 5 (fun q _ => by rw [full])
            exact q
          · show (nI (N 6) - s.2) / 60 = hR_ A N p (N 59) 0
            rw [hR_eq, hff, i5]
    · show Y0 (14 + q) = nI (cs9_ A l 0 q)
      rw [hY0]
      refine (if_neg (by omega)).trans ((if_neg (by omega)).trans ((if_pos (by omega)).trans ?_))
      rfl
    · show Y0 19 = _
      rw [hY0]
      have e : ∀ q, cs9_ A l 0 q = 0 := fun _ => rfl
      rw [cn5, e, e, e, e, e]
      rfl
    · show Y0 10 = _
      rw [hY0]; rfl
    · show Y0 13 = _
      rw [hY0]; rfl
  obtain ⟨q, q1, F', Y', rfl, hK⟩ := lp
  refine ⟨F', Y', ?_, hK⟩
  refine Eq.trans ?_ q1
  conv => lhs; rw [← hself]
  unfold f_X11_fillProofs
  rw [gt_t hx, lt_e, r9, nn_s, gt_t r6, lt_e, r5, k_zero h, bd_s, lt_e, r9, nn_s, gt_t r6, lt_e, r5, k_ageOf hrc hp hm hb, bd_s, nn_s, gt_t r20, c10, r21, gt_t (by decide), lt_e, sk, lt_e, r9, nn_s, gt_t r6, lt_e, r5, nn_s, gt_t pk, lt_e, p3, nn_s, gt_t r20, c13, r21, gt_t (by decide), lt_e, sk, lt_e, f13, ← hY0]
  rfl
end FI9
