/-! A WEEK: the class gathers stories. Written by wip/b/mk99zzh.py. -/
theorem sg8_rf (G : GH) : sg8_ G G := fun _ _ => ⟨rfl, fun _ => rfl⟩
theorem sg8_tr {G1 G2 G3 : GH} (h : sg8_ G1 G2) (k : sg8_ G2 G3) : sg8_ G1 G3 := fun r hr => ⟨(k r hr).1.trans (h r hr).1, fun i => ((k r hr).2 i).trans ((h r hr).2 i)⟩
theorem gdm_ {l : List Nat} {j : Nat} (hj : j < l.length) : l.getD j 0 ∈ l := by
  rw [List.getD_eq_getElem?_getD, List.getElem?_eq_getElem hj]
  exact List.getElem_mem hj
theorem er_mem {l : List Nat} {k p : Nat} (h : p ∈ l.eraseIdx k) : p ∈ l := List.mem_of_mem_eraseIdx h
theorem neg1_ (k : Nat) : nI (k + 1) + (-1) = nI k := by
  have h : nI (k + 1) - 1 = nI k := nI_pred k
  rw [← h]
  exact (Int32.sub_eq_add_neg (nI (k + 1)) 1).symm
section KGT
variable {ka : Nat → Nat} {x : Nat} {c : TH} {G : GH} {A : AS} {N : Nat → Nat}
/-- the stories' list is l, their gains are noted -/
def wk8_ (ka : Nat → Nat) (x : Nat) (G : GH) (A : AS) (N : Nat → Nat) (l : List Nat) (G1 : GH) (τ : TH) : Prop := rc_ ka TXp_ τ x G1 (wB_ A (ln8_ l)) (wM_ N l.length) ∧ sg8_ G G1 ∧ ((∀ p, p ∈ l → p < N 5) ∧ l.length ≤ 30) ∧ ∀ p, p ∈ l → fi_ τ 308 (ga_ G 31 p) = nI (wkG_ A N p)
/-- the list is changed: what is noted stays -/
theorem wk8_w8 {l l2 : List Nat} {G1 : GH} {τ τ2 : TH} {e1 : Nat} (h : wk8_ ka x G A N l G1 τ) (hN : N 5 ≤ 30) (hm : ∀ p, p ∈ l2 → p < N 5) (hl2 : l2.length ≤ 30) (h8 : ∀ p, p ∈ l2 → fi_ τ 308 (ga_ G 31 p) = nI (wkG_ A N p)) (hf : fq_ (fun q => q = ga_ G1 8 0 ∨ q = (if gc_ G1 58 = 0 then ka 200 else ga_ G1 58 0)) τ τ2) (hk : ls_ ka τ2 (ga_ G1 8 0) e1 l2.length (fun j => ga_ G1 31 (l2.getD j 0))) (he : e1 = (if gc_ G1 58 = 0 then ka 200 else ga_ G1 58 0) ∨ nx_ τ ≤ e1) : ∃ G2, wk8_ ka x G A N l2 G2 τ2 ∧ sg8_ G1 G2 := by
  obtain ⟨hr, hs, -, -⟩ := h
  obtain ⟨G2, r2, s2⟩ := rc_w8 hr hm hN hf hk he
  refine ⟨G2, ⟨r2, sg8_tr hs s2, ⟨hm, hl2⟩, fun p hp => ?_⟩, s2⟩
  have hp5 := hm p hp
  have h31 : p < gc_ G1 31 := by rw [rc_31 hr]; exact hp5
  have e31 : ga_ G 31 p = ga_ G1 31 p := ((hs 31 (by decide)).2 p).symm
  rw [← h8 p hp, e31]
  refine fq_fi hf (sh_lt hr.1 h31) (fun z => ?_) 308
  rcases z with z | z
  · exact sh_ne hr.1 h31 (rc_1 hr (by decide)) (Or.inl (by decide)) z
  · by_cases w : gc_ G1 58 = 0
    · rw [if_pos w] at z; exact rc_ka hr h31 z
    · rw [if_neg w] at z; exact sh_ne hr.1 h31 (Nat.pos_of_ne_zero w) (Or.inl (by decide)) z
theorem wk8_ls {l : List Nat} {G1 : GH} {τ : TH} (h : wk8_ ka x G A N l G1 τ) (hN : N 5 ≤ 30) : ls_ ka τ (ga_ G1 8 0) (if gc_ G1 58 = 0 then ka 200 else ga_ G1 58 0) l.length (fun j => ga_ G1 31 (l.getD j 0)) := rc_l8x h.1 h.2.2.1.2 h.2.2.1.1 hN
/-- one is taken out -/
theorem wk8_er {l : List Nat} {G1 : GH} {τ : TH} (h : wk8_ ka x G A N l G1 τ) (hN : N 5 ≤ 30) {k : Nat} (hk : k < l.length) : ∃ r τ2 G2, f_Jx4a65c_remove_915e3 τ (ga_ G1 8 0) (nI k) = some (r, τ2) ∧ wk8_ ka x G A N (l.eraseIdx k) G2 τ2 ∧ sg8_ G1 G2 ∧ fq_ (fun q => q = ga_ G1 8 0 ∨ q = (if gc_ G1 58 = 0 then ka 200 else ga_ G1 58 0)) τ τ2 ∧ (nx_ τ2 = nx_ τ ∧ sl_ τ2 = sl_ τ) := by
  obtain ⟨τ2, q1, q2, q3, q4, q5⟩ := l_remove h.1.1.1 (wk8_ls h hN) hk
  have hlen : (l.eraseIdx k).length = l.length - 1 := by rw [List.length_eraseIdx, if_pos hk]
  have q2' : ls_ ka τ2 (ga_ G1 8 0) (if gc_ G1 58 = 0 then ka 200 else ga_ G1 58 0) (l.eraseIdx k).length (fun j => ga_ G1 31 ((l.eraseIdx k).getD j 0)) := by
    rw [hlen]
    refine ls_cong q2 (fun i hi => ?_)
    rw [getD_er]
    by_cases z : i < k
    · rw [if_pos z, if_pos z]
    · rw [if_neg z, if_neg z]
  obtain ⟨G2, w1, w2⟩ := wk8_w8 h hN (fun p hp => h.2.2.1.1 p (er_mem hp)) (by have := h.2.2.1.2; omega) (fun p hp => h.2.2.2 p (er_mem hp)) q3 q2' (Or.inl rfl)
  exact ⟨_, τ2, G2, q1, w1, w2, q3, q4, q5⟩
/-- where the least stands -/
theorem k_least {l : List Nat} {G1 : GH} {τ : TH} (h : wk8_ ka x G A N l G1 τ) (hN : N 5 ≤ 30) (hH : pvH A N) (hl : 1 ≤ l.length) : f_X11_placeOfLeast τ (some (ga_ G1 8 0)) = some (nI (li9_ (wkG_ A N) l l.length), τ) := by
  have hls := wk8_ls h hN
  have hl30 := h.2.2.1.2
  have hkd : ∀ j, j < l.length → kd_ τ (ga_ G1 31 (l.getD j 0)) = 4 ∧ fi_ τ 308 (ga_ G1 31 (l.getD j 0)) = nI (wkG_ A N (l.getD j 0)) ∧ wkG_ A N (l.getD j 0) ≤ 400000 := fun j hj => by
    have hm := gdm_ hj
    have hp := h.2.2.1.1 _ hm
    have h31 : l.getD j 0 < gc_ G1 31 := by rw [rc_31 h.1]; exact hp
    refine ⟨(h.1.1.2 31 _ h31).1, ?_, wkG_le hH hp⟩
    rw [(h.2.1 31 (by decide)).2]
    exact h.2.2.2 _ hm
  unfold f_X11_placeOfLeast
  refine lpk_ (F := fun f (a : Int32) k => f_X11_placeOfLeast_b4 f τ (some (ga_ G1 8 0)) a k) 1 l.length hl (fun i => nI (li9_ (wkG_ A N) l i)) (fun f i h1 hi => ?_) (fun f => ?_) (by omega)
  · show f_X11_placeOfLeast_b4 (f + 1) τ (some (ga_ G1 8 0)) (nI (li9_ (wkG_ A N) l i)) (nI i) = f_X11_placeOfLeast_b4 f τ (some (ga_ G1 8 0)) (nI (li9_ (wkG_ A N) l (i + 1))) (nI (i + 1))
    have hm := (li9_p (g := wkG_ A N) l i h1).1
    obtain ⟨a1, a2, a3⟩ := hkd i hi
    obtain ⟨b1, b2, b3⟩ := hkd (li9_ (wkG_ A N) l i) (by omega)
    have e : li9_ (wkG_ A N) l (i + 1) = if wkG_ A N (l.getD (li9_ (wkG_ A N) l i) 0) < wkG_ A N (l.getD i 0) then li9_ (wkG_ A N) l i else i := by
      rw [li9_, if_neg (by omega)]
    rw [f_X11_placeOfLeast_b4, nn_s, gt_t hls.1, l_size hls, bd_s, if_neg (nI_ge hi (by omega)), l_get hls hi, bd_s, gt_t (show Option.elim (some (ga_ G1 31 (l.getD i 0))) 4 (kd_ τ) = 4 from a1), nn_s, gt_t a1, lt_e, a2, l_get hls (show li9_ (wkG_ A N) l i < l.length by omega), bd_s, gt_t (show Option.elim (some (ga_ G1 31 (l.getD (li9_ (wkG_ A N) l i) 0))) 4 (kd_ τ) = 4 from b1), nn_s, gt_t b1, lt_e, b2, e]
    unfold f_X11_placeOfLeast_b39
    by_cases z : wkG_ A N (l.getD (li9_ (wkG_ A N) l i) 0) < wkG_ A N (l.getD i 0)
    · rw [if_pos (nI_lt z (by omega)), if_pos z, lt_e, nI_1]
    · rw [if_neg (nI_nlt (by omega) (by omega)), if_neg z, lt_e, nI_1]
  · show f_X11_placeOfLeast_b4 (f + 1) τ (some (ga_ G1 8 0)) (nI (li9_ (wkG_ A N) l l.length)) (nI l.length) = _
    rw [f_X11_placeOfLeast_b4, nn_s, gt_t hls.1, l_size hls, bd_s, if_pos (Int32.le_refl _)]
/-- the least go -/
theorem k_trim (hN : N 5 ≤ 30) (hH : pvH A N) : ∀ (k f : Nat) (l : List Nat) (G1 : GH) (τ : TH), k < f → l.length = k + 12 → wk8_ ka x G A N l G1 τ → ∃ τ2 G2, f_X11_gatherStories_b106 ka f τ x (nI k) = some ((), τ2) ∧ wk8_ ka x G A N (tr8_ (wkG_ A N) k l) G2 τ2 ∧ fq_ (fun _ => True) τ τ2 ∧ (nx_ τ2 = nx_ τ ∧ sl_ τ2 = sl_ τ)
  | 0, f, l, G1, τ, hf, hl, h => by
    obtain ⟨f, rfl⟩ : ∃ e, f = e + 1 := ⟨f - 1, by omega⟩
    refine ⟨τ, G1, ?_, h, fq_rf h.1.1.1, rfl, rfl⟩
    rw [f_X11_gatherStories_b106, if_pos (show nI 0 ≤ 0 by decide)]
  | k + 1, f, l, G1, τ, hf, hl, h => by
    obtain ⟨f, rfl⟩ : ∃ e, f = e + 1 := ⟨f - 1, by omega⟩
    have hl30 := h.2.2.1.2
    have r8 := rc_r1218 h.1
    have lt := (li9_p (g := wkG_ A N) l l.length (by omega)).1
    obtain ⟨r, τ2, G2, q1, q2, q3, q4, q5⟩ := wk8_er h hN lt
    obtain ⟨τ3, G3, w1, w2, w3, w4⟩ := k_trim hN hH k f (l.eraseIdx (li9_ (wkG_ A N) l l.length)) G2 τ2 (by omega) (by rw [List.length_eraseIdx, if_pos lt]; omega) q2
    refine ⟨τ3, G3, ?_, w2, fq_tr (fq_a q4) w3, w4.1.trans q5.1, w4.2.trans q5.2⟩
    rw [f_X11_gatherStories_b106, if_neg (show ¬ nI (k + 1) ≤ 0 from nI_ge (a := 0) (by omega) (by omega)), gt_t (rc_x h.1), lt_e, lt_e, r8.1, k_least h hN hH (by omega), bd_s, nn_s, gt_t r8.2, q1, bd_s, lt_e, neg1_]
    exact w1
/-- gathered so far -/
def gi8_ (ka : Nat → Nat) (x : Nat) (G : GH) (A : AS) (N : Nat → Nat) (w : Int32) (c : TH) (i : Nat) (τ : TH) : Prop := ∃ G1, wk8_ ka x G A N (fl9_ (wkQ_ A N w) i) G1 τ ∧ fq_ (fun _ => True) c τ ∧ (nx_ τ ≤ nx_ c + i ∧ sl_ τ ≤ sl_ c + 45 * i)
theorem k_gath1 (hN : N 5 ≤ 30) (hH : pvH A N) (hm : aS A 6 = nI (N 6)) (hb : N 6 ≤ 5257439) {w : Int32} {i : Nat} {τ : TH} (hi : i < N 5) (h : gi8_ ka x G A N w c i τ) (f : Nat) : ∃ τ2, f_X11_gatherStories_b2 ka (f + 1) τ x w (nI i) = f_X11_gatherStories_b2 ka f τ2 x w (nI (i + 1)) ∧ gi8_ ka x G A N w c (i + 1) τ2 := by
  obtain ⟨G1, hk, hf, hn⟩ := h
  obtain ⟨hr, hs, ⟨hm5, hl30⟩, h308⟩ := id hk
  have hli : (fl9_ (wkQ_ A N w) i).length ≤ i := by
    rw [fl9_len]
    exact cn_le _ _
  have hx := rc_x hr
  have r1 := rc_r1201 hr
  have hl2 : ls_ ka τ (ga_ G1 2 0) (if gc_ G1 52 = 0 then ka 200 else ga_ G1 52 0) (N 5) (ga_ G1 31) := by
    have q := rc_l2 hr (show N 5 ≤ 1000 by omega)
    exact q
  have hi2 : i < wM_ N (fl9_ (wkQ_ A N w) i).length 5 := hi
  obtain ⟨p1, -, p3, p5, p15⟩ := k_per hr hi2
  have p5 : fi_ τ 305 (ga_ G1 31 i) = aV A 12 i := p5
  have p15 : aV A 15 i = bi_ (0 ≤ aV A 12 i) := p15
  have h31 : i < gc_ G1 31 := by rw [rc_31 hr]; exact hi
  have p304 : fi_ τ 304 (ga_ G1 31 i) = aV A 11 i := (hr.2.2.2 31 i h31).2.2.2.2.1
  have p303 : fi_ τ 303 (ga_ G1 31 i) = aV A 10 i := p3
  have f1213 : fi_ τ 1213 x = nI (N 6) := (rc_f0 hr).2.2.2.1.trans hm
  have tod : f_X11_today τ x = some (nI (td_ N), τ) := k_today hx f1213 (by omega)
  have stk : f_X11_staleKinds τ x (some (ga_ G1 31 i)) (nI (td_ N)) = some (bo_ (sl9_ A i (nI (td_ N))) 10, τ) := k_staleKinds hr hi2 (show N 5 ≤ 30 from hN) (nI (td_ N))
  have cha : f_X11_chanceOf τ x (some (ga_ G1 31 i)) = some (nI (chc_ (ag_ A N i) * wkP_ A i), τ) := k_chance hr hi2 hm hb
  obtain ⟨e1, e2, -⟩ := wkS_e A N i
  have b89 : ∀ τ : TH, f_X11_gatherStories_b89 ka (f_X11_gatherStories_b2 ka f) τ x w (nI i) = f_X11_gatherStories_b2 ka f τ x w (nI (i + 1)) := fun τ => by
    unfold f_X11_gatherStories_b89
    rw [lt_e, nI_1]
  have same : wkQ_ A N w i = false → gi8_ ka x G A N w c (i + 1) τ := fun z => by
    have e : fl9_ (wkQ_ A N w) (i + 1) = fl9_ (wkQ_ A N w) i := by
      show fl9_ (wkQ_ A N w) i ++ (if wkQ_ A N w i = true then [i] else []) = _
      rw [z, if_neg (by decide), List.append_nil]
    refine ⟨G1, ?_, hf, by omega, by omega⟩
    rw [e]
    exact hk
  have b48 : ∀ t0 : Nat, t0 = (if aV A 15 i = 0 then wkS_ A N i else 0) → ∃ τ2, f_X11_gatherStories_b48 ka (f_X11_gatherStories_b2 ka f) τ x w (nI i) (some (ga_ G1 31 i)) (nI t0) = f_X11_gatherStories_b2 ka f τ2 x w (nI (i + 1)) ∧ gi8_ ka x G A N w c (i + 1) τ2 := fun t0 ht => by
    unfold f_X11_gatherStories_b48
    rw [nn_s, gt_t p1, lt_e, p304]
    by_cases z : aV A 11 i = w
    · rw [if_pos z]
      by_cases z0 : t0 = 0
      · rw [if_pos (by rw [z0]; decide), b89]
        refine ⟨τ, rfl, same ?_⟩
        unfold wkQ_
        rw [decide_eq_true z, Bool.true_and]
        by_cases zd : aV A 15 i = 0
        · rw [if_pos zd] at ht
          rw [decide_eq_true zd, decide_eq_true (show wkS_ A N i = 0 by omega)]
          rfl
        · rw [decide_eq_false zd, Bool.false_and]
      · have zd : aV A 15 i = 0 := by
          refine Classical.byContradiction (fun zd => ?_)
          rw [if_neg zd] at ht
          exact z0 ht
        rw [if_pos zd] at ht
        have hQ : wkQ_ A N w i = true := by
          unfold wkQ_
          rw [decide_eq_true z, decide_eq_true zd, decide_eq_false (by omega)]
          rfl
        have e : fl9_ (wkQ_ A N w) (i + 1) = fl9_ (wkQ_ A N w) i ++ [i] := by
          show fl9_ (wkQ_ A N w) i ++ (if wkQ_ A N w i = true then [i] else []) = _
          rw [if_pos hQ]
        have hW := wkW_e hH hi
        have gx : (nI (chc_ (ag_ A N i) * wkP_ A i) * aV A 10 i) * nI t0 = nI (wkG_ A N i) := by
          rw [hW.1, pk_mul, pk_mul, ht]
          rfl
        have h1 := rc_308 hr h31 (nI (wkG_ A N i))
        have e31 : ∀ p, ga_ G 31 p = ga_ G1 31 p := fun p => ((hs 31 (by decide)).2 p).symm
        have ni : ∀ p, p ∈ fl9_ (wkQ_ A N w) i → p ≠ i := fun p hp => by
          have := (fl9_mem.mp hp).1
          omega
        have f308 : ∀ p, p ∈ fl9_ (wkQ_ A N w) i ++ [i] → fi_ (si_ τ 308 (ga_ G1 31 i) (nI (wkG_ A N i))) 308 (ga_ G 31 p) = nI (wkG_ A N p) := fun p hp => by
          rw [e31 p, fi_si]
          rcases List.mem_append.mp hp with hp | hp
          · have hpN := hm5 p hp
            have h31p : p < gc_ G1 31 := by rw [rc_31 hr]; exact hpN
            rw [up2_n (sh_ne hr.1 h31p h31 (Or.inr (ni p hp))), ← e31 p]
            exact h308 p hp
          · rw [List.mem_singleton.mp hp, up2_s]
        have hk1 : wk8_ ka x G A N (fl9_ (wkQ_ A N w) i) G1 (si_ τ 308 (ga_ G1 31 i) (nI (wkG_ A N i))) := ⟨h1, hs, ⟨hm5, hl30⟩, fun p hp => f308 p (List.mem_append.mpr (Or.inl hp))⟩
        have r8 := rc_r1218 h1
        obtain ⟨e2a, τ2, a1, a2, a3, a4, a5⟩ := l_addS h1.1.1 (wk8_ls hk1 hN) (by omega) (b := ga_ G1 31 i) (by rw [show kd_ (si_ τ 308 (ga_ G1 31 i) (nI (wkG_ A N i))) (ga_ G1 31 i) = 4 from p1]; decide)
        have hlen : (fl9_ (wkQ_ A N w) i ++ [i]).length = (fl9_ (wkQ_ A N w) i).length + 1 := by rw [List.length_append]; rfl
        have a2' : ls_ ka τ2 (ga_ G1 8 0) e2a (fl9_ (wkQ_ A N w) i ++ [i]).length (fun j => ga_ G1 31 ((fl9_ (wkQ_ A N w) i ++ [i]).getD j 0)) := by
          rw [hlen]
          refine ls_cong a2 (fun j hj => ?_)
          by_cases zj : j = (fl9_ (wkQ_ A N w) i).length
          · rw [if_pos zj, gd_r (by omega), zj, Nat.sub_self]
            rfl
          · rw [if_neg zj, gd_l (by omega)]
        obtain ⟨G2, w1, w2⟩ := wk8_w8 hk1 hN (fun p hp => by
          rcases List.mem_append.mp hp with hp | hp
          · exact hm5 p hp
          · rw [List.mem_singleton.mp hp]; exact hi) (by rw [hlen]; omega) f308 a3 a2' (by
          rcases a5 with ⟨y1, -⟩ | ⟨y1, -⟩
          · exact Or.inl y1
          · exact Or.inr (Nat.le_of_eq y1.symm))
        have bnd : nx_ τ2 ≤ nx_ τ + 1 ∧ sl_ τ2 ≤ sl_ τ + 45 := by
          rcases a5 with ⟨-, -, y3, y4, -⟩ | ⟨-, y3, y4, y5⟩
          · have y3 : nx_ τ2 = nx_ τ := y3
            have y4 : sl_ τ2 = sl_ τ := y4
            omega
          · have y3 : nx_ τ2 = nx_ τ + 1 := y3
            have y4 : sl_ τ2 = sl_ τ + ln_ τ2 e2a := y4
            rcases y5 with ⟨-, -, y6⟩ | ⟨-, y6⟩
            · have : max 1 ((fl9_ (wkQ_ A N w) i).length / 2) ≤ 15 := Nat.max_le.mpr ⟨by decide, by omega⟩
              omega
            · omega
        refine ⟨τ2, ?_, G2, ?_, fq_tr (fqi hf trivial) (fq_a a3), by omega, by omega⟩
        · rw [if_neg (show ¬ nI t0 ≤ 0 from nI_ge (a := 0) (by omega) (by omega)), gt_t hx, cha, bd_s, lt_e, p303, gx, lt_e, lt_e, r8.1, nn_s, gt_t r8.2, a1, bd_s, b89]
        · rw [e]
          exact w1
    · rw [if_neg z, b89]
      refine ⟨τ, rfl, same ?_⟩
      unfold wkQ_
      rw [decide_eq_false z, Bool.false_and]
  rw [f_X11_gatherStories_b2, gt_t hx, lt_e, r1.1, nn_s, gt_t r1.2, l_size hl2, bd_s, if_neg (show ¬ nI (N 5) ≤ nI i from nI_ge hi (by omega)), lt_e, r1.1, nn_s, gt_t r1.2, l_get hl2 hi, bd_s, gt_t (show Option.elim (some (ga_ G1 31 i)) 4 (kd_ τ) = 4 from p1), nn_s, gt_t p1, k_isDead p1, bd_s, p5]
  by_cases zd : (0 : Int32) ≤ aV A 12 i
  · rw [bi_t zd, if_neg (by decide)]
    exact b48 0 (by rw [p15, bi_t zd]; rfl)
  · rw [bi_f zd, if_pos rfl, tod, bd_s, stk, bd_s, k_bits, bd_s, e1]
    exact b48 (wkS_ A N i) (by rw [p15, bi_f zd]; rfl)
/-- all are gathered, the twelve best stay -/
theorem k_gather {w : Int32} {τ0 : TH} (hN : N 5 ≤ 30) (hH : pvH A N) (hm : aS A 6 = nI (N 6)) (hb : N 6 ≤ 5257439) (h : gi8_ ka x G A N w c 0 τ0) : ∃ τ G1, f_X11_gatherStories ka τ0 x w = some ((), τ) ∧ wk8_ ka x G A N (top9_ (wkG_ A N) (fl9_ (wkQ_ A N w) (N 5))) G1 τ ∧ fq_ (fun _ => True) c τ ∧ (nx_ τ ≤ nx_ c + 30 ∧ sl_ τ ≤ sl_ c + 1350) := by
  have key : ∃ r, f_X11_gatherStories_b2 ka fu_ τ0 x w (nI 0) = some r ∧ ∃ τ G1, r = ((), τ) ∧ wk8_ ka x G A N (top9_ (wkG_ A N) (fl9_ (wkQ_ A N w) (N 5))) G1 τ ∧ fq_ (fun _ => True) c τ ∧ (nx_ τ ≤ nx_ c + 30 ∧ sl_ τ ≤ sl_ c + 1350) := by
    refine lpe_ (F := fun f (s : TH) k => f_X11_gatherStories_b2 ka f s x w k) (N 5) (fun i τ => gi8_ ka x G A N w c i τ) (fun r => ∃ τ G1, r = ((), τ) ∧ wk8_ ka x G A N (top9_ (wkG_ A N) (fl9_ (wkQ_ A N w) (N 5))) G1 τ ∧ fq_ (fun _ => True) c τ ∧ (nx_ τ ≤ nx_ c + 30 ∧ sl_ τ ≤ sl_ c + 1350)) (fun f i τ hi hI => k_gath1 hN hH hm hb hi hI f) (fun f τ hI => ?_) (by omega) τ0 h
    obtain ⟨G1, hk, hf, hn⟩ := hI
    have hx := rc_x hk.1
    have r1 := rc_r1201 hk.1
    have hl2 : ls_ ka τ (ga_ G1 2 0) (if gc_ G1 52 = 0 then ka 200 else ga_ G1 52 0) (N 5) (ga_ G1 31) := by
      have q := rc_l2 hk.1 (show N 5 ≤ 1000 by omega)
      exact q
    have r8 := rc_r1218 hk.1
    have hls := wk8_ls hk hN
    have hl30 := hk.2.2.1.2
    obtain ⟨l, hl⟩ : ∃ l, l = fl9_ (wkQ_ A N w) (N 5) := ⟨_, rfl⟩
    have hup : up8_ l := by rw [hl]; exact fl9_up _ _
    rw [← hl] at hk hls hl30 ⊢
    have go : f_X11_gatherStories_b2 ka (f + 1) τ x w (nI (N 5)) = f_X11_gatherStories_b106 ka fu_ τ x (nI l.length - 12) := by
      rw [f_X11_gatherStories_b2, gt_t hx, lt_e, r1.1, nn_s, gt_t r1.2, l_size hl2, bd_s, if_pos (show nI (N 5) ≤ nI (N 5) from Int32.le_refl _), lt_e, r8.1, nn_s, gt_t r8.2, l_size hls, bd_s, lt_e]
    by_cases z : 12 < l.length
    · obtain ⟨τ2, G2, w1, w2, w3, w4⟩ := k_trim hN hH (l.length - 12) fu_ l G1 τ (by unfold fu_; omega) (by omega) hk
      rw [tr8_top _ _ hup (by omega)] at w2
      refine ⟨((), τ2), ?_, τ2, G2, rfl, w2, fq_tr hf w3, by omega, by omega⟩
      show f_X11_gatherStories_b2 ka (f + 1) τ x w (nI (N 5)) = _
      rw [go, show nI l.length - 12 = nI (l.length - 12) from sub9_ (b := 12) (by omega)]
      exact w1
    · refine ⟨((), τ), ?_, τ, G1, rfl, ?_, hf, by omega, by omega⟩
      · show f_X11_gatherStories_b2 ka (f + 1) τ x w (nI (N 5)) = _
        rw [go, show fu_ = (fu_ - 1) + 1 from rfl, f_X11_gatherStories_b106, if_pos ?_]
        have hh : ∀ n, n < 13 → nI n - 12 ≤ 0 := by decide
        exact hh _ (by omega)
      · rw [top9_all (by omega)]
        exact hk
  obtain ⟨_, e, τ, G1, rfl, q⟩ := key
  exact ⟨τ, G1, e, q⟩
end KGT
