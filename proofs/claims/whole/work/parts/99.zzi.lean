/-! A WEEK: the class chooses and keeps. Written by wip/b/mk99zzi.py. -/
def wkg_ (A : AS) (N : Nat → Nat) (L : List Nat) (i : Nat) : Int := if i < L.length then (wkG_ A N (L.getD i 0) : Int) else 0
def wkh_ (A : AS) (N : Nat → Nat) (L : List Nat) (i : Nat) : Int := (wkH_ A N (L.getD i 0) : Int)
theorem wkh_b (A : AS) (N : Nat → Nat) (L : List Nat) (i : Nat) : 0 ≤ wkh_ A N L i ∧ wkh_ A N L i ≤ 5 := by
  unfold wkh_ wkH_
  have := (wkS_e A N (L.getD i 0)).2.1
  omega
theorem wkg_b {A : AS} {N : Nat → Nat} {L : List Nat} (hH : pvH A N) (hm : ∀ p, p ∈ L → p < N 5) (i : Nat) : 0 ≤ wkg_ A N L i ∧ wkg_ A N L i ≤ 400000 := by
  unfold wkg_
  by_cases z : i < L.length
  · rw [if_pos z]
    have := wkG_le hH (hm _ (gdm_ z))
    omega
  · rw [if_neg z]
    decide
section KWE
variable {ka : Nat → Nat} {x : Nat} {c : TH} {G : GH} {A : AS} {N : Nat → Nat}
theorem wk8_cu {L : List Nat} {G1 : GH} {τ : TH} {F : Nat → Int32} {W : Nat → Nat → Int32} (h : wk8_ ka x G A N L G1 τ) : wk8_ ka x G A N L G1 (cu_ τ G1 F W) := by
  obtain ⟨hr, hs, hm, h3⟩ := h
  refine ⟨rc_cu hr, hs, hm, fun p hp => ?_⟩
  have h31 : p < gc_ G1 31 := by rw [rc_31 hr]; exact hm.1 p hp
  rw [← h3 p hp, ← (hs 31 (by decide)).2]
  exact if_neg (fun z => sh_ne hr.1 h31 (rc_1 hr (by decide)) (Or.inl (by decide)) z)
/-- offered so far -/
def ow8_ (ka : Nat → Nat) (x : Nat) (G : GH) (A : AS) (N : Nat → Nat) (L : List Nat) (G1 : GH) (H : Nat) (τ0 : TH) (i : Nat) (τ : TH) : Prop := wk8_ ka x G A N L G1 τ ∧ (fi_ τ 105 (ga_ G1 17 0) = nI i ∧ fi_ τ 106 (ga_ G1 17 0) = zI (H : Int) ∧ fi_ τ 107 (ga_ G1 17 0) = zI 0) ∧ (∀ j, j < i → ai_ τ (ga_ G1 18 0) j = zI (wkg_ A N L j) ∧ ai_ τ (ga_ G1 19 0) j = zI (wkh_ A N L j) ∧ ai_ τ (ga_ G1 20 0) j = zI (-1) ∧ ai_ τ (ga_ G1 21 0) j = bi_ (true = true)) ∧ fq_ (fun _ => True) τ0 τ ∧ (nx_ τ = nx_ τ0 ∧ sl_ τ = sl_ τ0)
theorem k_offW {L : List Nat} {G1 : GH} {H i : Nat} {τ0 τ : TH} (hN : N 5 ≤ 30) (hm : aS A 6 = nI (N 6)) (hb : N 6 ≤ 5257439) (hL : L.length ≤ 12) (hi : i < L.length) (hI : ow8_ ka x G A N L G1 H τ0 i τ) (f : Nat) : ∃ τ2, f_X11_week_b42 ka (f + 1) τ x (nI i) = f_X11_week_b42 ka f τ2 x (nI (i + 1)) ∧ ow8_ ka x G A N L G1 H τ0 (i + 1) τ2 := by
  obtain ⟨hk, ⟨f5, f6, f7⟩, hw, hf, hn⟩ := hI
  obtain ⟨hr, hs, hmm, h308⟩ := id hk
  have hls := wk8_ls hk hN
  have r8 := rc_r1218 hr
  have r10 := rc_r1210 hr
  have hmem := gdm_ hi
  have hp := hmm.1 _ hmem
  have h31 : L.getD i 0 < gc_ G1 31 := by rw [rc_31 hr]; exact hp
  have p1 : kd_ τ (ga_ G1 31 (L.getD i 0)) = 4 := (hr.1.2 31 _ h31).1
  have p308 : fi_ τ 308 (ga_ G1 31 (L.getD i 0)) = zI (wkg_ A N L i) := by
    rw [(hs 31 (by decide)).2, h308 _ hmem]
    unfold wkg_
    rw [if_pos hi, zI_nI]
  have hfo : f_X11_hoursFor τ x (some (ga_ G1 31 (L.getD i 0))) = some (zI (wkh_ A N L i), τ) := by
    have q := k_hoursFor hr (show L.getD i 0 < wM_ N L.length 5 from hp) (show wM_ N L.length 5 ≤ 30 from hN) hm hb
    rw [q]
    unfold wkh_
    rw [zI_nI]
    rfl
  have off := k_offer (F := fun d => fi_ τ d (ga_ G1 17 0)) (W := fun j => ai_ τ (ga_ G1 (18 + j) 0)) hr (k := i) f5 (by omega) (zI (wkg_ A N L i)) (zI (wkh_ A N L i)) (zI (-1)) (bi_ (true = true)) bi_01
  rw [cu_self] at off
  have off : f_X0_offer τ (ga_ G1 17 0) (zI (wkg_ A N L i)) (zI (wkh_ A N L i)) (-1) 1 = _ := off
  have hd := cd5_of hr
  refine ⟨cu_ τ G1 (upd (fun d => fi_ τ d (ga_ G1 17 0)) 105 (nI (i + 1))) (up2_ (up2_ (up2_ (up2_ (fun j => ai_ τ (ga_ G1 (18 + j) 0)) 0 i (zI (wkg_ A N L i))) 1 i (zI (wkh_ A N L i))) 2 i (zI (-1))) 3 i (bi_ (true = true))), ?_, wk8_cu hk, ⟨?_, ?_, ?_⟩, fun j hj => ?_, fq_tr hf (fq_a (cu_fq hr.1.1)), hn⟩
  rotate_left
  · exact (cu_fi 105).trans upd9_s
  · exact (cu_fi 106).trans ((upd9_n (by decide)).trans f6)
  · exact (cu_fi 107).trans ((upd9_n (by decide)).trans f7)
  · rw [cu_a0 hd, cu_a1 hd, cu_a2 hd, cu_a3 hd]
    by_cases z : j = i
    · subst z
      rw [up2_c (by decide), up2_c (by decide), up2_c (by decide), up2_s, up2_c (by decide), up2_c (by decide), up2_s, up2_c (by decide), up2_s, up2_s]
      exact ⟨rfl, rfl, rfl, rfl⟩
    · obtain ⟨h0, h1, h2, h3⟩ := hw j (by omega)
      rw [up2_c (by decide), up2_c (by decide), up2_c (by decide), up2_n z, up2_c (by decide), up2_c (by decide), up2_n z, up2_c (by decide), up2_c (by decide), up2_n z, up2_c (by decide), up2_c (by decide), up2_n z, up2_c (by decide), up2_c (by decide), up2_c (by decide)]
      exact ⟨h0, h1, h2, h3⟩
  · rw [f_X11_week_b42, gt_t (rc_x hr), lt_e, r8.1, nn_s, gt_t r8.2, l_size hls, bd_s, if_neg (nI_ge hi (by omega)), lt_e, r8.1, nn_s, gt_t r8.2, l_get hls hi, bd_s, gt_t (show Option.elim (some (ga_ G1 31 (L.getD i 0))) 4 (kd_ τ) = 4 from p1), lt_e, r10.1, nn_s, gt_t p1, lt_e, p308, hfo, bd_s, nn_s, gt_t r10.2, off, bd_s, lt_e, nI_1]
/-- those that were not chosen go -/
theorem k_keep {L : List Nat} {u : Nat} (hN : N 5 ≤ 30) (hL : L.length ≤ 12) : ∀ (i f : Nat) (G1 : GH) (τ : TH), i ≤ L.length → i < f → wk8_ ka x G A N (L.take i ++ se9r_ u L (L.length - i)) G1 τ → ∃ τ2 G2, f_X11_keepChosen_b10 f τ x (nI u) (zI ((i : Int) - 1)) = some ((), τ2) ∧ wk8_ ka x G A N (se9r_ u L L.length) G2 τ2 ∧ fq_ (fun _ => True) τ τ2 ∧ (nx_ τ2 = nx_ τ ∧ sl_ τ2 = sl_ τ) ∧ ∀ d, fi_ τ2 d (ga_ G 17 0) = fi_ τ d (ga_ G 17 0)
  | 0, f, G1, τ, hi, hf, h => by
    obtain ⟨f, rfl⟩ : ∃ e, f = e + 1 := ⟨f - 1, by omega⟩
    refine ⟨τ, G1, ?_, ?_, fq_rf h.1.1.1, ⟨rfl, rfl⟩, fun _ => rfl⟩
    · rw [f_X11_keepChosen_b10, if_pos (show zI (((0 : Nat) : Int) - 1) < 0 by decide)]
    · rw [List.take_zero, List.nil_append, Nat.sub_zero] at h
      exact h
  | i + 1, f, G1, τ, hi, hf, h => by
    obtain ⟨f, rfl⟩ : ∃ e, f = e + 1 := ⟨f - 1, by omega⟩
    have hil : i < L.length := by omega
    have ei : zI (((i + 1 : Nat) : Int) - 1) = nI i := by
      rw [show ((i + 1 : Nat) : Int) - 1 = (i : Int) by omega]
      exact zI_nI i
    have em : nI i + (-1) = zI ((i : Int) - 1) := by
      rw [← zI_nI, ← zI_m1, zI_add]
      rfl
    have eb : (nI u &&& ((1 : Int32) <<< (nI i &&& 31)) = 0) ↔ u.testBit i = false := by
      rw [bit_and _ (by omega), bt_nI (by omega)]
    have eR : se9r_ u L (L.length - i) = (if u.testBit i = true then [L.getD i 0] else []) ++ se9r_ u L (L.length - (i + 1)) := by
      rw [show L.length - i = (L.length - (i + 1)) + 1 by omega]
      show (if u.testBit (L.length - ((L.length - (i + 1)) + 1)) = true then [L.getD (L.length - ((L.length - (i + 1)) + 1)) 0] else []) ++ se9r_ u L (L.length - (i + 1)) = _
      rw [show L.length - ((L.length - (i + 1)) + 1) = i by omega]
    have hs := h.2.1
    rw [ei, f_X11_keepChosen_b10, if_neg (nI_pos (by omega))]
    by_cases z : u.testBit i = true
    · rw [if_pos z] at eR
      rw [if_neg (fun q => by rw [eb.mp q] at z; cases z)]
      unfold f_X11_keepChosen_b31
      rw [lt_e, em]
      refine k_keep hN hL i f G1 τ (by omega) (by omega) ?_
      rw [eR]
      rw [take_mid L _ hil] at h
      exact h
    · have z := eq_false_of_ne_true z
      rw [if_neg (by rw [z]; decide), List.nil_append] at eR
      have r8 := rc_r1218 h.1
      have hlen : i < (L.take (i + 1) ++ se9r_ u L (L.length - (i + 1))).length := by
        rw [List.length_append, List.length_take]
        omega
      obtain ⟨r, τ2, G2, q1, q2, q3, q4, q5⟩ := wk8_er h hN hlen
      rw [er_mid L _ hil, ← eR] at q2
      obtain ⟨τ3, G3, w1, w2, w3, w4, w5⟩ := k_keep hN hL i f G2 τ2 (by omega) (by omega) q2
      refine ⟨τ3, G3, ?_, w2, fq_tr (fq_a q4) w3, ⟨w4.1.trans q5.1, w4.2.trans q5.2⟩, fun d => (w5 d).trans ?_⟩
      · rw [if_pos (eb.mpr z), gt_t (rc_x h.1), lt_e, r8.1, nn_s, gt_t r8.2, q1, bd_s]
        unfold f_X11_keepChosen_b31
        rw [lt_e, em]
        exact w1
      · rw [← (hs 17 (by decide)).2]
        have h17 := rc_1 h.1 (r := 17) (by decide)
        refine fq_fi q4 (sh_lt h.1.1 h17) (fun y => ?_) d
        rcases y with y | y
        · exact sh_ne h.1.1 h17 (rc_1 h.1 (by decide)) (Or.inl (by decide)) y
        · by_cases w : gc_ G1 58 = 0
          · rw [if_pos w] at y; exact rc_ka h.1 h17 y
          · rw [if_neg w] at y; exact sh_ne h.1.1 h17 (Nat.pos_of_ne_zero w) (Or.inl (by decide)) y
/-- the class's week -/
theorem k_week (h : rc_ ka TXp_ c x G A N) (hv : pv_ A N) (hN : N 5 ≤ 30) (hm : aS A 6 = nI (N 6)) (hb : N 6 ≤ 5257439) (hN4 : N 4 ≤ 6) (hN86 : N 86 ≤ 12) {w H : Nat} (hw : w < N 4) (hlive : aV A 14 w = 0) (hH : aV A 7 w = nI H) (hH6 : H ≤ 60) (L : List Nat) (hL : L = top9_ (wkG_ A N) (fl9_ (wkQ_ A N (nI w)) (N 5))) (hL12 : L.length ≤ 12) : ∃ τ G2, f_X11_week ka c x (nI w) = some (zI (pk_ (wkg_ A N L) (wkh_ A N L) (fun _ => -1) (fun _ => true) 0 (H : Int) L.length 0 (0, 0, 0) (0, -1, (H : Int) + 1)).2.1, si_ τ 1214 x 0) ∧ rc_ ka TXp_ τ x G2 (wB_ ((fun q => if q = 87 then zI (pk_ (wkg_ A N L) (wkh_ A N L) (fun _ => -1) (fun _ => true) 0 (H : Int) L.length 0 (0, 0, 0) (0, -1, (H : Int) + 1)).2.2 else aS A q), A.2) (ln8_ (se9l_ (pk_ (wkg_ A N L) (wkh_ A N L) (fun _ => -1) (fun _ => true) 0 (H : Int) L.length 0 (0, 0, 0) (0, -1, (H : Int) + 1)).1 L L.length))) (wM_ N (se9l_ (pk_ (wkg_ A N L) (wkh_ A N L) (fun _ => -1) (fun _ => true) 0 (H : Int) L.length 0 (0, 0, 0) (0, -1, (H : Int) + 1)).1 L L.length).length) ∧ fq_ (fun _ => True) c τ ∧ (nx_ τ ≤ nx_ c + 30 ∧ sl_ τ ≤ sl_ c + 1350) := by
  have hx := rc_x h
  obtain ⟨lw, l2, l3⟩ := k_living1 h hN4 hw
  rw [if_pos hlive] at lw
  have r8 := rc_r1218 h
  have hls := rc_l8 h hN hN86 hv.2.2.2.2.2.2.1
  obtain ⟨s9, d1, d2, d3, d4, d5⟩ := l_clear h.1.1 hls
  have h' : rc_ ka TXp_ c x G (wB_ A (aV A 84)) (wM_ N (N 86)) := by rw [wB_self, wM_self]; exact h
  obtain ⟨G0, r0, s0⟩ := rc_w8 (l2 := []) h' (fun p hp => absurd hp List.not_mem_nil) hN d3 (ls_cong d2 (fun i hi => absurd hi (Nat.not_lt_zero i))) (Or.inl rfl)
  have g0 : gi8_ ka x G A N (nI w) c 0 s9 := ⟨G0, ⟨r0, s0, ⟨fun p hp => absurd hp List.not_mem_nil, Nat.zero_le _⟩, fun p hp => absurd hp List.not_mem_nil⟩, fq_a d3, by omega, by omega⟩
  obtain ⟨s11, G1, e1, e2, e3, e4⟩ := k_gather hN hv.2.1 hm hb g0
  rw [← hL] at e2
  obtain ⟨hr, hs, hmm, h308⟩ := id e2
  have r10 := rc_r1210 hr
  have h30 : w < gc_ G1 30 := by rw [rc_30 hr]; exact hw
  have e30 : ga_ G 30 w = ga_ G1 30 w := ((hs 30 (by decide)).2 w).symm
  have kd30 : kd_ s11 (ga_ G 30 w) = 12 := by rw [e30]; exact (hr.1.2 30 w h30).1
  have f1100 : fi_ s11 1100 (ga_ G 30 w) = nI H := by
    rw [e30]
    exact ((hr.2.2.2 30 w h30).1).trans hH
  have beg := k_chBegin (F := fun d => fi_ s11 d (ga_ G1 17 0)) (W := fun j => ai_ s11 (ga_ G1 (18 + j) 0)) hr (nI H) 0
  rw [cu_self] at beg
  have key : ∃ r, f_X11_week_b42 ka fu_ (cu_ s11 G1 (upd (upd (upd (fun d => fi_ s11 d (ga_ G1 17 0)) 106 (nI H)) 107 0) 105 0) (fun j => ai_ s11 (ga_ G1 (18 + j) 0))) x (nI 0) = some r ∧ ∃ τ G2, r = (zI (pk_ (wkg_ A N L) (wkh_ A N L) (fun _ => -1) (fun _ => true) 0 (H : Int) L.length 0 (0, 0, 0) (0, -1, (H : Int) + 1)).2.1, si_ τ 1214 x 0) ∧ rc_ ka TXp_ τ x G2 (wB_ ((fun q => if q = 87 then zI (pk_ (wkg_ A N L) (wkh_ A N L) (fun _ => -1) (fun _ => true) 0 (H : Int) L.length 0 (0, 0, 0) (0, -1, (H : Int) + 1)).2.2 else aS A q), A.2) (ln8_ (se9l_ (pk_ (wkg_ A N L) (wkh_ A N L) (fun _ => -1) (fun _ => true) 0 (H : Int) L.length 0 (0, 0, 0) (0, -1, (H : Int) + 1)).1 L L.length))) (wM_ N (se9l_ (pk_ (wkg_ A N L) (wkh_ A N L) (fun _ => -1) (fun _ => true) 0 (H : Int) L.length 0 (0, 0, 0) (0, -1, (H : Int) + 1)).1 L L.length).length) ∧ fq_ (fun _ => True) c τ ∧ (nx_ τ ≤ nx_ c + 30 ∧ sl_ τ ≤ sl_ c + 1350) := by
    refine lpe_ (F := fun f (s : TH) k => f_X11_week_b42 ka f s x k) L.length (fun i τ => ow8_ ka x G A N L G1 H s11 i τ) (fun r => ∃ τ G2, r = (zI (pk_ (wkg_ A N L) (wkh_ A N L) (fun _ => -1) (fun _ => true) 0 (H : Int) L.length 0 (0, 0, 0) (0, -1, (H : Int) + 1)).2.1, si_ τ 1214 x 0) ∧ rc_ ka TXp_ τ x G2 (wB_ ((fun q => if q = 87 then zI (pk_ (wkg_ A N L) (wkh_ A N L) (fun _ => -1) (fun _ => true) 0 (H : Int) L.length 0 (0, 0, 0) (0, -1, (H : Int) + 1)).2.2 else aS A q), A.2) (ln8_ (se9l_ (pk_ (wkg_ A N L) (wkh_ A N L) (fun _ => -1) (fun _ => true) 0 (H : Int) L.length 0 (0, 0, 0) (0, -1, (H : Int) + 1)).1 L L.length))) (wM_ N (se9l_ (pk_ (wkg_ A N L) (wkh_ A N L) (fun _ => -1) (fun _ => true) 0 (H : Int) L.length 0 (0, 0, 0) (0, -1, (H : Int) + 1)).1 L L.length).length) ∧ fq_ (fun _ => True) c τ ∧ (nx_ τ ≤ nx_ c + 30 ∧ sl_ τ ≤ sl_ c + 1350)) (fun f i τ hi hI => k_offW hN hm hb hL12 hi hI f) (fun f τ hI => ?_) (by omega) _ ⟨wk8_cu e2, ⟨(cu_fi 105).trans upd9_s, ?_, ?_⟩, fun j hj => absurd hj (Nat.not_lt_zero j), fq_a (cu_fq hr.1.1), rfl, rfl⟩
    · obtain ⟨hk, ⟨f5, f6, f7⟩, hwv, hf, hn⟩ := hI
      obtain ⟨hrt, hst, -, -⟩ := id hk
      have hls1 := wk8_ls hk hN
      have q8 := rc_r1218 hrt
      have q10 := rc_r1210 hrt
      have cw : cw_ (fun d => fi_ τ d (ga_ G1 17 0)) (fun j => ai_ τ (ga_ G1 (18 + j) 0)) (wkg_ A N L) (wkh_ A N L) (fun _ => -1) (fun _ => true) 0 (H : Int) L.length := ⟨⟨f5, f6, f7⟩, ⟨by omega, hwv⟩, fun i => by have := wkg_b hv.2.1 hmm.1 i; omega, fun i => by have := wkh_b A N L i; omega, fun i => Or.inl rfl, by decide, by omega⟩
      obtain ⟨F', W', c1, c2, c3, c4⟩ := k_choose hrt cw
      rw [cu_self] at c1
      generalize (pk_ (wkg_ A N L) (wkh_ A N L) (fun _ => -1) (fun _ => true) 0 (H : Int) L.length 0 (0, 0, 0) (0, -1, (H : Int) + 1)) = PK at c2 c3 c4 ⊢
      have hk2 : wk8_ ka x G A N L G1 (cu_ τ G1 F' W') := wk8_cu hk
      have w10 := rc_r1210 hk2.1
      have g8 : fi_ (cu_ τ G1 F' W') 108 (ga_ G1 17 0) = nI PK.1 := (cu_fi 108).trans c2
      have g9 : fi_ (cu_ τ G1 F' W') 109 (ga_ G1 17 0) = zI PK.2.1 := (cu_fi 109).trans c3
      have g10 : fi_ (cu_ τ G1 F' W') 110 (ga_ G1 17 0) = zI PK.2.2 := (cu_fi 110).trans c4
      have nx24 : nx_ (cu_ τ G1 F' W') = nx_ τ ∧ sl_ (cu_ τ G1 F' W') = sl_ τ := ⟨rfl, rfl⟩
      have fq24 : fq_ (fun _ => True) c (cu_ τ G1 F' W') := fq_tr (fq_tr e3 hf) (fq_a (cu_fq hrt.1.1))
      generalize cu_ τ G1 F' W' = s24 at c1 hk2 w10 g8 g9 g10 nx24 fq24
      have rc3 : rc_ ka TXp_ (si_ s24 1219 x (zI PK.2.2)) x G1 (wB_ ((fun q => if q = 87 then zI PK.2.2 else aS A q), A.2) (ln8_ L)) (wM_ N L.length) := by
        refine rc_up hk2.1 (fq_si (T := fun q => q = x) hk2.1.1.1 rfl) (fun q => if q = 87 then zI PK.2.2 else aS A q) ?_ ?_
        · obtain ⟨q0, q1, q2, q3, q4, q5, q6, q7, q8⟩ := rc_f0 hk2.1
          have fy : ∀ d, d ≠ 1219 → fi_ (si_ s24 1219 x (zI PK.2.2)) d x = fi_ s24 d x := fun d d1 => by rw [fi_si, up2_c d1]
          have f19 : fi_ (si_ s24 1219 x (zI PK.2.2)) 1219 x = zI PK.2.2 := by rw [fi_si, up2_s]
          exact ⟨q0, (fy 1211 (by decide)).trans q1, (fy 1212 (by decide)).trans q2, (fy 1213 (by decide)).trans q3, (fy 1214 (by decide)).trans q4, (fy 1215 (by decide)).trans q5, (fy 1216 (by decide)).trans q6, (fy 1217 (by decide)).trans q7, f19⟩
        · exact hk2.1.2.2.2 10 0 (rc_1 hk2.1 (by decide))
      have hk3 : wk8_ ka x G ((fun q => if q = 87 then zI PK.2.2 else aS A q), A.2) N (L.take L.length ++ se9r_ PK.1 L (L.length - L.length)) G1 (si_ s24 1219 x (zI PK.2.2)) := by
        have e : L.take L.length ++ se9r_ PK.1 L (L.length - L.length) = L := by
          rw [List.take_length, Nat.sub_self]
          exact List.append_nil L
        rw [e]
        refine ⟨rc3, hk2.2.1, hk2.2.2.1, fun p hp => ?_⟩
        rw [fi_si, up2_c (by decide)]
        exact hk2.2.2.2 p hp
      have h8L : ls_ ka (si_ s24 1219 x (zI PK.2.2)) (ga_ G1 8 0) (if gc_ G1 58 = 0 then ka 200 else ga_ G1 58 0) L.length (fun j => ga_ G1 31 (L.getD j 0)) := rc_l8x rc3 hk2.2.2.1.2 hk2.2.2.1.1 hN
      obtain ⟨τ5, G5, k1, k2, k3, k4, k5⟩ := k_keep (A := ((fun q => if q = 87 then zI PK.2.2 else aS A q), A.2)) (u := PK.1) hN hL12 L.length fu_ G1 (si_ s24 1219 x (zI PK.2.2)) (Nat.le_refl _) (by unfold fu_; omega) hk3
      rw [← se9_eq] at k2
      have v10 := rc_r1210 k2.1
      have e17 : ga_ G5 17 0 = ga_ G 17 0 := (k2.2.1 17 (by decide)).2 0
      have e171 : ga_ G1 17 0 = ga_ G 17 0 := (hs 17 (by decide)).2 0
      have g9' : fi_ τ5 109 (ga_ G5 17 0) = zI PK.2.1 := by
        rw [e17, k5 109, fi_si, up2_c (by decide), ← e171]
        exact g9
      refine ⟨(zI PK.2.1, si_ τ5 1214 x 0), ?_, τ5, G5, rfl, k2.1, fq_tr (fqi fq24 trivial) k3, ?_, ?_⟩
      · show f_X11_week_b42 ka (f + 1) τ x (nI L.length) = _
        rw [f_X11_week_b42, gt_t (rc_x hrt), lt_e, q8.1, nn_s, gt_t q8.2, l_size hls1, bd_s, if_pos (Int32.le_refl _), lt_e, q10.1, nn_s, gt_t q10.2, c1, bd_s, lt_e, w10.1, nn_s, gt_t w10.2, lt_e, g10, lt_e, lt_e, show fr_ (si_ s24 1219 x (zI PK.2.2)) 1210 x = _ from w10.1, nn_s, gt_t (show kd_ (si_ s24 1219 x (zI PK.2.2)) (ga_ G1 17 0) = 2 from w10.2), lt_e, show fi_ (si_ s24 1219 x (zI PK.2.2)) 108 (ga_ G1 17 0) = nI PK.1 from by rw [fi_si, up2_c (by decide)]; exact g8]
        have kp : f_X11_keepChosen (si_ s24 1219 x (zI PK.2.2)) x (nI PK.1) = some ((), τ5) := by
          unfold f_X11_keepChosen
          rw [gt_t (rc_x rc3), lt_e, (rc_r1218 rc3).1, nn_s, gt_t (rc_r1218 rc3).2, l_size h8L, bd_s, lt_e, show nI L.length - 1 = zI ((L.length : Int) - 1) by rw [← zI_nI]; exact (Int32.ofInt_sub (L.length : Int) 1).symm]
          exact k1
        rw [kp, bd_s, lt_e, v10.1, nn_s, gt_t v10.2, lt_e, g9', k_granted (rc_x k2.1), bd_s]
      · have z1 := k4.1
        have z2 : nx_ (si_ s24 1219 x (zI PK.2.2)) = nx_ s24 := rfl
        omega
      · have z1 := k4.2
        have z2 : sl_ (si_ s24 1219 x (zI PK.2.2)) = sl_ s24 := rfl
        omega
    · exact (cu_fi 106).trans ((upd9_n (by decide)).trans ((upd9_n (by decide)).trans (upd9_s.trans (zI_nI H).symm)))
    · exact (cu_fi 107).trans ((upd9_n (by decide)).trans upd9_s)
  obtain ⟨_, e, τ, G2, rfl, q⟩ := key
  refine ⟨τ, G2, ?_, q⟩
  unfold f_X11_week
  rw [gt_t hx, lw, bd_s, oc_s, lt_e, r8.1, nn_s, gt_t r8.2, d1, bd_s, e1, bd_s, lt_e, r10.1, gt_t kd30, lt_e, f1100, nn_s, gt_t r10.2, beg, bd_s]
  exact e
end KWE
