/-! A WEEK: the reference chooses and keeps; week. Written by wip/b/mk99zzk.py. -/
section WBE
variable {g c : Nat → Int} {n : Nat}
theorem pa_be0 (hn : n ≤ 14) (hg : ∀ i, 0 ≤ g i ∧ g i ≤ 100000000) (hc : ∀ i, 0 ≤ c i ∧ c i ≤ 10000000) {u : Nat} (hu : u < 2 ^ n) : be9_ (pa_ g c 0 u n 0 (0, 0, 0)) := by
  obtain ⟨-, e1, e2⟩ := pa_sum (g := g) (c := c) (gap := 0) u n
  have s1 := su9_b (B := 100000000) (by decide) hg u n
  have s2 := su9_b (B := 10000000) (by decide) hc u n
  refine ⟨?_, ?_, ?_⟩
  · rw [pa_1 hu]
    exact Nat.lt_of_lt_of_le hu (Nat.pow_le_pow_right (by decide) hn)
  · rw [e1]; omega
  · rw [e2]; omega
theorem bu9_be0 {lim : Int} (hn : n ≤ 14) (hg : ∀ i, 0 ≤ g i ∧ g i ≤ 100000000) (hc : ∀ i, 0 ≤ c i ∧ c i ≤ 10000000) {ln : Nat → Int} {op : Nat → Bool} : ∀ u, u ≤ 2 ^ n → be9_ (bu9_ g c ln op 0 lim n u)
  | 0, _ => ⟨show 0 < 2 ^ 14 by decide, show (-1 : Int) ≤ 0 ∧ (0 : Int) ≤ 1400000000 by decide, show (0 : Int) ≤ 0 ∧ (0 : Int) ≤ 140000014 by decide⟩
  | u + 1, hu => by
    have ih := bu9_be0 (lim := lim) hn hg hc (ln := ln) (op := op) u (by omega)
    show be9_ (if (decide (0 < u) && fe9_ ln op u n) = true then f9_ lim (bu9_ g c ln op 0 lim n u) (pa_ g c 0 u n 0 (0, 0, 0)) else bu9_ g c ln op 0 lim n u)
    split
    · unfold f9_
      split
      · exact pa_be0 hn hg hc (by omega)
      · exact ih
    · exact ih
theorem fe9_all (u : Nat) : ∀ n, fe9_ (fun _ => -1) (fun _ => true) u n = true
  | 0 => rfl
  | n + 1 => by
    show (fe9_ (fun _ => -1) (fun _ => true) u n && (!u.testBit n || (true && (decide ((-1 : Int) = -1) || u.testBit ((-1 : Int)).toNat)))) = true
    rw [fe9_all u n]
    cases u.testBit n <;> rfl
end WBE
section MWK
variable {σ : TH} {y : Nat} {G : GH} {A : AS} {N : Nat → Nat}
theorem mr_w84 {τ : TH} {N' : Nat → Nat} {W : Nat → Int32} (h : mr_ τ y G (wB_ A W) N') (i : Nat) (v : Int32) : mr_ (sa_ τ (ga_ G 84 0) i v) y G (wB_ A (fun t => if t = i then v else W t)) N' := by
  have q := mr_sa h (j := 84) (by decide) i v
  have e : up2_ (aV (wB_ A W)) 84 i v = fun j => if j = 84 then (fun t => if t = i then v else W t) else aV A j := by
    funext j t
    by_cases z : j = 84
    · subst z
      rw [if_pos rfl]
      by_cases zt : t = i
      · rw [if_pos zt, zt, up2_s]
      · rw [if_neg zt, up2_n zt]
        rfl
    · rw [if_neg z, up2_c z]
      show (if j = 84 then W else aV A j) t = _
      rw [if_neg z]
  rw [e] at q
  exact q
theorem mr_w86 {τ : TH} {n n2 : Nat} (h : mr_ τ y G A (wM_ N n)) (hn : n2 ≤ 12) : mr_ (si_ τ 1686 y (nI n2)) y G A (wM_ N n2) := by
  have q := mr_sn h 86 1686 n2 (by decide) hn
  have e : (fun q => if q = 86 then n2 else wM_ N n q) = wM_ N n2 := by
    funext q
    show (if q = 86 then n2 else (if q = 86 then n else N q)) = if q = 86 then n2 else N q
    by_cases z : q = 86
    · rw [if_pos z, if_pos z]
    · rw [if_neg z, if_neg z, if_neg z]
  rw [e] at q
  exact q
/-- kept so far -/
def kp8_ (y : Nat) (G : GH) (A : AS) (N : Nat → Nat) (L sel : List Nat) (σ τ : TH) : Prop := (∃ W, mr_ τ y G (wB_ A W) (wM_ N sel.length) ∧ ∀ j, j < sel.length → W j = nI (sel.getD j 0)) ∧ (fi_ τ 1685 y = nI L.length ∧ ∀ j, j < L.length → ai_ τ (ga_ G 83 0) j = nI (L.getD j 0)) ∧ fq_ (fun _ => True) σ τ ∧ (nx_ τ = nx_ σ ∧ sl_ τ = sl_ σ) ∧ ∀ j, j ∈ DS → fi_ τ (1600 + j) y = fi_ σ (1600 + j) y
theorem m_keep1 {L : List Nat} {u i : Nat} {τ : TH} {l3 l4 : Int32} (hL : L.length ≤ 12) (hi : i < L.length) (hI : kp8_ y G A N L (se9l_ u L i) σ τ) (f : Nat) : ∃ τ2, f_X15_week_b376 (f + 1) τ y (nI u) l3 l4 (nI i) = f_X15_week_b376 f τ2 y (nI u) l3 l4 (nI (i + 1)) ∧ kp8_ y G A N L (se9l_ u L (i + 1)) σ τ2 := by
  obtain ⟨⟨W, h, hW⟩, ⟨h85, hv⟩, hf, hn, hd⟩ := id hI
  have hy := mo_y h.1
  have hlen := se9l_len (u := u) (l := L) i
  obtain ⟨a83, b83, c83⟩ := mo_a h.1 (j := 83) (cj := 1683) (K := 20) (n := 30) (by decide)
  obtain ⟨a84, b84, c84⟩ := mo_a h.1 (j := 84) (cj := 1684) (K := 20) (n := 12) (by decide)
  have e86 : fi_ τ 1686 y = nI (se9l_ u L i).length := (mo_n h.1 (j := 86) (cj := 1686) (m := 12) (by decide)).1
  have hbt := bit_shr (nI u) (k := i) (by omega)
  rw [bt_nI (by omega)] at hbt
  have b423 : ∀ τ : TH, f_X15_week_b423 (f_X15_week_b376 f) τ y (nI u) l3 l4 (nI i) = f_X15_week_b376 f τ y (nI u) l3 l4 (nI (i + 1)) := fun τ => by
    unfold f_X15_week_b423
    rw [lt_e, nI_1]
  have eS : se9l_ u L (i + 1) = se9l_ u L i ++ (if u.testBit i = true then [L.getD i 0] else []) := rfl
  rw [f_X15_week_b376, gt_t hy, lt_e, h85, if_neg (nI_ge hi (by omega)), hbt]
  by_cases z : u.testBit i = true
  · have ixi := ix9_ (k := i) (M := 30) (by omega) (by omega)
    have cli : (nI i).toNatClampNeg = i := nI_clamp (by omega)
    have ixs := ix9_ (k := (se9l_ u L i).length) (M := 12) (by omega) (by omega)
    have cls : (nI (se9l_ u L i).length).toNatClampNeg = (se9l_ u L i).length := nI_clamp (by omega)
    rw [if_pos z] at eS
    have hl2 : (se9l_ u L i ++ [L.getD i 0]).length = (se9l_ u L i).length + 1 := by rw [List.length_append]; rfl
    have r1 := mr_w84 h (se9l_ u L i).length (nI (L.getD i 0))
    have r2 := mr_w86 (n2 := (se9l_ u L i).length + 1) r1 (by omega)
    have n83 : ga_ G 83 0 ≠ ga_ G 84 0 := mo_ne h.1 (by decide) (by decide) (by decide)
    rw [bi_t z, if_neg (by decide), lt_e, a84, lt_e, e86, lt_e, a83, nn_s, gt_t b83, cli, c83, gt_t ixi, lt_e, hv i hi, nn_s, gt_t b84, cls, c84, gt_t ixs, lt_e, lt_e, show fi_ (sa_ τ (ga_ G 84 0) (se9l_ u L i).length (nI (L.getD i 0))) 1686 y = nI (se9l_ u L i).length from e86, lt_e, nI_1, b423, eS]
    refine ⟨_, rfl, ⟨_, by rw [hl2]; exact r2, fun j hj => ?_⟩, ⟨?_, fun j hj => ?_⟩, fqi (fqa hf trivial) trivial, hn, fun j hj => ?_⟩
    · rw [hl2] at hj
      by_cases zj : j = (se9l_ u L i).length
      · rw [if_pos zj, zj, gd_r (Nat.le_refl _), Nat.sub_self]
        rfl
      · rw [if_neg zj, gd_l (by omega)]
        exact hW j (by omega)
    · rw [fi_si, up2_c (by decide)]
      exact h85
    · show up2_ (ai_ τ) (ga_ G 84 0) (se9l_ u L i).length (nI (L.getD i 0)) (ga_ G 83 0) j = _
      rw [up2_ne (fun q => n83 q.1)]
      exact hv j hj
    · have hj0 : ∀ j, j ∈ DS → j ≠ 86 := by decide
      have h0 := hj0 j hj
      rw [fi_si, up2_c (by omega)]
      exact hd j hj
  · rw [if_neg z, List.append_nil] at eS
    rw [bi_f z, if_pos rfl, b423, eS]
    exact ⟨τ, rfl, hI⟩
/-- the reference's week -/
theorem m_week (h : mr_ σ y G A N) (hv : pv_ A N) (hN : N 5 ≤ 30) (hN4 : N 4 ≤ 6) (h15 : ∀ p, p < N 5 → aV A 15 p = bi_ (0 ≤ aV A 12 p)) {w H : Nat} (hw : w < N 4) (hH : aV A 7 w = nI H) (hH6 : H ≤ 60) (L : List Nat) (hL : L = top9_ (wkG_ A N) (fl9_ (wkQ_ A N (nI w)) (N 5))) (hL12 : L.length ≤ 12) : ∃ τ W, f_X15_week_b26 fu_ (si_ σ 1685 y 0) y (nI w) 0 = some (zI (pk_ (wkg_ A N L) (wkh_ A N L) (fun _ => -1) (fun _ => true) 0 (H : Int) L.length 0 (0, 0, 0) (0, -1, (H : Int) + 1)).2.1, tr_ (si_ τ 1687 y (zI (pk_ (wkg_ A N L) (wkh_ A N L) (fun _ => -1) (fun _ => true) 0 (H : Int) L.length 0 (0, 0, 0) (0, -1, (H : Int) + 1)).2.2)) y 0) ∧ mr_ τ y G (wB_ A W) (wM_ N (se9l_ (pk_ (wkg_ A N L) (wkh_ A N L) (fun _ => -1) (fun _ => true) 0 (H : Int) L.length 0 (0, 0, 0) (0, -1, (H : Int) + 1)).1 L L.length).length) ∧ (∀ j, j < (se9l_ (pk_ (wkg_ A N L) (wkh_ A N L) (fun _ => -1) (fun _ => true) 0 (H : Int) L.length 0 (0, 0, 0) (0, -1, (H : Int) + 1)).1 L L.length).length → W j = nI ((se9l_ (pk_ (wkg_ A N L) (wkh_ A N L) (fun _ => -1) (fun _ => true) 0 (H : Int) L.length 0 (0, 0, 0) (0, -1, (H : Int) + 1)).1 L L.length).getD j 0)) ∧ fq_ (fun _ => True) σ τ ∧ (nx_ τ = nx_ σ ∧ sl_ τ = sl_ σ) ∧ ∀ j, j ∈ DS → fi_ τ (1600 + j) y = fi_ σ (1600 + j) y := by
  have hR : L = fl9_ (wkR_ A N (nI w)) (N 5) := by
    rw [hL, top9_fl]
    rfl
  have hm : ∀ p, p ∈ L → p < N 5 := fun p hp => by
    rw [hR] at hp
    exact (fl9_mem.mp hp).1
  have hg := wkg_b hv.2.1 hm
  have hg' : ∀ i, 0 ≤ wkg_ A N L i ∧ wkg_ A N L i ≤ 100000000 := fun i => by have := hg i; omega
  have hc' : ∀ i, 0 ≤ wkh_ A N L i ∧ wkh_ A N L i ≤ 10000000 := fun i => by have := wkh_b A N L i; omega
  have scan := scan_same (g := wkg_ A N L) (c := wkh_ A N L) (ln := fun _ => -1) (op := fun _ => true) (gap := 0) (lim := (H : Int)) (n := L.length) (fun j => (hg' j).1) (fun j => (hc' j).1) (by decide) (by omega) (fun _ => Or.inl rfl)
  have hjd : ∀ j, j ∈ DS → j ≠ 85 ∧ j ≠ 86 := by decide
  have r0 : ri8_ y G A N [] σ (si_ σ 1685 y 0) := ⟨mr_si h (j := 85) (by decide) 0, by rw [fi_si, up2_s]; rfl, fun j hj => absurd hj (Nat.not_lt_zero j), fqi (fq_rf h.1.1.1) trivial, ⟨rfl, rfl⟩, fun j hj => by
    have h0 := (hjd j hj).1
    rw [fi_si, up2_c (by omega)]⟩
  have key : ∃ r, f_X15_week_b26 fu_ (si_ σ 1685 y 0) y (nI w) (nI 0) = some r ∧ ∃ τ W, r = (zI (pk_ (wkg_ A N L) (wkh_ A N L) (fun _ => -1) (fun _ => true) 0 (H : Int) L.length 0 (0, 0, 0) (0, -1, (H : Int) + 1)).2.1, tr_ (si_ τ 1687 y (zI (pk_ (wkg_ A N L) (wkh_ A N L) (fun _ => -1) (fun _ => true) 0 (H : Int) L.length 0 (0, 0, 0) (0, -1, (H : Int) + 1)).2.2)) y 0) ∧ mr_ τ y G (wB_ A W) (wM_ N (se9l_ (pk_ (wkg_ A N L) (wkh_ A N L) (fun _ => -1) (fun _ => true) 0 (H : Int) L.length 0 (0, 0, 0) (0, -1, (H : Int) + 1)).1 L L.length).length) ∧ (∀ j, j < (se9l_ (pk_ (wkg_ A N L) (wkh_ A N L) (fun _ => -1) (fun _ => true) 0 (H : Int) L.length 0 (0, 0, 0) (0, -1, (H : Int) + 1)).1 L L.length).length → W j = nI ((se9l_ (pk_ (wkg_ A N L) (wkh_ A N L) (fun _ => -1) (fun _ => true) 0 (H : Int) L.length 0 (0, 0, 0) (0, -1, (H : Int) + 1)).1 L L.length).getD j 0)) ∧ fq_ (fun _ => True) σ τ ∧ (nx_ τ = nx_ σ ∧ sl_ τ = sl_ σ) ∧ ∀ j, j ∈ DS → fi_ τ (1600 + j) y = fi_ σ (1600 + j) y := by
    refine lpe_ (F := fun f (s : TH) k => f_X15_week_b26 f s y (nI w) k) (N 5) (fun i τ => ri8_ y G A N (fl9_ (wkR_ A N (nI w)) i) σ τ) (fun r => ∃ τ W, r = (zI (pk_ (wkg_ A N L) (wkh_ A N L) (fun _ => -1) (fun _ => true) 0 (H : Int) L.length 0 (0, 0, 0) (0, -1, (H : Int) + 1)).2.1, tr_ (si_ τ 1687 y (zI (pk_ (wkg_ A N L) (wkh_ A N L) (fun _ => -1) (fun _ => true) 0 (H : Int) L.length 0 (0, 0, 0) (0, -1, (H : Int) + 1)).2.2)) y 0) ∧ mr_ τ y G (wB_ A W) (wM_ N (se9l_ (pk_ (wkg_ A N L) (wkh_ A N L) (fun _ => -1) (fun _ => true) 0 (H : Int) L.length 0 (0, 0, 0) (0, -1, (H : Int) + 1)).1 L L.length).length) ∧ (∀ j, j < (se9l_ (pk_ (wkg_ A N L) (wkh_ A N L) (fun _ => -1) (fun _ => true) 0 (H : Int) L.length 0 (0, 0, 0) (0, -1, (H : Int) + 1)).1 L L.length).length → W j = nI ((se9l_ (pk_ (wkg_ A N L) (wkh_ A N L) (fun _ => -1) (fun _ => true) 0 (H : Int) L.length 0 (0, 0, 0) (0, -1, (H : Int) + 1)).1 L L.length).getD j 0)) ∧ fq_ (fun _ => True) σ τ ∧ (nx_ τ = nx_ σ ∧ sl_ τ = sl_ σ) ∧ ∀ j, j ∈ DS → fi_ τ (1600 + j) y = fi_ σ (1600 + j) y) (fun f i τ hi hI => m_note1 hv.2.1 hN h15 (nI w) hi hI f) (fun f τ hI => ?_) (by omega) (si_ σ 1685 y 0) r0
    rw [← hR] at hI
    obtain ⟨hr, h85, hvv, hf, hn, hd⟩ := hI
    have hy := mo_y hr.1
    have e5 := (mo_n hr.1 (j := 5) (cj := 1605) (m := 30) (by decide)).1
    have p12 : 2 ^ L.length ≤ 2 ^ 12 := Nat.pow_le_pow_right (by decide) hL12
    have p0 : 1 ≤ 2 ^ L.length := Nat.one_le_two_pow
    have sh : (1 : Int32) <<< (nI L.length &&& 31) = nI (2 ^ L.length) := sh14_ L.length (by omega)
    have sc := lpk_ (F := fun f (b : CH) k => f_X15_week_b212 f τ y (nI w) (nI b.1) (zI b.2.1) (zI b.2.2) k) 1 (2 ^ L.length) p0 (fun u => (bu9_ (wkg_ A N L) (wkh_ A N L) (fun _ => -1) (fun _ => true) 0 (H : Int) L.length u)) (r := f_X15_week_b376 fu_ (si_ τ 1686 y 0) y (nI (bu9_ (wkg_ A N L) (wkh_ A N L) (fun _ => -1) (fun _ => true) 0 (H : Int) L.length (2 ^ L.length)).1) (zI (bu9_ (wkg_ A N L) (wkh_ A N L) (fun _ => -1) (fun _ => true) 0 (H : Int) L.length (2 ^ L.length)).2.1) (zI (bu9_ (wkg_ A N L) (wkh_ A N L) (fun _ => -1) (fun _ => true) 0 (H : Int) L.length (2 ^ L.length)).2.2) 0) (fun f u h1 h2 => ?_) (fun f => ?_) (by omega)
    · -- the end
      have sc : f_X15_week_b212 fu_ τ y (nI w) 0 0 0 1 = _ := sc
      rw [scan] at sc
      generalize (pk_ (wkg_ A N L) (wkh_ A N L) (fun _ => -1) (fun _ => true) 0 (H : Int) L.length 0 (0, 0, 0) (0, -1, (H : Int) + 1)) = PK at sc ⊢
      have h' : mr_ τ y G (wB_ A (aV A 84)) (wM_ N (N 86)) := by rw [wB_self, wM_self]; exact hr
      have k0 : kp8_ y G A N L (se9l_ PK.1 L 0) σ (si_ τ 1686 y 0) := ⟨⟨aV A 84, mr_w86 (n2 := 0) h' (by decide), fun j hj => absurd hj (Nat.not_lt_zero j)⟩, ⟨by rw [fi_si, up2_c (by decide)]; exact h85, hvv⟩, fqi hf trivial, hn, fun j hj => by
        have h0 := (hjd j hj).2
        rw [fi_si, up2_c (by omega)]
        exact hd j hj⟩
      have kk : ∃ r, f_X15_week_b376 fu_ (si_ τ 1686 y 0) y (nI PK.1) (zI PK.2.1) (zI PK.2.2) (nI 0) = some r ∧ ∃ τ2, r = (zI PK.2.1, tr_ (si_ τ2 1687 y (zI PK.2.2)) y 0) ∧ kp8_ y G A N L (se9l_ PK.1 L L.length) σ τ2 := by
        refine lpe_ (F := fun f (s : TH) k => f_X15_week_b376 f s y (nI PK.1) (zI PK.2.1) (zI PK.2.2) k) L.length (fun i τ => kp8_ y G A N L (se9l_ PK.1 L i) σ τ) (fun r => ∃ τ2, r = (zI PK.2.1, tr_ (si_ τ2 1687 y (zI PK.2.2)) y 0) ∧ kp8_ y G A N L (se9l_ PK.1 L L.length) σ τ2) (fun f i τ hi hI => m_keep1 hL12 hi hI f) (fun f τ2 hI => ?_) (by omega) _ k0
        obtain ⟨⟨W, g1, g2⟩, ⟨g3, g4⟩, g5⟩ := id hI
        have hy2 : kd_ (si_ τ2 1687 y (zI PK.2.2)) y = 17 := show kd_ τ2 y = 17 from mo_y g1.1
        refine ⟨(zI PK.2.1, tr_ (si_ τ2 1687 y (zI PK.2.2)) y 0), ?_, τ2, rfl, hI⟩
        show f_X15_week_b376 (f + 1) τ2 y (nI PK.1) (zI PK.2.1) (zI PK.2.2) (nI L.length) = _
        rw [f_X15_week_b376, gt_t (mo_y g1.1), lt_e, g3, if_pos (Int32.le_refl _), lt_e, m_done hy2, bd_s]
      obtain ⟨_, ek, τ2, rfl, ⟨W, g1, g2⟩, ⟨g3, g4⟩, g5, g6, g7⟩ := kk
      refine ⟨_, ?_, τ2, W, rfl, g1, g2, g5, g6, g7⟩
      show f_X15_week_b26 (f + 1) τ y (nI w) (nI (N 5)) = _
      rw [f_X15_week_b26, gt_t hy, lt_e, e5, if_pos (Int32.le_refl _)]
      exact sc.trans ek
    · show f_X15_week_b212 (f + 1) τ y (nI w) (nI (bu9_ (wkg_ A N L) (wkh_ A N L) (fun _ => -1) (fun _ => true) 0 (H : Int) L.length u).1) (zI (bu9_ (wkg_ A N L) (wkh_ A N L) (fun _ => -1) (fun _ => true) 0 (H : Int) L.length u).2.1) (zI (bu9_ (wkg_ A N L) (wkh_ A N L) (fun _ => -1) (fun _ => true) 0 (H : Int) L.length u).2.2) (nI u) = f_X15_week_b212 f τ y (nI w) (nI (bu9_ (wkg_ A N L) (wkh_ A N L) (fun _ => -1) (fun _ => true) 0 (H : Int) L.length (u + 1)).1) (zI (bu9_ (wkg_ A N L) (wkh_ A N L) (fun _ => -1) (fun _ => true) 0 (H : Int) L.length (u + 1)).2.1) (zI (bu9_ (wkg_ A N L) (wkh_ A N L) (fun _ => -1) (fun _ => true) 0 (H : Int) L.length (u + 1)).2.2) (nI (u + 1))
      have e : (bu9_ (wkg_ A N L) (wkh_ A N L) (fun _ => -1) (fun _ => true) 0 (H : Int) L.length (u + 1)) = f9_ (H : Int) (bu9_ (wkg_ A N L) (wkh_ A N L) (fun _ => -1) (fun _ => true) 0 (H : Int) L.length u) (pa_ (wkg_ A N L) (wkh_ A N L) 0 u L.length 0 (0, 0, 0)) := by
        show (if (decide (0 < u) && fe9_ (fun _ => -1) (fun _ => true) u L.length) = true then f9_ (H : Int) (bu9_ (wkg_ A N L) (wkh_ A N L) (fun _ => -1) (fun _ => true) 0 (H : Int) L.length u) (pa_ (wkg_ A N L) (wkh_ A N L) 0 u L.length 0 (0, 0, 0)) else (bu9_ (wkg_ A N L) (wkh_ A N L) (fun _ => -1) (fun _ => true) 0 (H : Int) L.length u)) = _
        rw [fe9_all, decide_eq_true (show 0 < u by omega)]
        rfl
      have hbe : be9_ (bu9_ (wkg_ A N L) (wkh_ A N L) (fun _ => -1) (fun _ => true) 0 (H : Int) L.length u) := bu9_be0 (lim := (H : Int)) (n := L.length) (by omega) hg' hc' u (by omega)
      have hpa : be9_ (pa_ (wkg_ A N L) (wkh_ A N L) 0 u L.length 0 (0, 0, 0)) := pa_be0 (n := L.length) (by omega) hg' hc' h2
      have we := m_weigh hr hv.2.1 hN hN4 h15 hL12 hm h85 hvv hw hH hH6 (f_X15_week_b212 f) h2 hbe hpa
      rw [e, f_X15_week_b212, gt_t hy, lt_e, h85, sh, if_neg (nI_ge h2 (by omega))]
      exact we
    · show f_X15_week_b212 (f + 1) τ y (nI w) (nI (bu9_ (wkg_ A N L) (wkh_ A N L) (fun _ => -1) (fun _ => true) 0 (H : Int) L.length (2 ^ L.length)).1) (zI (bu9_ (wkg_ A N L) (wkh_ A N L) (fun _ => -1) (fun _ => true) 0 (H : Int) L.length (2 ^ L.length)).2.1) (zI (bu9_ (wkg_ A N L) (wkh_ A N L) (fun _ => -1) (fun _ => true) 0 (H : Int) L.length (2 ^ L.length)).2.2) (nI (2 ^ L.length)) = _
      rw [f_X15_week_b212, gt_t hy, lt_e, h85, sh, if_pos (nI_le (Nat.le_refl _) (by omega)), lt_e]
  obtain ⟨_, e, τ, W, rfl, q⟩ := key
  exact ⟨τ, W, e, q⟩
end MWK
section OKW
variable {ka : Nat → Nat} {x y o N0 : Nat}
theorem rc_wW {TX : Nat → Nat → (Nat → Int32) → Nat → (Nat → Int32) → Prop} {τ : TH} {G : GH} {A : AS} {N : Nat → Nat} {W W2 : Nat → Int32} {n : Nat} (h : rc_ ka TX τ x G (wB_ A W) (wM_ N n)) (he : ∀ j, j < n → W2 j = W j) : rc_ ka TX τ x G (wB_ A W2) (wM_ N n) := by
  refine rc_gen2 h (fq_rf (T := fun _ => False) h.1.1) h.1 h.2.2.1 [8, 58] (fun r _ => ⟨rfl, fun _ => rfl⟩) h.2.1.1 (fun q hq => hq.elim) (fun r i m hr h9 => ob_w8b W _ n _ hr h9) (fun r i hr hi => ?_)
  simp only [List.mem_cons, List.not_mem_nil, or_false] at hr
  rcases hr with rfl | rfl
  · obtain ⟨q0, q1, q2⟩ := h.2.2.2 8 i hi
    exact ⟨q0, q1, q2⟩
  · obtain ⟨q0, q1, q2, q3⟩ := h.2.2.2 58 i hi
    refine ⟨q0, q1, q2, fun j hj => ?_⟩
    have hj : j < n := hj
    have e : aV (wB_ A W2) 84 j = aV (wB_ A W) 84 j := he j hj
    rw [e]
    exact q3 j hj
theorem pv_wB {A : AS} {N : Nat → Nat} {W : Nat → Int32} {n : Nat} {S : Nat → Int32} (h : pv_ A N) (he : ∀ j, j < n → ∃ p, p < N 5 ∧ W j = nI p) : pv_ (S, (wB_ A W).2) (wM_ N n) := by
  obtain ⟨h1, h2, h3, h4, h5, h6, h7, d1, d2, d3, d4, d5, d6⟩ := h
  exact ⟨h1, h2, h3, h4, h5, h6, ⟨he, h7.2⟩, d1, d2, d3, d4, d5, d6⟩
theorem ok_week : St_week ka x y (inv_ ka TXp_ pv_ x y o N0) := fun n c m a0 hn hI => by
  obtain ⟨GC, GM, N, k1, k2, k3, k4, k5, k6, k7, k8⟩ := id hI
  have hN := (mo_n k1 (j := 5) (cj := 1605) (m := 30) (by decide)).2
  have hN4 := (mo_n k1 (j := 4) (cj := 1604) (m := 6) (by decide)).2
  have hN86 := (mo_n k1 (j := 86) (cj := 1686) (m := 12) (by decide)).2
  obtain ⟨e6, hN6⟩ := mo_n k1 (j := 6) (cj := 1606) (m := 5257439) (by decide)
  have hx := rc_x k2
  have hno : ∀ z : f_X11_week ka c x a0 = some (-1, si_ c 1214 x 1) ∧ ∀ s, mr_ s y GM (as_ m y GM) N → f_X15_isLiving s y a0 = some (0, s), ∃ (r : Int32) (c1 m1 : TH), f_X11_week ka c x a0 = some (r, c1) ∧ f_X15_week (bm_ m c1) y a0 = some (r, m1) ∧ wf_ c1 ∧ wf_ m1 ∧ inv_ ka TXp_ pv_ x y o N0 (n + 1) (bm_ c1 m1) m1 := fun z => by
    have h1 := mr_si (mr_bm (z := si_ c 1214 x 1) (mr_of k1) (Nat.le_of_eq k5.1)) (j := 0) (c := 1600) (by decide) 0
    refine ⟨-1, si_ c 1214 x 1, tr_ (si_ (bm_ m (si_ c 1214 x 1)) 1600 y 0) y 1, z.1, ?_, no_ pv_S hI 1 (by decide)⟩
    unfold f_X15_week
    rw [gt_t (show kd_ (bm_ m (si_ c 1214 x 1)) y = 17 from mo_yb k1), lt_e, z.2 _ h1, bd_s, if_pos rfl, m_refused (mo_y h1.1), bd_s]
  rcases rg_ a0 (n := N 4) (by omega) with ⟨w, hw, rfl⟩ | hout
  · obtain ⟨lw, l2, l3⟩ := k_living1 k2 hN4 hw
    by_cases z : aV (as_ m y GM) 14 w = 0
    · obtain ⟨A, hA⟩ : ∃ A, A = as_ m y GM := ⟨_, rfl⟩
      rw [← hA] at k2 k3 z
      have mrA : mr_ m y GM A N := by rw [hA]; exact mr_of k1
      have e6' : aS A 6 = nI (N 6) := by rw [hA]; exact e6
      have h15 : ∀ p, p < N 5 → aV A 15 p = bi_ (0 ≤ aV A 12 p) := fun p hp => (k_per k2 hp).2.2.2.2
      obtain ⟨H, hH6, hH⟩ : ∃ H, H ≤ 60 ∧ aV A 7 w = nI H := by
        have q := k3.2.2.2.2.2.2.1.2 w hw
        rcases rg_ (aV A 7 w) (n := 61) (by decide) with ⟨l, hl, e⟩ | q2 | q2
        · exact ⟨l, by omega, e⟩
        · exact absurd q.1 (Int32.not_le.mpr q2)
        · exact absurd (Int32.le_trans q2 q.2) (by decide)
      obtain ⟨L, hL⟩ : ∃ L, L = top9_ (wkG_ A N) (fl9_ (wkQ_ A N (nI w)) (N 5)) := ⟨_, rfl⟩
      have hL12 : L.length ≤ 12 := by rw [hL]; exact top9_len (fl9_up _ _)
      obtain ⟨τ, G2, c1, c2, c3, c4⟩ := k_week k2 k3 hN e6' hN6 hN4 hN86 hw z hH hH6 L hL hL12
      have nT : nx_ m ≤ nx_ (si_ τ 1214 x 0) := Nat.le_trans (Nat.le_of_eq k5.1) c3.1.1
      have hb0 := mr_bm (z := si_ τ 1214 x 0) mrA nT
      have hb1 := mr_si hb0 (j := 0) (c := 1600) (by decide) 0
      obtain ⟨μ, W, d1, d2, d3, d4, d5, d6⟩ := m_week hb1 k3 hN hN4 h15 hw hH hH6 L hL hL12
      generalize (pk_ (wkg_ A N L) (wkh_ A N L) (fun _ => -1) (fun _ => true) 0 (H : Int) L.length 0 (0, 0, 0) (0, -1, (H : Int) + 1)) = PK at c1 c2 d1 d2 d3
      have rc3 := rc_wW c2 d3
      have rc4 := rc_tr rc3 (s3_ (fun q => if q = 87 then zI PK.2.2 else aS A q) 0) 0 (by decide) rfl rfl (by
        have hj0 : ∀ j, j ∈ ([17, 47, 6, 42, 56, 57, 87, 30, 3] : List Nat) → j ≠ 0 ∧ j ≠ 1 ∧ j ≠ 2 := by decide
        intro j hj
        obtain ⟨h0, h1, h2⟩ := hj0 j hj
        unfold s3_
        rw [if_neg h2, if_neg h1, if_neg h0]
        rfl)
      have hm5 : ∀ p, p ∈ L → p < N 5 := fun p hp => by
        rw [hL, top9_fl] at hp
        exact (fl9_mem.mp hp).1
      have hyM : kd_ μ y = 17 := mo_y d2.1
      refine ⟨zI PK.2.1, si_ τ 1214 x 0, tr_ (si_ μ 1687 y (zI PK.2.2)) y 0, c1, ?_, inv_fin hI (T := fun _ => True) (fqi c3 trivial) ⟨by show nx_ τ ≤ _; omega, by show sl_ τ ≤ _; omega⟩ (U := fun _ => True) ?_ ⟨?_, ?_⟩ (mr_S (mr_tr (mr_si d2 (j := 87) (c := 1687) (by decide) (zI PK.2.2)) 0) _) (fun j hj => ?_) rc4 ?_⟩
      · have li := m_isLiving1 hb1.1 hw
        rw [mr_V hb1 (j := 14) (by decide) w, z, bi_t rfl] at li
        unfold f_X15_week
        rw [gt_t (mo_y hb0.1), lt_e, li, bd_s, if_neg (by decide), lt_e]
        exact d1
      · exact fqt (fqi (fq_tr (fq_si hb0.1.1.1 trivial) d4) trivial) trivial
      · show nx_ μ ≤ nx_ τ + 400
        rw [d5.1]
        exact Nat.le_add_right _ _
      · show sl_ μ ≤ sl_ τ + 6000
        rw [d5.2]
        exact Nat.le_add_right _ _
      · have hj0 : ∀ j, j ∈ DS → j ≠ 0 := by decide
        have h0 := hj0 j hj
        show _ = s3_ (fun q => if q = 87 then zI PK.2.2 else aS A q) 0 j
        unfold s3_ tr_
        rw [fi_si]
        by_cases z2 : j = 2
        · subst z2; exact up2_s
        · rw [if_neg z2, up2_c (by omega), fi_si]
          by_cases z1 : j = 1
          · subst z1; exact up2_s
          · rw [if_neg z1, if_neg h0, up2_c (by omega), fi_si]
            by_cases z87 : j = 87
            · subst z87; exact up2_s
            · dsimp only
              rw [if_neg z87, up2_c (by omega), d6 j hj, fi_si, up2_c (by omega), hA]
              rfl
      · refine pv_wB k3 (fun j hj => ?_)
        refine ⟨_, hm5 _ (se9l_mem (Nat.le_refl _) (gdm_ hj)), d3 j hj⟩
    · refine hno ⟨?_, fun s hs => ?_⟩
      · rw [if_neg z] at lw
        unfold f_X11_week
        rw [gt_t hx, lw, bd_s, oc_n, k_refused hx, bd_s]
      · have li := m_isLiving1 hs.1 hw
        rw [mr_V hs (j := 14) (by decide) w, bi_f z] at li
        exact li
  · refine hno ⟨?_, fun s hs => m_isLiving0 hs.1 hout⟩
    unfold f_X11_week
    rw [gt_t hx, k_living0 k2 hN4 hout, bd_s, oc_n, k_refused hx, bd_s]
end OKW
