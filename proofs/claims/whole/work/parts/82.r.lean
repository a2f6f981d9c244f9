/-! THE REFERENCE READS: the next token. Written by wip/b/mk82.py. -/
def pk9x_ (w : Nat → Nat) (p : Nat) : Nat → Nat
  | 0 => 0
  | n + 1 => 32 * pk9x_ w p n + (w (p + n) - 96)
def wd9_ (τ : TH) (y : Nat) (w : Nat → Nat) (v : Nat) : Prop := ∃ p q, p < q ∧ q ≤ p + 8 ∧ (∀ i, p ≤ i → i < q → tL (w i) = true) ∧ fl_ τ 1646 y = lN (pk9x_ w p (q - p)) ∧ fi_ τ 1637 y = (if tD (w q) = true then nI (w q - 48) else -1) ∧ v = wv9_ w p q
/-- the token that stands in the reference's fields -/
def tv9_ (τ : TH) (y : Nat) (w : Nat → Nat) (z : TK) : Prop := fi_ τ 1634 y = nI z.2.2.1 ∧ fi_ τ 1632 y = nI z.2.2.2 ∧ ((z.1 = 0 ∧ fi_ τ 1633 y = 0) ∨ (z.1 = 1 ∧ fi_ τ 1633 y = 1) ∨ (z.1 = 2 ∧ fi_ τ 1633 y = 3 ∧ fi_ τ 1636 y = nI z.2.1) ∨ (z.1 = 3 ∧ fi_ τ 1633 y = 4 ∧ fi_ τ 1635 y = nI z.2.1) ∨ (z.1 = 4 ∧ fi_ τ 1633 y = 2 ∧ wd9_ τ y w z.2.1))
/-- what next() leaves alone -/
def kp9_ (G : GH) (y : Nat) (τ τ1 : TH) : Prop := (fi_ τ1 1638 y = fi_ τ 1638 y ∧ fi_ τ1 1639 y = fi_ τ 1639 y ∧ fi_ τ1 1640 y = fi_ τ 1640 y ∧ fi_ τ1 1641 y = fi_ τ 1641 y) ∧ ai_ τ1 (ga_ G 27 0) = ai_ τ (ga_ G 27 0)
theorem kp_rf (G : GH) (y : Nat) (τ : TH) : kp9_ G y τ τ := ⟨⟨rfl, rfl, rfl, rfl⟩, rfl⟩
theorem kp_tr {G : GH} {y : Nat} {a b c : TH} (h : kp9_ G y a b) (k : kp9_ G y b c) : kp9_ G y a c := ⟨⟨k.1.1.trans h.1.1, k.1.2.1.trans h.1.2.1, k.1.2.2.1.trans h.1.2.2.1, k.1.2.2.2.trans h.1.2.2.2⟩, k.2.trans h.2⟩
theorem kp_si {G : GH} {y c : Nat} {τ σ : TH} {v : Int32} (h : kp9_ G y σ τ) (hc : c < 1638) : kp9_ G y σ (si_ τ c y v) := by
  refine ⟨⟨?_, ?_, ?_, ?_⟩, h.2⟩
  · rw [fi_si, up2_c (by omega)]; exact h.1.1
  · rw [fi_si, up2_c (by omega)]; exact h.1.2.1
  · rw [fi_si, up2_c (by omega)]; exact h.1.2.2.1
  · rw [fi_si, up2_c (by omega)]; exact h.1.2.2.2
theorem pk9x_lt {w : Nat → Nat} {p : Nat} : ∀ {n : Nat}, (∀ i, p ≤ i → i < p + n → tL (w i) = true) → pk9x_ w p n < 32 ^ n
  | 0, _ => by show 0 < 1; decide
  | n + 1, h => by
    have h1 := pk9x_lt (w := w) (p := p) (n := n) (fun i h1 h2 => h i h1 (by omega))
    have h2 := h (p + n) (by omega) (by omega)
    have h3 : 97 ≤ w (p + n) ∧ w (p + n) ≤ 122 := by simpa [tL] using h2
    unfold pk9x_
    rw [Nat.pow_succ]
    omega
theorem nv9_lt {w : Nat → Nat} {p : Nat} : ∀ {n : Nat}, (∀ i, p ≤ i → i < p + n → tD (w i) = true) → nv9_ w p n < 10 ^ min n 4
  | 0, _ => by show 0 < 1; decide
  | n + 1, h => by
    have h1 := nv9_lt (w := w) (p := p) (n := n) (fun i h1 h2 => h i h1 (by omega))
    have h2 := h (p + n) (by omega) (by omega)
    have h3 : 48 ≤ w (p + n) ∧ w (p + n) ≤ 57 := by simpa [tD] using h2
    unfold nv9_
    by_cases z : n < 4
    · rw [if_pos z, Nat.min_eq_left (by omega), Nat.pow_succ]
      rw [Nat.min_eq_left (by omega)] at h1
      omega
    · rw [if_neg z, Nat.min_eq_right (by omega)]
      rw [Nat.min_eq_right (by omega)] at h1
      exact h1
section NX
variable {σ τ : TH} {y : Nat} {G : GH} {A : AS} {N : Nat → Nat} {t n p : Nat} {w : Nat → Nat} {ru : Int32}
/-- a word -/
theorem m_word (h : rs_ σ y G A N t n p w ru τ) {s : Nat} (hs : s < n) (hl : tL (w s) = true) (e32 : fi_ τ 1632 y = nI s) (e33 : fi_ τ 1633 y = 0) (e34 : fi_ τ 1634 y = nI s) (e46 : fl_ τ 1646 y = 0) : ∃ r, f_X15_next_b80 fu_ τ y (nI 0) = some r ∧ rs_ σ y G A N t n p w ru r.2 ∧ tv9_ r.2 y w (tkp_ w s) ∧ kp9_ G y τ r.2 := by
  have hw := h.2.2.2.2.1.2.1
  have hn4 := h.2.2.2.2.1.2.2
  have hok := rs_ok h
  obtain ⟨q, hq⟩ : ∃ q, q = en9_ tL w 500 s := ⟨_, rfl⟩
  have hqe : tL (w q) = false := by rw [hq]; exact en9_end rfl hw (by omega)
  have hqi : ∀ i, s ≤ i → i < q → tL (w i) = true := fun i h1 h2 => en9_in h1 (by rw [← hq]; exact h2)
  have hqn : q ≤ n := by rw [hq]; exact en9_le rfl hw (by omega)
  have hsq : s < q := by
    have h1 := en9_ge tL w 500 s
    rw [← hq] at h1
    rcases Nat.eq_or_lt_of_le h1 with z | z
    · rw [← z, hl] at hqe; cases hqe
    · exact z
  have etk : tkp_ w s = ((if q - s ≤ 8 then 4 else 0), wv9_ w s q, s, (if tD (w q) = true then q + 1 else q)) := by
    unfold tkp_
    have h999 : ¬ w s = 999 := fun z => by rw [z] at hl; exact absurd hl (by decide)
    rw [if_neg h999, if_pos hl, ← hq]
  refine lpe_ (F := fun f (a : TH) i => f_X15_next_b80 f a y i) (q - s) (fun i a => rs_ σ y G A N t n p w ru a ∧ fi_ a 1632 y = nI (s + i) ∧ fi_ a 1633 y = 0 ∧ fi_ a 1634 y = nI s ∧ fl_ a 1646 y = lN (pk9x_ w s (min i 8)) ∧ kp9_ G y τ a) (fun r => rs_ σ y G A N t n p w ru r.2 ∧ tv9_ r.2 y w (tkp_ w s) ∧ kp9_ G y τ r.2) (fun f i a hi ha => ?_) (fun f a ha => ?_) (by omega) τ ⟨h, e32, e33, e34, by rw [e46]; rfl, kp_rf _ _ _⟩
  · obtain ⟨a1, a2, a3, a4, a5, a6⟩ := ha
    have hy := rs_y a1
    have hb := m_byte a1 (a := s + i) (by omega)
    have hli := hqi (s + i) (by omega) (by omega)
    have hlt := m_let a (hok (s + i))
    rw [bi_t hli] at hlt
    have h3 : 97 ≤ w (s + i) ∧ w (s + i) ≤ 122 := by simpa [tL] using hli
    have ecb : cb9_ (w (s + i)) = nI (w (s + i)) := if_neg (by omega)
    rw [ecb] at hb hlt
    have s1 := rs_si a1 (j := 32) (c := 1632) (by decide) rfl (nI (s + i + 1))
    by_cases z8 : 8 ≤ i
    · have y8 : (8 : Int32) ≤ nI i := nI_le (a := 8) z8 (by omega)
      refine ⟨si_ a 1632 y (nI (s + i + 1)), ?_, s1, by rw [fi_si, up2_s]; rfl, by rw [fi_si, up2_c (by decide)]; exact a3, by rw [fi_si, up2_c (by decide)]; exact a4, ?_, kp_si a6 (by decide)⟩
      · simp [f_X15_next_b80, f_X15_next_b127, gt_, lt_, nn_, oc_, bd_, hy, a2, hb, hlt, y8, nI_1]
      · show fl_ a 1646 y = _
        rw [a5, Nat.min_eq_right z8, Nat.min_eq_right (by omega)]
    · have y8 : ¬ (8 : Int32) ≤ nI i := nI_ge (b := 8) (by omega) (by decide)
      have hp : pk9x_ w s i < 32 ^ i := pk9x_lt (fun j h1 h2 => hqi j h1 (by omega))
      have hpw : 32 ^ i ≤ 32 ^ 7 := Nat.pow_le_pow_right (by decide) (by omega)
      have hlong : (32 : Int64) * lN (pk9x_ w s i) + Int32.toInt64 (nI (w (s + i)) - 97 + 1) = lN (pk9x_ w s (i + 1)) := by
        have e1 : nI (w (s + i)) - 97 + 1 = nI (w (s + i) - 96) := by
          rw [show (97 : Int32) = nI 97 from rfl, pk_sub h3.1, nI_1]
          congr 1
          omega
        rw [e1, nI_l (by omega)]
        show lN 32 * lN (pk9x_ w s i) + lN (w (s + i) - 96) = lN (32 * pk9x_ w s i + (w (s + i) - 96))
        unfold lN
        rw [← Int64.ofNat_mul, ← Int64.ofNat_add]
      rw [Nat.min_eq_left (by omega)] at a5
      have s2 := rs_si (rs_so a1 (lN (pk9x_ w s (i + 1)))) (j := 32) (c := 1632) (by decide) rfl (nI (s + i + 1))
      refine ⟨si_ (so_ a 1646 y (lN (pk9x_ w s (i + 1)))) 1632 y (nI (s + i + 1)), ?_, s2, by rw [fi_si, up2_s]; rfl, by rw [fi_si, up2_c (by decide)]; exact a3, by rw [fi_si, up2_c (by decide)]; exact a4, ?_, kp_si (τ := so_ a 1646 y (lN (pk9x_ w s (i + 1)))) a6 (by decide)⟩
      · simp [f_X15_next_b80, f_X15_next_b127, gt_, lt_, nn_, oc_, bd_, kd_si, ln_si, fi_si, fr_si, fl_si, ai_si, ar_si, al_si, ow_si, nx_si, sl_si, kd_sr, ln_sr, fi_sr, fr_sr, fl_sr, ai_sr, ar_sr, al_sr, ow_sr, nx_sr, sl_sr, kd_so, ln_so, fi_so, fr_so, fl_so, ai_so, ar_so, al_so, ow_so, nx_so, sl_so, kd_sa, ln_sa, fi_sa, fr_sa, fl_sa, ai_sa, ar_sa, al_sa, ow_sa, nx_sa, sl_sa, kd_sq, ln_sq, fi_sq, fr_sq, fl_sq, ai_sq, ar_sq, al_sq, ow_sq, nx_sq, sl_sq, kd_sj, ln_sj, fi_sj, fr_sj, fl_sj, ai_sj, ar_sj, al_sj, ow_sj, nx_sj, sl_sj, hy, a2, hb, hlt, y8, a5, hlong, nI_1]
      · show up2_ (fl_ a) 1646 y (lN (pk9x_ w s (i + 1))) 1646 y = _
        rw [up2_s, Nat.min_eq_left (by omega)]
  · obtain ⟨a1, a2, a3, a4, a5, a6⟩ := ha
    have esq : s + (q - s) = q := by omega
    rw [esq] at a2
    have hy := rs_y a1
    have hb := m_byte a1 (a := q) (by omega)
    have hlt := m_let a (hok q)
    rw [bi_f (by rw [hqe]; decide)] at hlt
    have s1 := rs_si a1 (j := 37) (c := 1637) (by decide) rfl (-1)
    have hb1 := m_byte s1 (a := q) (by omega)
    have hd1 := m_dig (si_ a 1637 y (-1)) (hok q)
    have a2' : fi_ (si_ a 1637 y (-1)) 1632 y = nI q := by rw [fi_si, up2_c (by decide)]; exact a2
    have hword : ∀ (b : TH), fl_ b 1646 y = fl_ a 1646 y → q - s ≤ 8 → fi_ b 1637 y = (if tD (w q) = true then nI (w q - 48) else -1) → wd9_ b y w (wv9_ w s q) := fun b e1 e2 e3 => ⟨s, q, hsq, by omega, hqi, by rw [e1, a5, Nat.min_eq_left e2], e3, rfl⟩
    by_cases zd : tD (w q) = true
    · rw [bi_t zd] at hd1
      have h3 : 48 ≤ w q ∧ w q ≤ 57 := by simpa [tD] using zd
      have ecb : cb9_ (w q) = nI (w q) := if_neg (by omega)
      rw [ecb] at hb hlt hb1 hd1
      have edg : nI (w q) - 48 = nI (w q - 48) := pk_sub (b := 48) h3.1
      have s2 := rs_si (rs_si s1 (j := 37) (c := 1637) (by decide) rfl (nI (w q - 48))) (j := 32) (c := 1632) (by decide) rfl (nI (q + 1))
      have e9 : f_X15_next_b80 (f + 1) a y (nI (q - s)) = f_X15_next_b187 (si_ (si_ (si_ a 1637 y (-1)) 1637 y (nI (w q - 48))) 1632 y (nI (q + 1))) y (nI (q - s)) := by
        simp [f_X15_next_b80, gt_, lt_, nn_, oc_, bd_, kd_si, ln_si, fi_si, fr_si, fl_si, ai_si, ar_si, al_si, ow_si, nx_si, sl_si, kd_sr, ln_sr, fi_sr, fr_sr, fl_sr, ai_sr, ar_sr, al_sr, ow_sr, nx_sr, sl_sr, kd_so, ln_so, fi_so, fr_so, fl_so, ai_so, ar_so, al_so, ow_so, nx_so, sl_so, kd_sa, ln_sa, fi_sa, fr_sa, fl_sa, ai_sa, ar_sa, al_sa, ow_sa, nx_sa, sl_sa, kd_sq, ln_sq, fi_sq, fr_sq, fl_sq, ai_sq, ar_sq, al_sq, ow_sq, nx_sq, sl_sq, kd_sj, ln_sj, fi_sj, fr_sj, fl_sj, ai_sj, ar_sj, al_sj, ow_sj, nx_sj, sl_sj, up2_e, hy, a2, a2', hb, hlt, hb1, hd1, edg, nI_1]
      (try dsimp only)
      rw [e9, etk]
      have hy2 : kd_ (si_ (si_ (si_ a 1637 y (-1)) 1637 y (nI (w q - 48))) 1632 y (nI (q + 1))) y = 17 := hy
      have f37 : fi_ (si_ (si_ (si_ a 1637 y (-1)) 1637 y (nI (w q - 48))) 1632 y (nI (q + 1))) 1637 y = nI (w q - 48) := by rw [fi_si, up2_c (by decide), fi_si, up2_s]
      have f32 : fi_ (si_ (si_ (si_ a 1637 y (-1)) 1637 y (nI (w q - 48))) 1632 y (nI (q + 1))) 1632 y = nI (q + 1) := by rw [fi_si, up2_s]
      have f33 : fi_ (si_ (si_ (si_ a 1637 y (-1)) 1637 y (nI (w q - 48))) 1632 y (nI (q + 1))) 1633 y = 0 := by rw [fi_si, up2_c (by decide), fi_si, up2_c (by decide), fi_si, up2_c (by decide)]; exact a3
      have f34 : fi_ (si_ (si_ (si_ a 1637 y (-1)) 1637 y (nI (w q - 48))) 1632 y (nI (q + 1))) 1634 y = nI s := by rw [fi_si, up2_c (by decide), fi_si, up2_c (by decide), fi_si, up2_c (by decide)]; exact a4
      have k9 : kp9_ G y τ (si_ (si_ (si_ a 1637 y (-1)) 1637 y (nI (w q - 48))) 1632 y (nI (q + 1))) := kp_si (kp_si (kp_si a6 (by decide)) (by decide)) (by decide)
      have fl9 : fl_ (si_ (si_ (si_ a 1637 y (-1)) 1637 y (nI (w q - 48))) 1632 y (nI (q + 1))) 1646 y = fl_ a 1646 y := rfl
      generalize si_ (si_ (si_ a 1637 y (-1)) 1637 y (nI (w q - 48))) 1632 y (nI (q + 1)) = b at s2 hy2 f37 f32 f33 f34 k9 fl9 ⊢
      unfold f_X15_next_b187
      by_cases z8 : q - s ≤ 8
      · have y8 : ¬ (8 : Int32) < nI (q - s) := nI_nlt (a := 8) z8 (by decide)
        rw [if_neg y8, gt_t hy2, lt_e, if_pos z8, if_pos zd]
        refine ⟨_, rfl, rs_si s2 (j := 33) (by decide) rfl 2, ⟨by rw [fi_si, up2_c (by decide)]; exact f34, by rw [fi_si, up2_c (by decide)]; exact f32, Or.inr (Or.inr (Or.inr (Or.inr ⟨rfl, by rw [fi_si, up2_s], hword _ fl9 z8 ?_⟩)))⟩, kp_si k9 (by decide)⟩
        rw [fi_si, up2_c (by decide), f37, if_pos zd]
      · have y8 : (8 : Int32) < nI (q - s) := nI_lt (a := 8) (by omega) (by omega)
        rw [if_pos y8, if_neg z8, if_pos zd]
        exact ⟨_, rfl, s2, ⟨f34, f32, Or.inl ⟨rfl, f33⟩⟩, k9⟩
    · rw [bi_f zd] at hd1
      have e9 : f_X15_next_b80 (f + 1) a y (nI (q - s)) = f_X15_next_b187 (si_ a 1637 y (-1)) y (nI (q - s)) := by
        simp [f_X15_next_b80, gt_, lt_, nn_, oc_, bd_, hy, a2, a2', hb, hlt, hb1, hd1]
      (try dsimp only)
      rw [e9, etk]
      have hy2 : kd_ (si_ a 1637 y (-1)) y = 17 := hy
      have f37 : fi_ (si_ a 1637 y (-1)) 1637 y = -1 := by rw [fi_si, up2_s]
      have f33 : fi_ (si_ a 1637 y (-1)) 1633 y = 0 := by rw [fi_si, up2_c (by decide)]; exact a3
      have f34 : fi_ (si_ a 1637 y (-1)) 1634 y = nI s := by rw [fi_si, up2_c (by decide)]; exact a4
      have k9 : kp9_ G y τ (si_ a 1637 y (-1)) := kp_si a6 (by decide)
      have fl9 : fl_ (si_ a 1637 y (-1)) 1646 y = fl_ a 1646 y := rfl
      generalize si_ a 1637 y (-1) = b at s1 hy2 f37 a2' f33 f34 k9 fl9 ⊢
      unfold f_X15_next_b187
      by_cases z8 : q - s ≤ 8
      · have y8 : ¬ (8 : Int32) < nI (q - s) := nI_nlt (a := 8) z8 (by decide)
        rw [if_neg y8, gt_t hy2, lt_e, if_pos z8, if_neg zd]
        refine ⟨_, rfl, rs_si s1 (j := 33) (by decide) rfl 2, ⟨by rw [fi_si, up2_c (by decide)]; exact f34, by rw [fi_si, up2_c (by decide)]; exact a2', Or.inr (Or.inr (Or.inr (Or.inr ⟨rfl, by rw [fi_si, up2_s], hword _ fl9 z8 ?_⟩)))⟩, kp_si k9 (by decide)⟩
        rw [fi_si, up2_c (by decide), f37, if_neg zd]
      · have y8 : (8 : Int32) < nI (q - s) := nI_lt (a := 8) (by omega) (by omega)
        rw [if_pos y8, if_neg z8, if_neg zd]
        exact ⟨_, rfl, s1, ⟨f34, a2', Or.inl ⟨rfl, f33⟩⟩, k9⟩
end NX
