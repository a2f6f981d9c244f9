/-! CALLS: the chooser's search. Written by wip/b/mk99zo.py. -/
abbrev zI (z : Int) : Int32 := Int32.ofInt z
theorem zI_t {z : Int} (h1 : -2147483648 ≤ z) (h2 : z < 2147483648) : (zI z).toInt = z := Int32.toInt_ofInt_of_le h1 h2
theorem zI_lt {a b : Int} (h1 : -2147483648 ≤ a) (h2 : a < 2147483648) (h3 : -2147483648 ≤ b) (h4 : b < 2147483648) : zI a < zI b ↔ a < b := by
  rw [Int32.lt_iff_toInt_lt, zI_t h1 h2, zI_t h3 h4]
theorem zI_eq {a b : Int} (h1 : -2147483648 ≤ a) (h2 : a < 2147483648) (h3 : -2147483648 ≤ b) (h4 : b < 2147483648) : zI a = zI b ↔ a = b := by
  rw [← Int32.toInt_inj, zI_t h1 h2, zI_t h3 h4]
theorem zI_add (a b : Int) : zI a + zI b = zI (a + b) := (Int32.ofInt_add a b).symm
theorem zI_m1 : zI (-1) = -1 := by decide
theorem zI_nI (k : Nat) : zI (k : Int) = nI k := rfl
theorem sh14_ : ∀ i, i < 15 → (1 : Int32) <<< (nI i &&& 31) = nI (2 ^ i) := by decide +kernel
theorem or14_ {b i : Nat} (hi : i < 15) : nI b ||| ((1 : Int32) <<< (nI i &&& 31)) = nI (b ||| 2 ^ i) := by
  rw [sh14_ i hi]
  exact nx9_or b (2 ^ i)
theorem bt_nI {b i : Nat} (hi : i < 32) : bt (nI b) i = b.testBit i := by
  unfold bt
  show (BitVec.ofNat 32 b).getLsbD i = b.testBit i
  rw [BitVec.getLsbD_ofNat, decide_eq_true hi, Bool.true_and]
theorem nI_z0 {b : Nat} (hb : b < 2 ^ 31) : nI b = 0 ↔ b = 0 := nI_eq (b := 0) hb (by decide)
/-- the best so far stands in the chooser -/
def ch_ (σ : TH) (a : Nat) (t : CH) : TH := si_ (si_ (si_ σ 108 a (nI t.1)) 109 a (zI t.2.1)) 110 a (zI t.2.2)
theorem ch_f {σ : TH} {a : Nat} {t : CH} {c : Nat} (h : c ≠ 108 ∧ c ≠ 109 ∧ c ≠ 110) : fi_ (ch_ σ a t) c = fi_ σ c := by
  unfold ch_
  rw [fi_si, up2_c h.2.2, fi_si, up2_c h.2.1, fi_si, up2_c h.1]
theorem ch_8 {σ : TH} {a : Nat} {t : CH} : fi_ (ch_ σ a t) 108 a = nI t.1 := by
  unfold ch_
  rw [fi_si, up2_c (by decide), fi_si, up2_c (by decide), fi_si, up2_s]
theorem ch_9 {σ : TH} {a : Nat} {t : CH} : fi_ (ch_ σ a t) 109 a = zI t.2.1 := by
  unfold ch_
  rw [fi_si, up2_c (by decide), fi_si, up2_s]
theorem ch_10 {σ : TH} {a : Nat} {t : CH} : fi_ (ch_ σ a t) 110 a = zI t.2.2 := by
  unfold ch_
  rw [fi_si, up2_s]
theorem ch_ch {σ : TH} {a : Nat} {s t : CH} : ch_ (ch_ σ a s) a t = ch_ σ a t := by
  have e : fi_ (ch_ (ch_ σ a s) a t) = fi_ (ch_ σ a t) := by
    funext c q
    by_cases hq : q = a
    · subst hq
      by_cases h8 : c = 108
      · subst h8; rw [ch_8, ch_8]
      by_cases h9 : c = 109
      · subst h9; rw [ch_9, ch_9]
      by_cases h10 : c = 110
      · subst h10; rw [ch_10, ch_10]
      rw [ch_f ⟨h8, h9, h10⟩, ch_f ⟨h8, h9, h10⟩, ch_f ⟨h8, h9, h10⟩]
    · unfold ch_
      simp only [fi_si]
      rw [up2_ne (fun z => hq z.2), up2_ne (fun z => hq z.2), up2_ne (fun z => hq z.2), up2_ne (fun z => hq z.2), up2_ne (fun z => hq z.2), up2_ne (fun z => hq z.2), up2_ne (fun z => hq z.2), up2_ne (fun z => hq z.2), up2_ne (fun z => hq z.2)]
  show (kd_ σ, ln_ σ, fi_ (ch_ (ch_ σ a s) a t), fr_ σ, fl_ σ, ai_ σ, ar_ σ, al_ σ, ow_ σ, nx_ σ, sl_ σ) = (kd_ σ, ln_ σ, fi_ (ch_ σ a t), fr_ σ, fl_ σ, ai_ σ, ar_ σ, al_ σ, ow_ σ, nx_ σ, sl_ σ)
  rw [e]
/-- what the chooser holds -/
def CZ_ (σ : TH) (a : Nat) (Q : Nat → Nat) (g c ln : Nat → Int) (op : Nat → Bool) (gap lim : Int) (n : Nat) : Prop := (kd_ σ a = 2) ∧ (fr_ σ 100 a = some (Q 0)) ∧ (fr_ σ 101 a = some (Q 1)) ∧ (fr_ σ 102 a = some (Q 2)) ∧ (fr_ σ 103 a = some (Q 3)) ∧ (fr_ σ 104 a = some (Q 4)) ∧ (kd_ σ (Q 0) = 20 ∧ ln_ σ (Q 0) = 14) ∧ (kd_ σ (Q 1) = 20 ∧ ln_ σ (Q 1) = 14) ∧ (kd_ σ (Q 2) = 20 ∧ ln_ σ (Q 2) = 14) ∧ (kd_ σ (Q 3) = 22 ∧ ln_ σ (Q 3) = 14) ∧ (kd_ σ (Q 4) = 20 ∧ ln_ σ (Q 4) = 15) ∧ (fi_ σ 105 a = nI n) ∧ (fi_ σ 106 a = zI lim) ∧ (fi_ σ 107 a = zI gap) ∧ (n ≤ 14) ∧ (∀ i, i < n → ai_ σ (Q 0) i = zI (g i)) ∧ (∀ i, i < n → ai_ σ (Q 1) i = zI (c i)) ∧ (∀ i, i < n → ai_ σ (Q 2) i = zI (ln i)) ∧ (∀ i, i < n → ai_ σ (Q 3) i = bi_ (op i = true)) ∧ (∀ i, 0 ≤ g i ∧ g i ≤ 100000000) ∧ (∀ i, 0 ≤ c i ∧ c i ≤ 10000000) ∧ (∀ i, ln i = -1 ∨ (0 ≤ ln i ∧ ln i < i)) ∧ (0 ≤ gap ∧ gap ≤ 1) ∧ (0 ≤ lim ∧ lim ≤ 10000000)
theorem CZ_.ka {σ : TH} {a : Nat} {Q : Nat → Nat} {g c ln : Nat → Int} {op : Nat → Bool} {gap lim : Int} {n : Nat} (h : CZ_ σ a Q g c ln op gap lim n) : kd_ σ a = 2 := h.1
theorem CZ_.r0 {σ : TH} {a : Nat} {Q : Nat → Nat} {g c ln : Nat → Int} {op : Nat → Bool} {gap lim : Int} {n : Nat} (h : CZ_ σ a Q g c ln op gap lim n) : fr_ σ 100 a = some (Q 0) := h.2.1
theorem CZ_.r1 {σ : TH} {a : Nat} {Q : Nat → Nat} {g c ln : Nat → Int} {op : Nat → Bool} {gap lim : Int} {n : Nat} (h : CZ_ σ a Q g c ln op gap lim n) : fr_ σ 101 a = some (Q 1) := h.2.2.1
theorem CZ_.r2 {σ : TH} {a : Nat} {Q : Nat → Nat} {g c ln : Nat → Int} {op : Nat → Bool} {gap lim : Int} {n : Nat} (h : CZ_ σ a Q g c ln op gap lim n) : fr_ σ 102 a = some (Q 2) := h.2.2.2.1
theorem CZ_.r3 {σ : TH} {a : Nat} {Q : Nat → Nat} {g c ln : Nat → Int} {op : Nat → Bool} {gap lim : Int} {n : Nat} (h : CZ_ σ a Q g c ln op gap lim n) : fr_ σ 103 a = some (Q 3) := h.2.2.2.2.1
theorem CZ_.r4 {σ : TH} {a : Nat} {Q : Nat → Nat} {g c ln : Nat → Int} {op : Nat → Bool} {gap lim : Int} {n : Nat} (h : CZ_ σ a Q g c ln op gap lim n) : fr_ σ 104 a = some (Q 4) := h.2.2.2.2.2.1
theorem CZ_.k0 {σ : TH} {a : Nat} {Q : Nat → Nat} {g c ln : Nat → Int} {op : Nat → Bool} {gap lim : Int} {n : Nat} (h : CZ_ σ a Q g c ln op gap lim n) : kd_ σ (Q 0) = 20 ∧ ln_ σ (Q 0) = 14 := h.2.2.2.2.2.2.1
theorem CZ_.k1 {σ : TH} {a : Nat} {Q : Nat → Nat} {g c ln : Nat → Int} {op : Nat → Bool} {gap lim : Int} {n : Nat} (h : CZ_ σ a Q g c ln op gap lim n) : kd_ σ (Q 1) = 20 ∧ ln_ σ (Q 1) = 14 := h.2.2.2.2.2.2.2.1
theorem CZ_.k2 {σ : TH} {a : Nat} {Q : Nat → Nat} {g c ln : Nat → Int} {op : Nat → Bool} {gap lim : Int} {n : Nat} (h : CZ_ σ a Q g c ln op gap lim n) : kd_ σ (Q 2) = 20 ∧ ln_ σ (Q 2) = 14 := h.2.2.2.2.2.2.2.2.1
theorem CZ_.k3 {σ : TH} {a : Nat} {Q : Nat → Nat} {g c ln : Nat → Int} {op : Nat → Bool} {gap lim : Int} {n : Nat} (h : CZ_ σ a Q g c ln op gap lim n) : kd_ σ (Q 3) = 22 ∧ ln_ σ (Q 3) = 14 := h.2.2.2.2.2.2.2.2.2.1
theorem CZ_.k4 {σ : TH} {a : Nat} {Q : Nat → Nat} {g c ln : Nat → Int} {op : Nat → Bool} {gap lim : Int} {n : Nat} (h : CZ_ σ a Q g c ln op gap lim n) : kd_ σ (Q 4) = 20 ∧ ln_ σ (Q 4) = 15 := h.2.2.2.2.2.2.2.2.2.2.1
theorem CZ_.f5 {σ : TH} {a : Nat} {Q : Nat → Nat} {g c ln : Nat → Int} {op : Nat → Bool} {gap lim : Int} {n : Nat} (h : CZ_ σ a Q g c ln op gap lim n) : fi_ σ 105 a = nI n := h.2.2.2.2.2.2.2.2.2.2.2.1
theorem CZ_.f6 {σ : TH} {a : Nat} {Q : Nat → Nat} {g c ln : Nat → Int} {op : Nat → Bool} {gap lim : Int} {n : Nat} (h : CZ_ σ a Q g c ln op gap lim n) : fi_ σ 106 a = zI lim := h.2.2.2.2.2.2.2.2.2.2.2.2.1
theorem CZ_.f7 {σ : TH} {a : Nat} {Q : Nat → Nat} {g c ln : Nat → Int} {op : Nat → Bool} {gap lim : Int} {n : Nat} (h : CZ_ σ a Q g c ln op gap lim n) : fi_ σ 107 a = zI gap := h.2.2.2.2.2.2.2.2.2.2.2.2.2.1
theorem CZ_.hn {σ : TH} {a : Nat} {Q : Nat → Nat} {g c ln : Nat → Int} {op : Nat → Bool} {gap lim : Int} {n : Nat} (h : CZ_ σ a Q g c ln op gap lim n) : n ≤ 14 := h.2.2.2.2.2.2.2.2.2.2.2.2.2.2.1
theorem CZ_.v0 {σ : TH} {a : Nat} {Q : Nat → Nat} {g c ln : Nat → Int} {op : Nat → Bool} {gap lim : Int} {n : Nat} (h : CZ_ σ a Q g c ln op gap lim n) : ∀ i, i < n → ai_ σ (Q 0) i = zI (g i) := h.2.2.2.2.2.2.2.2.2.2.2.2.2.2.2.1
theorem CZ_.v1 {σ : TH} {a : Nat} {Q : Nat → Nat} {g c ln : Nat → Int} {op : Nat → Bool} {gap lim : Int} {n : Nat} (h : CZ_ σ a Q g c ln op gap lim n) : ∀ i, i < n → ai_ σ (Q 1) i = zI (c i) := h.2.2.2.2.2.2.2.2.2.2.2.2.2.2.2.2.1
theorem CZ_.v2 {σ : TH} {a : Nat} {Q : Nat → Nat} {g c ln : Nat → Int} {op : Nat → Bool} {gap lim : Int} {n : Nat} (h : CZ_ σ a Q g c ln op gap lim n) : ∀ i, i < n → ai_ σ (Q 2) i = zI (ln i) := h.2.2.2.2.2.2.2.2.2.2.2.2.2.2.2.2.2.1
theorem CZ_.v3 {σ : TH} {a : Nat} {Q : Nat → Nat} {g c ln : Nat → Int} {op : Nat → Bool} {gap lim : Int} {n : Nat} (h : CZ_ σ a Q g c ln op gap lim n) : ∀ i, i < n → ai_ σ (Q 3) i = bi_ (op i = true) := h.2.2.2.2.2.2.2.2.2.2.2.2.2.2.2.2.2.2.1
theorem CZ_.bg {σ : TH} {a : Nat} {Q : Nat → Nat} {g c ln : Nat → Int} {op : Nat → Bool} {gap lim : Int} {n : Nat} (h : CZ_ σ a Q g c ln op gap lim n) : ∀ i, 0 ≤ g i ∧ g i ≤ 100000000 := h.2.2.2.2.2.2.2.2.2.2.2.2.2.2.2.2.2.2.2.1
theorem CZ_.bc {σ : TH} {a : Nat} {Q : Nat → Nat} {g c ln : Nat → Int} {op : Nat → Bool} {gap lim : Int} {n : Nat} (h : CZ_ σ a Q g c ln op gap lim n) : ∀ i, 0 ≤ c i ∧ c i ≤ 10000000 := h.2.2.2.2.2.2.2.2.2.2.2.2.2.2.2.2.2.2.2.2.1
theorem CZ_.bl {σ : TH} {a : Nat} {Q : Nat → Nat} {g c ln : Nat → Int} {op : Nat → Bool} {gap lim : Int} {n : Nat} (h : CZ_ σ a Q g c ln op gap lim n) : ∀ i, ln i = -1 ∨ (0 ≤ ln i ∧ ln i < i) := h.2.2.2.2.2.2.2.2.2.2.2.2.2.2.2.2.2.2.2.2.2.1
theorem CZ_.bp {σ : TH} {a : Nat} {Q : Nat → Nat} {g c ln : Nat → Int} {op : Nat → Bool} {gap lim : Int} {n : Nat} (h : CZ_ σ a Q g c ln op gap lim n) : 0 ≤ gap ∧ gap ≤ 1 := h.2.2.2.2.2.2.2.2.2.2.2.2.2.2.2.2.2.2.2.2.2.2.1
theorem CZ_.bm {σ : TH} {a : Nat} {Q : Nat → Nat} {g c ln : Nat → Int} {op : Nat → Bool} {gap lim : Int} {n : Nat} (h : CZ_ σ a Q g c ln op gap lim n) : 0 ≤ lim ∧ lim ≤ 10000000 := h.2.2.2.2.2.2.2.2.2.2.2.2.2.2.2.2.2.2.2.2.2.2.2
theorem CZ_.ch {σ : TH} {a : Nat} {Q : Nat → Nat} {g c ln : Nat → Int} {op : Nat → Bool} {gap lim : Int} {n : Nat} (h : CZ_ σ a Q g c ln op gap lim n) (t : CH) : CZ_ (ch_ σ a t) a Q g c ln op gap lim n := ⟨h.ka, h.r0, h.r1, h.r2, h.r3, h.r4, h.k0, h.k1, h.k2, h.k3, h.k4, (congrFun (ch_f (by decide)) a).trans h.f5, (congrFun (ch_f (by decide)) a).trans h.f6, (congrFun (ch_f (by decide)) a).trans h.f7, h.hn, h.v0, h.v1, h.v2, h.v3, h.bg, h.bc, h.bl, h.bp, h.bm⟩
/-- bounds of a way, of a best -/
def wy9_ (i : Nat) (s : CH) : Prop := s.1 < 2 ^ i ∧ (0 ≤ s.2.1 ∧ s.2.1 ≤ i * 100000000) ∧ 0 ≤ s.2.2 ∧ s.2.2 ≤ i * 10000001
def be9_ (s : CH) : Prop := s.1 < 2 ^ 14 ∧ (-1 ≤ s.2.1 ∧ s.2.1 ≤ 1400000000) ∧ 0 ≤ s.2.2 ∧ s.2.2 ≤ 140000014
theorem ho9_ {g : Nat → Int} {op : Nat → Bool} (hg : ∀ i, 0 ≤ g i ∧ g i ≤ 100000000) : ∀ k i, 0 ≤ ho_ g op k i ∧ ho_ g op k i ≤ k * 100000000
  | 0, _ => ⟨Int.le_refl _, Int.le_refl _⟩
  | k + 1, i => by
    have ih := ho9_ (op := op) hg k (i + 1)
    have := hg i
    show 0 ≤ ho_ g op k (i + 1) + (if op i = true then g i else 0) ∧ ho_ g op k (i + 1) + (if op i = true then g i else 0) ≤ ((k + 1 : Nat) : Int) * 100000000
    split <;> omega
theorem wy9_s {g c ln : Nat → Int} {op : Nat → Bool} {gap lim : Int} {σ : TH} {a n : Nat} {Q : Nat → Nat} (h : CZ_ σ a Q g c ln op gap lim n) {i : Nat} {s : CH} (hs : wy9_ i s) : wy9_ (i + 1) (cs_ g c gap s i) := by
  obtain ⟨h1, h2, h3, h4⟩ := hs
  have a1 := h.bg i
  have a2 := h.bc i
  have a3 := h.bp
  refine ⟨?_, ?_, ?_⟩
  · show s.1 ||| 2 ^ i < 2 ^ (i + 1)
    exact Nat.or_lt_two_pow (Nat.lt_of_lt_of_le h1 (Nat.pow_le_pow_right (by decide) (by omega))) (Nat.pow_lt_pow_right (by decide) (by omega))
  · show 0 ≤ s.2.1 + g i ∧ s.2.1 + g i ≤ ((i + 1 : Nat) : Int) * 100000000
    omega
  · show 0 ≤ s.2.2 + (if s.1 = 0 then c i else c i + gap) ∧ s.2.2 + (if s.1 = 0 then c i else c i + gap) ≤ ((i + 1 : Nat) : Int) * 10000001
    split <;> omega
theorem wy9_m {i : Nat} {s : CH} (hs : wy9_ i s) : wy9_ (i + 1) s := by
  obtain ⟨h1, h2, h3, h4⟩ := hs
  exact ⟨Nat.lt_of_lt_of_le h1 (Nat.pow_le_pow_right (by decide) (by omega)), by omega, by omega⟩
theorem wy9_b {i : Nat} {s : CH} (hs : wy9_ i s) (hi : i ≤ 14) : be9_ s := by
  obtain ⟨h1, h2, h3, h4⟩ := hs
  exact ⟨Nat.lt_of_lt_of_le h1 (Nat.pow_le_pow_right (by decide) hi), by omega, by omega⟩
section CZ9
variable {σ : TH} {a n : Nat} {Q : Nat → Nat} {g c ln : Nat → Int} {op : Nat → Bool} {gap lim : Int}
theorem pk9_be (h : CZ_ σ a Q g c ln op gap lim n) : ∀ (k i : Nat) (s best : CH), i + k = n → wy9_ i s → be9_ best → be9_ (pk_ g c ln op gap lim k i s best) := by
  have hn := h.hn
  intro k
  induction k with
  | zero =>
    intro i s best hi hs hb
    show be9_ (if lim < s.2.2 ∨ s.2.1 < best.2.1 ∨ (s.2.1 = best.2.1 ∧ best.2.2 ≤ s.2.2) then best else s)
    split
    · exact hb
    · exact wy9_b hs (by omega)
  | succ k ih =>
    intro i s best hi hs hb
    show be9_ (if lim < s.2.2 ∨ s.2.1 + ho_ g op (k + 1) i < best.2.1 ∨ (s.2.1 + ho_ g op (k + 1) i = best.2.1 ∧ best.2.2 ≤ s.2.2) then best else pk_ g c ln op gap lim k (i + 1) s (if ck_ ln op s.1 i = true then pk_ g c ln op gap lim k (i + 1) (cs_ g c gap s i) best else best))
    split
    · exact hb
    · refine ih _ _ _ (by omega) (wy9_m hs) ?_
      split
      · exact ih _ _ _ (by omega) (wy9_s h hs) hb
      · exact hb
/-- the class's search is the pure search -/
theorem k_pick (h : CZ_ σ a Q g c ln op gap lim n) (hH : ∀ i, i ≤ n → ai_ σ (Q 4) i = zI (ho_ g op (n - i) i)) : ∀ (k i d : Nat) (s best : CH), i + k = n → k < d → wy9_ i s → be9_ best → f_X0_pick d (ch_ σ a best) (some a) (nI i) (nI s.1) (zI s.2.1) (zI s.2.2) = some ((), ch_ σ a (pk_ g c ln op gap lim k i s best)) := by
  have hn := h.hn
  have hbm := h.bm
  -- the first guards
  have top : ∀ (slf : TH → Option Nat → Int32 → Int32 → Int32 → Int32 → Option (Unit × TH)) (k i : Nat) (s best : CH), i + k = n → wy9_ i s → be9_ best → g_X0_pick slf (ch_ σ a best) (some a) (nI i) (nI s.1) (zI s.2.1) (zI s.2.2) = if lim < s.2.2 ∨ s.2.1 + ho_ g op k i < best.2.1 ∨ (s.2.1 + ho_ g op k i = best.2.1 ∧ best.2.2 ≤ s.2.2) then some ((), ch_ σ a best) else f_X0_pick_b57 slf (ch_ σ a best) (some a) (nI i) (nI s.1) (zI s.2.1) (zI s.2.2) := by
    intro slf k i s best hi hs hb
    have h1 := h.ch best
    obtain ⟨s1, s2, s3, s4⟩ := hs
    obtain ⟨b1, b2, b3, b4⟩ := hb
    have hho := ho9_ (op := op) h.bg k i
    have hv : ai_ (ch_ σ a best) (Q 4) i = zI (ho_ g op k i) := by
      have := hH i (by omega)
      rw [show n - i = k by omega] at this
      exact this
    unfold g_X0_pick
    rw [if_neg (fun q => by have := (zI_lt (a := 14) (b := (i : Int)) (by decide) (by decide) (by omega) (by omega)).mp q; omega), nn_s, gt_t h1.ka, lt_e, h1.r4, nn_s, gt_t h1.k4.1, h1.k4.2, nI_clamp (by omega), gt_t (ix9_ (k := i) (M := 15) (by omega) (by omega)), lt_e, hv, zI_add]
    unfold f_X0_pick_b18 f_X0_pick_b56
    rw [nn_s, gt_t h1.ka, lt_e, h1.f6, lt_e, ch_9, lt_e, lt_e, ch_10]
    by_cases z1 : lim < s.2.2
    · rw [if_pos ((zI_lt (by omega) (by omega) (by omega) (by omega)).mpr z1), if_pos (Or.inl z1)]
    rw [if_neg (fun q => z1 ((zI_lt (by omega) (by omega) (by omega) (by omega)).mp q))]
    by_cases z2 : s.2.1 + ho_ g op k i < best.2.1
    · rw [if_pos ((zI_lt (by omega) (by omega) (by omega) (by omega)).mpr z2), if_pos (Or.inr (Or.inl z2))]
    rw [if_neg (fun q => z2 ((zI_lt (by omega) (by omega) (by omega) (by omega)).mp q))]
    by_cases z3 : s.2.1 + ho_ g op k i = best.2.1
    · rw [if_pos (by rw [z3])]
      by_cases z4 : s.2.2 < best.2.2
      · rw [if_pos ((zI_lt (by omega) (by omega) (by omega) (by omega)).mpr z4), if_neg (by omega)]
      · rw [if_neg (fun q => z4 ((zI_lt (by omega) (by omega) (by omega) (by omega)).mp q)), if_pos (Or.inr (Or.inr ⟨z3, by omega⟩))]
    · rw [if_neg (fun q => z3 ((zI_eq (by omega) (by omega) (by omega) (by omega)).mp q)), if_neg (by omega)]
  intro k
  induction k with
  | zero =>
    intro i d s best hi hd hs hb
    obtain ⟨d, rfl⟩ : ∃ e, d = e + 1 := ⟨d - 1, by omega⟩
    have h1 := h.ch best
    show g_X0_pick (f_X0_pick d) _ _ _ _ _ _ = some ((), ch_ σ a (if lim < s.2.2 ∨ s.2.1 < best.2.1 ∨ (s.2.1 = best.2.1 ∧ best.2.2 ≤ s.2.2) then best else s))
    rw [top _ 0 i s best hi hs hb, show ho_ g op 0 i = 0 from rfl, Int.add_zero]
    by_cases z : lim < s.2.2 ∨ s.2.1 < best.2.1 ∨ (s.2.1 = best.2.1 ∧ best.2.2 ≤ s.2.2)
    · rw [if_pos z, if_pos z]
    · rw [if_neg z, if_neg z]
      unfold f_X0_pick_b57 f_X0_pick_b71
      rw [nn_s, gt_t h1.ka, lt_e, h1.f5, if_pos (nI_le (by omega) (by omega)), nn_s, gt_t h1.ka, lt_e, lt_e, lt_e]
      exact congrArg (fun q => some ((), q)) (ch_ch (σ := σ) (a := a) (s := best) (t := s))
  | succ k ih =>
    intro i d s best hi hd hs hb
    obtain ⟨d, rfl⟩ : ∃ e, d = e + 1 := ⟨d - 1, by omega⟩
    show g_X0_pick (f_X0_pick d) _ _ _ _ _ _ = some ((), ch_ σ a (if lim < s.2.2 ∨ s.2.1 + ho_ g op (k + 1) i < best.2.1 ∨ (s.2.1 + ho_ g op (k + 1) i = best.2.1 ∧ best.2.2 ≤ s.2.2) then best else pk_ g c ln op gap lim k (i + 1) s (if ck_ ln op s.1 i = true then pk_ g c ln op gap lim k (i + 1) (cs_ g c gap s i) best else best)))
    rw [top _ (k + 1) i s best hi hs hb]
    by_cases z : lim < s.2.2 ∨ s.2.1 + ho_ g op (k + 1) i < best.2.1 ∨ (s.2.1 + ho_ g op (k + 1) i = best.2.1 ∧ best.2.2 ≤ s.2.2)
    · rw [if_pos z, if_pos z]
    · rw [if_neg z, if_neg z]
      have h1 := h.ch best
      have hin : i < n := by omega
      have ix := ix9_ (k := i) (M := 14) (by omega) (by omega)
      have cl : (nI i).toNatClampNeg = i := nI_clamp (by omega)
      have e1 : nI i + 1 = nI (i + 1) := nI_1 i
      -- left out
      have out : ∀ b, be9_ b → f_X0_pick_b171 (f_X0_pick d) (ch_ σ a b) (some a) (nI i) (nI s.1) (zI s.2.1) (zI s.2.2) = some ((), ch_ σ a (pk_ g c ln op gap lim k (i + 1) s b)) := fun b hb => by
        unfold f_X0_pick_b171
        rw [e1, ih (i + 1) d s b (by omega) (by omega) (wy9_m hs) hb, bd_s]
      -- taken
      have tk : f_X0_pick_b120 (f_X0_pick d) (ch_ σ a best) (some a) (nI i) (nI s.1) (zI s.2.1) (zI s.2.2) = some ((), ch_ σ a (pk_ g c ln op gap lim k (i + 1) s (pk_ g c ln op gap lim k (i + 1) (cs_ g c gap s i) best))) := by
        have v0 : ai_ (ch_ σ a best) (Q 0) i = zI (g i) := h.v0 i hin
        have v1 : ai_ (ch_ σ a best) (Q 1) i = zI (c i) := h.v1 i hin
        have b144 : ∀ t0, f_X0_pick_b144 (f_X0_pick d) (ch_ σ a best) (some a) (nI i) (nI s.1) (zI s.2.1) (zI s.2.2) (zI t0) = bd_ (f_X0_pick d (ch_ σ a best) (some a) (nI (i + 1)) (nI (s.1 ||| 2 ^ i)) (zI (s.2.1 + g i)) (zI (s.2.2 + t0))) fun _ s29 => f_X0_pick_b171 (f_X0_pick d) s29 (some a) (nI i) (nI s.1) (zI s.2.1) (zI s.2.2) := fun t0 => by
          unfold f_X0_pick_b144
          rw [nn_s, gt_t h1.ka, lt_e, h1.r0, nn_s, gt_t h1.k0.1, h1.k0.2, cl, gt_t ix, lt_e, v0, or14_ (by omega), e1, zI_add, zI_add]
        have q := ih (i + 1) d (cs_ g c gap s i) best (by omega) (by omega) (wy9_s h hs) hb
        have q2 := out _ (pk9_be h k (i + 1) (cs_ g c gap s i) best (by omega) (wy9_s h hs) hb)
        have hs1 : s.1 < 2 ^ 31 := Nat.lt_of_lt_of_le hs.1 (Nat.pow_le_pow_right (by decide) (by omega))
        unfold f_X0_pick_b120
        by_cases w : s.1 = 0
        · have q : f_X0_pick d (ch_ σ a best) (some a) (nI (i + 1)) (nI (s.1 ||| 2 ^ i)) (zI (s.2.1 + g i)) (zI (s.2.2 + (if s.1 = 0 then c i else c i + gap))) = _ := q
          rw [if_pos w] at q
          rw [if_pos ((nI_z0 hs1).mpr w), nn_s, gt_t h1.ka, lt_e, h1.r1, nn_s, gt_t h1.k1.1, h1.k1.2, cl, gt_t ix, lt_e, v1, b144, q, bd_s, q2]
        · have q : f_X0_pick d (ch_ σ a best) (some a) (nI (i + 1)) (nI (s.1 ||| 2 ^ i)) (zI (s.2.1 + g i)) (zI (s.2.2 + (if s.1 = 0 then c i else c i + gap))) = _ := q
          rw [if_neg w] at q
          rw [if_neg (fun z => w ((nI_z0 hs1).mp z)), nn_s, gt_t h1.ka, lt_e, h1.r1, nn_s, gt_t h1.k1.1, h1.k1.2, cl, gt_t ix, lt_e, v1, lt_e, h1.f7, zI_add, b144, q, bd_s, q2]
      have v2 : ai_ (ch_ σ a best) (Q 2) i = zI (ln i) := h.v2 i hin
      have v3 : ai_ (ch_ σ a best) (Q 3) i = bi_ (op i = true) := h.v3 i hin
      have b14 : nI i < 14 := nI_lt (b := 14) (by omega) (by decide)
      unfold f_X0_pick_b57
      rw [nn_s, gt_t h1.ka, lt_e, h1.f5, if_neg (nI_ge hin (by omega)), if_pos b14, lt_e, h1.r3, nn_s, gt_t h1.k3.1, h1.k3.2, cl, gt_t ix, lt_e, v3]
      unfold ck_
      by_cases w1 : op i = true
      · rw [bi_t w1, if_neg (by decide), lt_e, h1.r2, nn_s, gt_t h1.k2.1, h1.k2.2, gt_t ix, lt_e, v2, w1, Bool.true_and]
        rcases h.bl i with w2 | ⟨w2, w3⟩
        · rw [w2, if_pos zI_m1, tk]
          rfl
        · obtain ⟨j, hj⟩ : ∃ j : Nat, ln i = j := ⟨(ln i).toNat, by omega⟩
          rw [hj]
          rw [hj] at w3
          have w4 : ¬ zI (j : Int) = -1 := fun q => by
            have := (zI_eq (a := (j : Int)) (b := -1) (by omega) (by omega) (by decide) (by decide)).mp (q.trans zI_m1.symm)
            omega
          have w5 : ¬ ((j : Int) = -1) := by omega
          have eb := bit_and (nI s.1) (k := j) (by omega)
          rw [bt_nI (by omega)] at eb
          rw [if_neg w4, lt_e, nn_s, gt_t h1.k2.1, h1.k2.2, gt_t ix, lt_e, v2, hj, zI_nI, decide_eq_false w5, Bool.false_or, Int.toNat_natCast]
          by_cases w6 : s.1.testBit j = true
          · rw [if_neg (fun q => by rw [eb.mp q] at w6; cases w6), if_pos w6, tk]
          · rw [if_pos (eb.mpr (Bool.not_eq_true _ ▸ w6)), if_neg w6, out best hb]
      · rw [bi_f w1, if_pos rfl, out best hb, if_neg (fun q => w1 ((Bool.and_eq_true _ _ ▸ q).1))]
end CZ9
