/-! BITS (the first rows out of kit/laws/BITS.to-paste, a starting text); CALLS: editionOf, said, wrong, ages, apart, fits, fresh. Written by wip/b/mk57.py. -/
def bt (x : Int32) (i : Nat) : Bool := x.toBitVec.getLsbD i
theorem b_ext {x y : Int32} (h : ∀ i, i < 32 → bt x i = bt y i) : x = y := Int32.toBitVec_inj.mp (BitVec.eq_of_getLsbD_eq (fun i hi => h i hi))
theorem b_or (x y : Int32) (i : Nat) : bt (x ||| y) i = (bt x i || bt y i) := by unfold bt; rw [Int32.toBitVec_or, BitVec.getLsbD_or]
theorem b_and (x y : Int32) (i : Nat) : bt (x &&& y) i = (bt x i && bt y i) := by unfold bt; rw [Int32.toBitVec_and, BitVec.getLsbD_and]
theorem b_xor (x y : Int32) (i : Nat) : bt (x ^^^ y) i = (bt x i ^^ bt y i) := by unfold bt; rw [Int32.toBitVec_xor, BitVec.getLsbD_xor]
theorem b_big {x : Int32} {i : Nat} (h : 32 ≤ i) : bt x i = false := BitVec.getLsbD_of_ge _ _ h
theorem b_m1 : ∀ i, i < 32 → bt (-1) i = true := by decide +kernel
theorem b_0 (i : Nat) : bt 0 i = false := BitVec.getLsbD_zero
theorem s_l : ∀ n, n < 32 → ((nI n &&& 31).toBitVec.smod 32).toNat = n := by decide +kernel
theorem s_u : ∀ n, n < 32 → (((nI n).toUInt32 &&& Int32.toUInt32 31).toBitVec % 32).toNat = n := by decide +kernel
theorem b_shl (n : Nat) (hn : n < 32) (x : Int32) {i : Nat} (hi : i < 32) : bt (x <<< (nI n &&& 31)) i = (decide (n ≤ i) && bt x (i - n)) := by
  unfold bt
  rw [Int32.toBitVec_shiftLeft]
  show (x.toBitVec <<< ((nI n &&& 31).toBitVec.smod 32).toNat).getLsbD i = _
  rw [s_l n hn, BitVec.getLsbD_shiftLeft]
  rcases Nat.lt_or_ge i n with h | h
  · simp [h, Nat.not_le.mpr h]
  · simp [hi, h, Nat.not_lt.mpr h]
theorem b_sshr (n : Nat) (hn : n < 32) (x : Int32) {i : Nat} (hi : i < 32) : bt (x >>> (nI n &&& 31)) i = if n + i < 32 then bt x (n + i) else bt x 31 := by
  unfold bt
  rw [Int32.toBitVec_shiftRight]
  show (x.toBitVec.sshiftRight ((nI n &&& 31).toBitVec.smod 32).toNat).getLsbD i = _
  rw [s_l n hn, BitVec.getLsbD_sshiftRight, BitVec.msb_eq_getLsbD_last]
  simp [hi]
theorem mo_yb {m z : TH} {y : Nat} {G : GH} {N : Nat → Nat} (h : mo_ m y G N) : kd_ (bm_ m z) y = 17 := by
  have := mo_y h
  exact this
theorem b_1 : ∀ i, i < 32 → bt 1 i = decide (i = 0) := by decide +kernel
theorem a31_ : ∀ k, k < 32 → nI k &&& 31 = nI k := by decide +kernel
theorem bit_and (x : Int32) {k : Nat} (hk : k < 32) : x &&& ((1 : Int32) <<< (nI k &&& 31)) = 0 ↔ bt x k = false := by
  constructor
  · intro h
    have h1 := congrArg (fun z => bt z k) h
    simp only [b_and, b_shl k hk 1 hk, b_0, Nat.le_refl, decide_true, Nat.sub_self, Bool.true_and, b_1 0 (by decide), Bool.and_true] at h1
    exact h1
  · intro h
    refine b_ext (fun i hi => ?_)
    rw [b_and, b_shl k hk 1 hi, b_0]
    by_cases e : i = k
    · rw [e, h]; rfl
    · by_cases e2 : k ≤ i
      · rw [b_1 (i - k) (by omega), decide_eq_false (show ¬ i - k = 0 by omega)]
        simp
      · rw [decide_eq_false e2]; simp
theorem bit_and' (x : Int32) {k : Nat} (hk : k < 32) : x &&& ((1 : Int32) <<< nI k) = 0 ↔ bt x k = false := by
  have := bit_and x hk
  rwa [a31_ k hk] at this
theorem bit_shr (x : Int32) {k : Nat} (hk : k < 31) : (x >>> (nI k &&& 31)) &&& 1 = bi_ (bt x k = true) := by
  refine b_ext (fun i hi => ?_)
  rw [b_and, b_sshr k (by omega) x hi, b_1 i hi]
  by_cases e : i = 0
  · subst e
    rw [if_pos (by omega), decide_eq_true rfl, Nat.add_zero]
    by_cases z : bt x k = true
    · rw [bi_t z, b_1 0 (by decide), z]; rfl
    · rw [bi_f z, b_0]
      simpa using z
  · rw [decide_eq_false e, Bool.and_false]
    by_cases z : bt x k = true
    · rw [bi_t z, b_1 i hi, decide_eq_false e]
    · rw [bi_f z, b_0]
theorem bt_bo (q : Nat → Bool) : ∀ n, n ≤ 31 → ∀ k, k < 31 → bt (bo_ q n) k = (decide (k < n) && q k)
  | 0, _, k, _ => by rw [decide_eq_false (by omega)]; exact b_0 k
  | n + 1, h, k, hk => by
    unfold bo_
    by_cases e : q n = true
    · rw [if_pos e, b_or, bt_bo q n (by omega) k hk, b_shl n (by omega) 1 (by omega)]
      by_cases e2 : k = n
      · subst e2
        simp [b_1 0 (by decide), e]
      · by_cases e3 : k < n
        · simp [e3, Nat.not_le.mpr e3, Nat.lt_succ_of_lt e3]
        · have e4 : ¬ k < n + 1 := by omega
          rw [b_1 (k - n) (by omega)]
          simp [e3, e4, show ¬ k - n = 0 by omega]
    · rw [if_neg e, bt_bo q n (by omega) k hk]
      by_cases e2 : k = n
      · subst e2
        simp [e]
      · by_cases e3 : k < n
        · simp [e3, Nat.lt_succ_of_lt e3]
        · have e4 : ¬ k < n + 1 := by omega
          simp [e3, e4]
/-- what an edition says now of a kind; what is known of it; is it wrong -/
def stn9_ (A : AS) (e k : Nat) : Int32 := if bt (aE A 1307 e) k = true then aF A e k else aD A e k
def vn9_ (A : AS) (N : Nat → Nat) (p k : Nat) : Int32 := match lt9_ A N p k with
  | none => 0
  | some t => aV A 22 t
def wr9_ (A : AS) (N : Nat → Nat) (e p k : Nat) : Bool := bt (aE A 1306 e) k && !decide (vn9_ A N p k = stn9_ A e k)
def eo9_ (A : AS) (e : Nat) (w : Int32) : Int32 := if w = 0 then aE A 1300 e else if w = 1 then aE A 1301 e else if w = 2 then aE A 1302 e else if w = 3 then aE A 1303 e else if w = 4 then aE A 1304 e else if w = 5 then aE A 1305 e else if w = 6 then aE A 1306 e else if w = 7 then aE A 1308 e else -1
/-- a rumour's facts against a person -/
def fi9_ (A : AS) (N : Nat → Nat) (r p j : Nat) : Bool := decide (aV A 66 (3 * r + j) = -1) || (match lt9_ A N p (aV A 66 (3 * r + j)).toNatClampNeg with | none => true | some t => decide (aV A 22 t = aV A 67 (3 * r + j)))
def ft9_ (A : AS) (N : Nat → Nat) (r p : Nat) : Bool := decide (aV A 8 p = aV A 62 r) && (fi9_ A N r p 0 && (fi9_ A N r p 1 && fi9_ A N r p 2))
/-- whom it speaks of, among the first n -/
def po9_ (q : Nat → Bool) : Nat → Int32
  | 0 => -2
  | n + 1 => if q n = true then (if po9_ q n = -2 then nI n else -3) else po9_ q n
def pe9_ (A : AS) (N : Nat → Nat) (r : Nat) : Int32 := if aV A 61 r = -1 then po9_ (ft9_ A N r) (N 5) else aV A 61 r
/-- ten kinds are looked through -/
theorem find10_ {β : Type} {F : Nat → Int32 → Option (Int32 × β)} {q : Nat → Bool} {σ : β} (hs : ∀ f k, k < 10 → F (f + 1) (nI k) = if q k = true then some (nI k, σ) else F f (nI (k + 1))) (he : ∀ f, F (f + 1) (nI 10) = some (-2, σ)) : F fu_ 0 = some ((match (List.range 10).find? q with | none => -2 | some k => nI k), σ) := by
  have key : ∀ n k f, k + n = 10 → F (f + n + 1) (nI k) = some ((match (List.range' k n).find? q with | none => -2 | some k => nI k), σ) := by
    intro n
    induction n with
    | zero =>
      intro k f hk
      have : k = 10 := by omega
      subst this
      exact he f
    | succ n ih =>
      intro k f hk
      rw [show f + (n + 1) + 1 = (f + n + 1) + 1 by omega, hs _ k (by omega), List.range'_succ, List.find?_cons, ih (k + 1) f (by omega)]
      cases q k <;> rfl
  exact key 10 0 39989 rfl
section MC57
variable {σ : TH} {y : Nat} {G : GH} {A : AS} {N : Nat → Nat}
theorem m_isEdition1 (h : mr_ σ y G A N) {e : Nat} (he : e < N 71) : f_X15_isEdition σ y (nI e) = some (1, σ) := by
  have hy := mo_y h.1
  obtain ⟨e1, hb⟩ := mo_n h.1 (j := 71) (cj := 1671) (m := 80) (by decide)
  have g1 : ¬ nI e < 0 := nI_pos (by omega)
  have g2 : ¬ nI (N 71) ≤ nI e := nI_ge he (by omega)
  simp [f_X15_isEdition, f_X15_isEdition_b16, f_X15_isEdition_b17, gt_, lt_, nn_, oc_, bd_, hy, e1, g1, g2]
theorem m_isEdition0 (h : mr_ σ y G A N) {a : Int32} (ha : a < 0 ∨ nI (N 71) ≤ a) : f_X15_isEdition σ y a = some (0, σ) := by
  have hy := mo_y h.1
  obtain ⟨e1, hb⟩ := mo_n h.1 (j := 71) (cj := 1671) (m := 80) (by decide)
  by_cases g1 : a < 0
  · simp [f_X15_isEdition, f_X15_isEdition_b16, f_X15_isEdition_b17, g1]
    simp [gt_]
  · have g2 := ha.resolve_left g1
    simp [f_X15_isEdition, f_X15_isEdition_b16, f_X15_isEdition_b17, gt_, lt_, nn_, oc_, bd_, hy, e1, g1, g2]
theorem m_editionOf (h : mr_ σ y G A N) {e : Nat} (he : e < N 71) (w : Int32) : f_X15_editionOf σ y (nI e) w = some (eo9_ A e w, si_ σ 1600 y 0) := by
  have hy := mo_y h.1
  have h := mr_si h (j := 0) (c := 1600) (by decide) 0
  unfold f_X15_editionOf
  rw [gt_t hy, lt_e]
  generalize si_ σ 1600 y 0 = σ at h ⊢
  have hb := (mo_n h.1 (j := 71) (cj := 1671) (m := 80) (by decide)).2
  have i5 := m_isEdition1 h he
  obtain ⟨v1, -, -, v4, -, -, v7, -⟩ := mr_E h he
  obtain ⟨a82, b82, c82⟩ := mo_a h.1 (j := 82) (cj := 1682) (K := 28) (n := 80) (by decide)
  have g1 : ¬ nI e < 0 := nI_pos (by omega)
  have g3 : (nI e).toNatClampNeg = e := nI_clamp (by omega)
  have g4 : ¬ 80 ≤ e := by omega
  by_cases w0 : w = 0
  · subst w0
    simp [gt_, lt_, nn_, oc_, bd_, i5, a82, b82, c82, g1, g3, g4, v7, v4, eo9_, v1 1300 (by decide)]
  by_cases w1 : w = 1
  · subst w1
    simp [gt_, lt_, nn_, oc_, bd_, i5, a82, b82, c82, g1, g3, g4, v7, v4, eo9_, v1 1301 (by decide)]
  by_cases w2 : w = 2
  · subst w2
    simp [gt_, lt_, nn_, oc_, bd_, i5, a82, b82, c82, g1, g3, g4, v7, v4, eo9_, v1 1302 (by decide)]
  by_cases w3 : w = 3
  · subst w3
    simp [gt_, lt_, nn_, oc_, bd_, i5, a82, b82, c82, g1, g3, g4, v7, v4, eo9_, v1 1303 (by decide)]
  by_cases w4 : w = 4
  · subst w4
    simp [gt_, lt_, nn_, oc_, bd_, i5, a82, b82, c82, g1, g3, g4, v7, v4, eo9_, v1 1304 (by decide)]
  by_cases w5 : w = 5
  · subst w5
    simp [gt_, lt_, nn_, oc_, bd_, i5, a82, b82, c82, g1, g3, g4, v7, v4, eo9_, v1 1305 (by decide)]
  by_cases w6 : w = 6
  · subst w6
    simp [gt_, lt_, nn_, oc_, bd_, i5, a82, b82, c82, g1, g3, g4, v7, v4, eo9_, v1 1306 (by decide)]
  by_cases w7 : w = 7
  · subst w7
    simp [gt_, lt_, nn_, oc_, bd_, i5, a82, b82, c82, g1, g3, g4, v7, v4, eo9_, v1 1308 (by decide)]
  simp [gt_, lt_, nn_, oc_, bd_, i5, a82, b82, c82, g1, g3, g4, v7, eo9_, w0, w1, w2, w3, w4, w5, w6, w7]
theorem m_said (h : mr_ σ y G A N) {e k : Nat} (he : e < N 71) (hk : k < 10) : f_X15_said σ y (nI e) (nI k) = some ((if bt (aE A 1306 e) k = true then aD A e k else -2147483648), si_ σ 1600 y 0) := by
  have hy := mo_y h.1
  have h := mr_si h (j := 0) (c := 1600) (by decide) 0
  unfold f_X15_said
  rw [gt_t hy, lt_e]
  generalize si_ σ 1600 y 0 = σ at h ⊢
  have hb := (mo_n h.1 (j := 71) (cj := 1671) (m := 80) (by decide)).2
  have i5 := m_isEdition1 h he
  obtain ⟨v1, v2, -, v4, v5, -, v7, v8, -⟩ := mr_E h he
  have v1 := v1 1306 (by decide)
  have s := bit_shr (aE A 1306 e) (k := k) (by omega)
  have g5 := kd9_ hk
  obtain ⟨a82, b82, c82⟩ := mo_a h.1 (j := 82) (cj := 1682) (K := 28) (n := 80) (by decide)
  have g1 : ¬ nI e < 0 := nI_pos (by omega)
  have g3 : (nI e).toNatClampNeg = e := nI_clamp (by omega)
  have g4 : ¬ 80 ≤ e := by omega
  have g1b : ¬ nI k < 0 := nI_pos (by omega)
  have g3b : (nI k).toNatClampNeg = k := nI_clamp (by omega)
  have g4b : ¬ 10 ≤ k := by omega
  by_cases z : bt (aE A 1306 e) k = true
  · simp [f_X15_said_b51, f_X15_said_b54, gt_, lt_, nn_, oc_, bd_, i5, m_isKind, g5, a82, b82, c82, g1, g3, g4, g1b, g3b, g4b, v7, v4, v1, v8, v5, v2, s, z, bi_]
  · simp [f_X15_said_b51, f_X15_said_b54, gt_, lt_, nn_, oc_, bd_, i5, m_isKind, g5, a82, b82, c82, g1, g3, g4, g1b, g3b, g4b, v7, v4, v1, v8, v5, v2, s, z, bi_]
theorem m_said0 (h : mr_ σ y G A N) {a b : Int32} (ha : (a < 0 ∨ nI (N 71) ≤ a) ∨ ∃ e, e < N 71 ∧ a = nI e ∧ ¬ ((0 : Int32) ≤ b ∧ b ≤ 9)) : f_X15_said σ y a b = some (-2147483648, si_ σ 1600 y 0) := by
  have hy := mo_y h.1
  have h := mr_si h (j := 0) (c := 1600) (by decide) 0
  unfold f_X15_said
  rw [gt_t hy, lt_e]
  generalize si_ σ 1600 y 0 = σ at h ⊢
  rcases ha with ha | ⟨e, he, rfl, hb⟩
  · simp [f_X15_said_b51, f_X15_said_b54, gt_, lt_, nn_, oc_, bd_, m_isEdition0 h ha]
  · simp [f_X15_said_b51, f_X15_said_b54, gt_, lt_, nn_, oc_, bd_, m_isEdition1 h he, m_isKind, bi_, hb]
theorem m_valueNow (h : mr_ σ y G A N) (hT : pvT A N) {p k t : Nat} (ht : lt9_ A N p k = some t) : f_X15_tellingOn σ y (nI p) (nI k) (nI (td_ N)) = some (nI t, σ) ∧ t < N 17 ∧ vn9_ A N p k = aV A 22 t := by
  have hN6 := (mo_n h.1 (j := 6) (cj := 1606) (m := 5257439) (by decide)).2
  have s1 := m_tellingOn h (nI p) (nI k) (nI (td_ N))
  rw [tp_lt9 hT hN6, ht] at s1
  exact ⟨s1, (la_some ht).1, by unfold vn9_; rw [ht]⟩
theorem m_wrongOf (h : mr_ σ y G A N) (hT : pvT A N) {e p : Nat} (he : e < N 71) (hp : aE A 1300 e = nI p) (hE : ∀ k, k < 10 → aE A 1306 e &&& ((1 : Int32) <<< nI k) ≠ 0 → lt9_ A N p k ≠ none) : f_X15_wrongOf σ y (some (ga_ G 104 e)) = some (bo_ (wr9_ A N e p) 10, σ) := by
  have hy := mo_y h.1
  obtain ⟨v1, v2, v3, v4, v5, v6, v7, v8, v9⟩ := mr_E h he
  have u0 := v1 1300 (by decide)
  have u6 := v1 1306 (by decide)
  have u7 := v1 1307 (by decide)
  rw [hp] at u0
  have n6 := m_today2 h
  have hN17 := (mo_n h.1 (j := 17) (cj := 1617) (m := 240) (by decide)).2
  obtain ⟨a22, b22, c22⟩ := mo_a h.1 (j := 22) (cj := 1622) (K := 20) (n := 240) (by decide)
  refine lp_ (F := fun f acc i => f_X15_wrongOf_b4 f σ y (some (ga_ G 104 e)) acc i) 10 (fun i => bo_ (wr9_ A N e p) i) (fun f k hk => ?_) (fun f => ?_) (by omega)
  · have g0 := kin_ hk
    have g1 : ¬ nI k < 0 := nI_pos (by omega)
    have g3 : (nI k).toNatClampNeg = k := nI_clamp (by omega)
    have g4 : ¬ 10 ≤ k := by omega
    have s1 := bit_shr (aE A 1306 e) (k := k) (by omega)
    have s2 := bit_shr (aE A 1307 e) (k := k) (by omega)
    by_cases z : bt (aE A 1306 e) k = true
    · have hne := hE k hk (fun q => by rw [bit_and' _ (by omega)] at q; rw [q] at z; cases z)
      obtain ⟨t, ht⟩ := Option.ne_none_iff_exists'.mp hne
      obtain ⟨d1, d2, d3⟩ := m_valueNow h hT ht
      have w := mr_V h (j := 22) (by decide) t
      have g1c : ¬ nI t < 0 := nI_pos (by omega)
      have g3c : (nI t).toNatClampNeg = t := nI_clamp (by omega)
      have g4c : ¬ 240 ≤ t := by omega
      by_cases z2 : bt (aE A 1307 e) k = true
      · by_cases q : aV A 22 t = aF A e k
        · simp [f_X15_wrongOf_b4, f_X15_wrongOf_b51, f_X15_wrongOf_b84, f_X15_wrongOf_b86, gt_, lt_, nn_, oc_, bd_, hy, g0, g1, g3, g4, g1c, g3c, g4c, u0, u6, u7, v2, v3, v4, v5, v6, v8, v9, s1, s2, z, z2, bi_, n6, d1, d3, a22, b22, c22, w, q, bo_, wr9_, stn9_, nI_1]
        · simp [f_X15_wrongOf_b4, f_X15_wrongOf_b51, f_X15_wrongOf_b84, f_X15_wrongOf_b86, gt_, lt_, nn_, oc_, bd_, hy, g0, g1, g3, g4, g1c, g3c, g4c, u0, u6, u7, v2, v3, v4, v5, v6, v8, v9, s1, s2, z, z2, bi_, n6, d1, d3, a22, b22, c22, w, q, bo_, wr9_, stn9_, nI_1]
      · by_cases q : aV A 22 t = aD A e k
        · simp [f_X15_wrongOf_b4, f_X15_wrongOf_b51, f_X15_wrongOf_b84, f_X15_wrongOf_b86, gt_, lt_, nn_, oc_, bd_, hy, g0, g1, g3, g4, g1c, g3c, g4c, u0, u6, u7, v2, v3, v4, v5, v6, v8, v9, s1, s2, z, z2, bi_, n6, d1, d3, a22, b22, c22, w, q, bo_, wr9_, stn9_, nI_1]
        · simp [f_X15_wrongOf_b4, f_X15_wrongOf_b51, f_X15_wrongOf_b84, f_X15_wrongOf_b86, gt_, lt_, nn_, oc_, bd_, hy, g0, g1, g3, g4, g1c, g3c, g4c, u0, u6, u7, v2, v3, v4, v5, v6, v8, v9, s1, s2, z, z2, bi_, n6, d1, d3, a22, b22, c22, w, q, bo_, wr9_, stn9_, nI_1]
    · simp [f_X15_wrongOf_b4, f_X15_wrongOf_b86, gt_, lt_, nn_, oc_, bd_, g0, u6, v4, s1, z, bi_, bo_, wr9_, nI_1]
  · simp [f_X15_wrongOf_b4, show (10 : Int32) ≤ nI 10 from by decide]
theorem m_ages (h : mr_ σ y G A N) {p : Nat} (hp : p < N 5) {d : Int32} (hd : nI (td_ N) ≤ d ∧ d ≤ 3650) : f_X15_ages σ y (nI p) d = some (bo_ (sl9_ A p d) 10, tr_ (si_ σ 1600 y 0) y 0) := by
  have hy := mo_y h.1
  have h := mr_si h (j := 0) (c := 1600) (by decide) 0
  unfold f_X15_ages
  rw [gt_t hy, lt_e]
  generalize si_ σ 1600 y 0 = σ at h ⊢
  have hN := (mo_n h.1 (j := 5) (cj := 1605) (m := 30) (by decide)).2
  simp [f_X15_ages_b51, gt_, lt_, nn_, oc_, bd_, m_isPerson1 h.1 hp, m_today2 h, m_in, bi_, hd, m_staleOf h (p := p) (by omega), m_done (mo_y h.1)]
/-- two persons are apart by a kind -/
theorem three_ {r j : Nat} : (3 : Int32) * nI r + nI j = nI (3 * r + j) := by
  rw [show (3 : Int32) = nI 3 from rfl, pk_mul, nI_add]
theorem m_apartL (h : mr_ σ y G A N) (hT : pvT A N) {p q : Nat} : f_X15_apart_b25 fu_ σ y (nI p) (nI q) 0 = some ((match (List.range 10).find? (fun k => match lt9_ A N p k, lt9_ A N q k with | some s, some t => !decide (aV A 22 s = aV A 22 t) | _, _ => false) with | none => -2 | some k => nI k), σ) := by
  have hy := mo_y h.1
  have n6 := m_today2 h
  have hN6 := (mo_n h.1 (j := 6) (cj := 1606) (m := 5257439) (by decide)).2
  have hN17 := (mo_n h.1 (j := 17) (cj := 1617) (m := 240) (by decide)).2
  obtain ⟨a22, b22, c22⟩ := mo_a h.1 (j := 22) (cj := 1622) (K := 20) (n := 240) (by decide)
  have step : ∀ f k, k < 10 → f_X15_apart_b25 (f + 1) σ y (nI p) (nI q) (nI k) = (if (match lt9_ A N p k, lt9_ A N q k with | some s, some t => !decide (aV A 22 s = aV A 22 t) | _, _ => false) = true then some (nI k, σ) else f_X15_apart_b25 f σ y (nI p) (nI q) (nI (k + 1))) := by
    intro f k hk
    have g0 := kin_ hk
    have s1 := m_tellingOn h (nI p) (nI k) (nI (td_ N))
    have s2 := m_tellingOn h (nI q) (nI k) (nI (td_ N))
    rw [tp_lt9 hT hN6] at s1 s2
    cases h1 : lt9_ A N p k with
    | none =>
      rw [h1] at s1
      simp [f_X15_apart_b25, f_X15_apart_b86, gt_, lt_, nn_, oc_, bd_, hy, g0, n6, s1, s2, oi_, nI_1]
    | some s =>
      have ls := (la_some h1).1
      have zs : ¬ nI s = -1 := nI_n1 (by omega)
      rw [h1] at s1
      cases h2 : lt9_ A N q k with
      | none =>
        rw [h2] at s2
        simp [f_X15_apart_b25, f_X15_apart_b86, gt_, lt_, nn_, oc_, bd_, hy, g0, n6, s1, s2, oi_, zs, nI_1]
      | some t =>
        have lt := (la_some h2).1
        have zt : ¬ nI t = -1 := nI_n1 (by omega)
        rw [h2] at s2
        have w1 := mr_V h (j := 22) (by decide) s
        have w2 := mr_V h (j := 22) (by decide) t
        have g1 : ¬ nI s < 0 := nI_pos (by omega)
        have g3 : (nI s).toNatClampNeg = s := nI_clamp (by omega)
        have g4 : ¬ 240 ≤ s := by omega
        have g1b : ¬ nI t < 0 := nI_pos (by omega)
        have g3b : (nI t).toNatClampNeg = t := nI_clamp (by omega)
        have g4b : ¬ 240 ≤ t := by omega
        by_cases z : aV A 22 s = aV A 22 t
        · simp [f_X15_apart_b25, f_X15_apart_b86, gt_, lt_, nn_, oc_, bd_, hy, g0, n6, s1, s2, oi_, zs, zt, a22, b22, c22, g1, g3, g4, g1b, g3b, g4b, w1, w2, z, nI_1]
        · simp [f_X15_apart_b25, f_X15_apart_b86, gt_, lt_, nn_, oc_, bd_, hy, g0, n6, s1, s2, oi_, zs, zt, a22, b22, c22, g1, g3, g4, g1b, g3b, g4b, w1, w2, z, nI_1]
  exact find10_ (F := fun f k => f_X15_apart_b25 f σ y (nI p) (nI q) k) step (fun f => by simp [f_X15_apart_b25, show (10 : Int32) ≤ nI 10 from by decide])
end MC57
section KC57
variable {ka : Nat → Nat} {TX : Nat → Nat → (Nat → Int32) → Nat → (Nat → Int32) → Prop} {x y o N0 : Nat}
variable {σ : TH} {G : GH} {A : AS} {N : Nat → Nat}
theorem rc_46 (h : rc_ ka TX σ x G A N) : gc_ G 46 = N 71 ∧ gc_ G 47 = N 71 ∧ gc_ G 48 = N 71 := by
  have := h.2.2.1
  unfold cg_ at this
  simp only [this, and_self]
theorem k_editionAt1 (h : rc_ ka TX σ x G A N) (hN : N 71 ≤ 80) {e : Nat} (he : e < N 71) : f_X11_editionAt σ x (nI e) = some (some (ga_ G 46 e), σ) ∧ kd_ σ (ga_ G 46 e) = 3 := by
  have hx := rc_x h
  obtain ⟨e1, e2⟩ := rc_r1206 h
  have hl := rc_l7 h (by omega)
  have l1 := l_size hl
  have l2 := l_get hl he
  have hkd : kd_ σ (ga_ G 46 e) = 3 := (h.1.2 46 e (by rw [(rc_46 h).1]; exact he)).1
  have g := rg_in he (show N 71 < 2 ^ 31 by omega)
  refine ⟨?_, hkd⟩
  simp [f_X11_editionAt, f_X11_editionAt_b32, gt_, lt_, nn_, oc_, bd_, hx, e1, e2, l1, l2, k_within, bi_, g, hkd]
theorem k_editionAt0 (h : rc_ ka TX σ x G A N) (hN : N 71 ≤ 80) {a : Int32} (ha : a < 0 ∨ nI (N 71) ≤ a) : f_X11_editionAt σ x a = some (none, σ) := by
  have hx := rc_x h
  obtain ⟨e1, e2⟩ := rc_r1206 h
  have hl := rc_l7 h (by omega)
  have l1 := l_size hl
  have g := rg_out (show N 71 < 2 ^ 31 by omega) ha
  simp [f_X11_editionAt, f_X11_editionAt_b32, gt_, lt_, nn_, oc_, bd_, hx, e1, e2, l1, k_within, bi_, g]
theorem k_ed (h : rc_ ka TX σ x G A N) {e : Nat} (he : e < N 71) : (fi_ σ 200 (ga_ G 46 e) = aE A 1300 e ∧ fi_ σ 201 (ga_ G 46 e) = aE A 1301 e ∧ fi_ σ 202 (ga_ G 46 e) = aE A 1302 e ∧ fi_ σ 203 (ga_ G 46 e) = aE A 1303 e ∧ fi_ σ 204 (ga_ G 46 e) = aE A 1304 e ∧ fi_ σ 205 (ga_ G 46 e) = aE A 1305 e ∧ fi_ σ 206 (ga_ G 46 e) = aE A 1306 e ∧ fi_ σ 207 (ga_ G 46 e) = aE A 1308 e) ∧ (fr_ σ 208 (ga_ G 46 e) = some (ga_ G 47 e) ∧ kd_ σ (ga_ G 47 e) = 20 ∧ ln_ σ (ga_ G 47 e) = 10 ∧ ∀ k, k < 10 → bt (aE A 1306 e) k = true → ai_ σ (ga_ G 47 e) k = aD A e k) ∧ (fr_ σ 209 (ga_ G 46 e) = some (ga_ G 48 e) ∧ kd_ σ (ga_ G 48 e) = 20 ∧ ln_ σ (ga_ G 48 e) = 10 ∧ ∀ k, k < 10 → bt (aE A 1306 e) k = true → ai_ σ (ga_ G 48 e) k = stn9_ A e k) := by
  obtain ⟨c1, c2, c3⟩ := rc_46 h
  obtain ⟨q0, q1, q2, q3, q4, q5, q6, q7, q8, q9⟩ := h.2.2.2 46 e (by rw [c1]; exact he)
  have h47 := h.2.2.2 47 e (by rw [c2]; exact he)
  have h48 := h.2.2.2 48 e (by rw [c3]; exact he)
  obtain ⟨k1, -, k3, -⟩ := h.1.2 47 e (by rw [c2]; exact he)
  obtain ⟨l1, -, l3, -⟩ := h.1.2 48 e (by rw [c3]; exact he)
  refine ⟨⟨q0, q1, q2, q3, q4, q5, q6, q7⟩, ⟨q8, k1, k3 (by decide), fun k hk hb => ?_⟩, ⟨q9, l1, l3 (by decide), fun k hk hb => ?_⟩⟩
  · exact h47 k hk (fun z => by rw [bit_and' _ (by omega)] at z; rw [z] at hb; cases hb)
  · have := h48 k hk (fun z => by rw [bit_and' _ (by omega)] at z; rw [z] at hb; cases hb)
    refine Eq.trans this ?_
    unfold stn9_
    by_cases z : bt (aE A 1307 e) k = true
    · rw [if_pos z, if_pos (fun q => by rw [bit_and' _ (by omega)] at q; rw [q] at z; cases z)]
    · rw [if_neg z, if_neg (fun q => q (by rw [bit_and' _ (by omega)]; simpa using z))]
theorem k_hasPrinted (h : rc_ ka TX σ x G A N) {e k : Nat} (he : e < N 71) (hk : k < 10) : f_X1_hasPrinted σ (ga_ G 46 e) (nI k) = some (bi_ (bt (aE A 1306 e) k = true), σ) := by
  have hkd : kd_ σ (ga_ G 46 e) = 3 := (h.1.2 46 e (by rw [(rc_46 h).1]; exact he)).1
  obtain ⟨⟨-, -, -, -, -, -, q6, -⟩, -⟩ := k_ed h he
  have g5 := kd9_ hk
  have s := bit_and (aE A 1306 e) (k := k) (by omega)
  by_cases z : bt (aE A 1306 e) k = true
  · simp [f_X1_hasPrinted, f_X1_hasPrinted_b22, f_X1_hasPrinted_b23, gt_, lt_, nn_, oc_, bd_, k_isKind, bi_, g5, hkd, q6, s, z]
  · simp [f_X1_hasPrinted, f_X1_hasPrinted_b22, f_X1_hasPrinted_b23, gt_, lt_, nn_, oc_, bd_, k_isKind, bi_, g5, hkd, q6, s, z]
theorem k_hasPrinted0 {a : Nat} {b : Int32} (hb : ¬ ((0 : Int32) ≤ b ∧ b ≤ 9)) : f_X1_hasPrinted σ a b = some (0, σ) := by
  simp [f_X1_hasPrinted, f_X1_hasPrinted_b22, f_X1_hasPrinted_b23, gt_, lt_, nn_, oc_, bd_, k_isKind, bi_, hb]
theorem k_valueNow (h : rc_ ka TX σ x G A N) {p k t : Nat} (hp : p < N 5) (hN : N 5 ≤ 30) (hk : k < 10) (ht : lt9_ A N p k = some t) (v : Int32) : f_X11_valueNow σ x (nI p) (nI k) v = some (vn9_ A N p k, σ) := by
  have hx := rc_x h
  have l := k_latest h hp hN hk
  obtain ⟨-, f1, f2, -⟩ := k_tell h hp hN hk ht
  rw [ht] at l
  simp [f_X11_valueNow, f_X11_valueNow_b22, gt_, lt_, nn_, oc_, bd_, hx, l, f1, f2, vn9_, ht]
theorem k_isWrong (h : rc_ ka TX σ x G A N) {e p k : Nat} (he : e < N 71) (hp : p < N 5) (hN : N 5 ≤ 30) (hk : k < 10) (hpe : aE A 1300 e = nI p) (hE : ∀ k, k < 10 → aE A 1306 e &&& ((1 : Int32) <<< nI k) ≠ 0 → lt9_ A N p k ≠ none) : f_X11_isWrong σ x (some (ga_ G 46 e)) (nI k) = some (bi_ (wr9_ A N e p k = true), σ) := by
  have hx := rc_x h
  have hkd : kd_ σ (ga_ G 46 e) = 3 := (h.1.2 46 e (by rw [(rc_46 h).1]; exact he)).1
  obtain ⟨⟨q0, -⟩, -, ⟨s1, s2, s3, s4⟩⟩ := k_ed h he
  rw [hpe] at q0
  have hp1 := k_hasPrinted h he hk
  have g1 : ¬ nI k < 0 := nI_pos (by omega)
  have g3 : (nI k).toNatClampNeg = k := nI_clamp (by omega)
  have g4 : ¬ 10 ≤ k := by omega
  by_cases z : bt (aE A 1306 e) k = true
  · have hne := hE k hk (fun q => by rw [bit_and' _ (by omega)] at q; rw [q] at z; cases z)
    obtain ⟨t, ht⟩ := Option.ne_none_iff_exists'.mp hne
    have s4 := s4 k hk z
    have vn := k_valueNow h hp hN hk ht (stn9_ A e k)
    by_cases q : vn9_ A N p k = stn9_ A e k
    · rw [q] at vn
      simp [f_X11_isWrong, f_X11_isWrong_b36, gt_, lt_, nn_, oc_, bd_, hx, hkd, hp1, z, bi_, s1, s2, s3, s4, q0, g1, g3, g4, vn, wr9_, q]
    · simp [f_X11_isWrong, f_X11_isWrong_b36, gt_, lt_, nn_, oc_, bd_, hx, hkd, hp1, z, bi_, s1, s2, s3, s4, q0, g1, g3, g4, vn, wr9_, q]
  · simp [f_X11_isWrong, gt_, lt_, nn_, oc_, bd_, hkd, hp1, z, bi_, wr9_]
theorem ok_editionOf : St_editionOf ka x y (inv_ ka TX pv_ x y o N0) := fun n c m a0 a1 hn hI => by
  obtain ⟨GC, GM, N, k1, k2, k3, k4, k5, k6, k7, k8⟩ := id hI
  have hN := (mo_n k1 (j := 5) (cj := 1605) (m := 30) (by decide)).2
  obtain ⟨e6, hN6⟩ := mo_n k1 (j := 6) (cj := 1606) (m := 5257439) (by decide)
  have hb : mr_ (bm_ m c) y GM (as_ m y GM) N := mr_bm (mr_of k1) (Nat.le_of_eq k5.1)
  have hN71 := (mo_n k1 (j := 71) (cj := 1671) (m := 80) (by decide)).2
  have hx := rc_x k2
  rcases rg_ a0 (n := N 71) (by omega) with ⟨e, he, rfl⟩ | hout
  · refine ⟨_, c, _, ?_, m_editionOf hb he a1, ask_ hI pv_S⟩
    obtain ⟨p1, p2⟩ := k_editionAt1 k2 hN71 he
    obtain ⟨⟨q0, q1, q2, q3, q4, q5, q6, q7⟩, -, -⟩ := k_ed k2 he
    by_cases w0 : a1 = 0
    · subst w0
      simp [f_X11_editionOf, gt_, lt_, nn_, oc_, bd_, hx, p1, p2, q0, q1, q2, q3, q4, q5, q6, q7, eo9_]
    by_cases w1 : a1 = 1
    · subst w1
      simp [f_X11_editionOf, gt_, lt_, nn_, oc_, bd_, hx, p1, p2, q0, q1, q2, q3, q4, q5, q6, q7, eo9_]
    by_cases w2 : a1 = 2
    · subst w2
      simp [f_X11_editionOf, gt_, lt_, nn_, oc_, bd_, hx, p1, p2, q0, q1, q2, q3, q4, q5, q6, q7, eo9_]
    by_cases w3 : a1 = 3
    · subst w3
      simp [f_X11_editionOf, gt_, lt_, nn_, oc_, bd_, hx, p1, p2, q0, q1, q2, q3, q4, q5, q6, q7, eo9_]
    by_cases w4 : a1 = 4
    · subst w4
      simp [f_X11_editionOf, gt_, lt_, nn_, oc_, bd_, hx, p1, p2, q0, q1, q2, q3, q4, q5, q6, q7, eo9_]
    by_cases w5 : a1 = 5
    · subst w5
      simp [f_X11_editionOf, gt_, lt_, nn_, oc_, bd_, hx, p1, p2, q0, q1, q2, q3, q4, q5, q6, q7, eo9_]
    by_cases w6 : a1 = 6
    · subst w6
      simp [f_X11_editionOf, gt_, lt_, nn_, oc_, bd_, hx, p1, p2, q0, q1, q2, q3, q4, q5, q6, q7, eo9_]
    by_cases w7 : a1 = 7
    · subst w7
      simp [f_X11_editionOf, gt_, lt_, nn_, oc_, bd_, hx, p1, p2, q0, q1, q2, q3, q4, q5, q6, q7, eo9_]
    simp [f_X11_editionOf, gt_, lt_, nn_, oc_, bd_, hx, p1, eo9_, w0, w1, w2, w3, w4, w5, w6, w7]
  · refine ⟨-1, c, si_ (bm_ m c) 1600 y 0, by simp [f_X11_editionOf, gt_, lt_, nn_, oc_, bd_, hx, k_editionAt0 k2 hN71 hout], ?_, ask_ hI pv_S⟩
    have i0 := m_isEdition0 (mr_si hb (j := 0) (c := 1600) (by decide) 0) hout
    unfold f_X15_editionOf
    rw [gt_t (show kd_ (bm_ m c) y = 17 from mo_yb k1), lt_e, i0, bd_s, if_pos rfl]
theorem ek9_ (N : Nat → Nat) (hN : N 71 ≤ 80) (a b : Int32) : (∃ e k, e < N 71 ∧ k < 10 ∧ a = nI e ∧ b = nI k) ∨ ((a < 0 ∨ nI (N 71) ≤ a) ∨ ∃ e, e < N 71 ∧ a = nI e ∧ ¬ ((0 : Int32) ≤ b ∧ b ≤ 9)) := by
  rcases rg_ a (n := N 71) (by omega) with ⟨p, hp, rfl⟩ | h
  · by_cases q : (0 : Int32) ≤ b ∧ b ≤ 9
    · obtain ⟨k, hk, rfl⟩ := kind_ q
      exact Or.inl ⟨p, k, hp, hk, rfl, rfl⟩
    · exact Or.inr (Or.inr ⟨p, hp, rfl, q⟩)
  · exact Or.inr (Or.inl h)
theorem ok_said : St_said ka x y (inv_ ka TX pv_ x y o N0) := fun n c m a0 a1 hn hI => by
  obtain ⟨GC, GM, N, k1, k2, k3, k4, k5, k6, k7, k8⟩ := id hI
  have hN := (mo_n k1 (j := 5) (cj := 1605) (m := 30) (by decide)).2
  obtain ⟨e6, hN6⟩ := mo_n k1 (j := 6) (cj := 1606) (m := 5257439) (by decide)
  have hb : mr_ (bm_ m c) y GM (as_ m y GM) N := mr_bm (mr_of k1) (Nat.le_of_eq k5.1)
  have hN71 := (mo_n k1 (j := 71) (cj := 1671) (m := 80) (by decide)).2
  have hx := rc_x k2
  rcases ek9_ N hN71 a0 a1 with ⟨e, k, he, hk, rfl, rfl⟩ | hout
  · refine ⟨_, c, _, ?_, m_said hb he hk, ask_ hI pv_S⟩
    obtain ⟨p1, p2⟩ := k_editionAt1 k2 hN71 he
    obtain ⟨-, ⟨s1, s2, s3, s4⟩, -⟩ := k_ed k2 he
    have hp1 := k_hasPrinted k2 he hk
    have g1 : ¬ nI k < 0 := nI_pos (by omega)
    have g3 : (nI k).toNatClampNeg = k := nI_clamp (by omega)
    have g4 : ¬ 10 ≤ k := by omega
    by_cases z : bt (aE (as_ m y GM) 1306 e) k = true
    · have s4 := s4 k hk z
      simp [f_X11_said, gt_, lt_, nn_, oc_, bd_, hx, p1, p2, hp1, z, bi_, s1, s2, s3, s4, g1, g3, g4]
    · simp [f_X11_said, f_X11_said_b18, gt_, lt_, nn_, oc_, bd_, hx, p1, p2, hp1, z, bi_]
  · refine ⟨-2147483648, c, _, ?_, m_said0 hb hout, ask_ hI pv_S⟩
    rcases hout with hout | ⟨e, he, rfl, hb2⟩
    · simp [f_X11_said, f_X11_said_b18, gt_, lt_, nn_, oc_, bd_, hx, k_editionAt0 k2 hN71 hout]
    · obtain ⟨p1, p2⟩ := k_editionAt1 k2 hN71 he
      simp [f_X11_said, f_X11_said_b18, gt_, lt_, nn_, oc_, bd_, hx, p1, p2, k_hasPrinted0 hb2]
theorem ok_wrong : St_wrong ka x y (inv_ ka TX pv_ x y o N0) := fun n c m a0 hn hI => by
  obtain ⟨GC, GM, N, k1, k2, k3, k4, k5, k6, k7, k8⟩ := id hI
  have hN := (mo_n k1 (j := 5) (cj := 1605) (m := 30) (by decide)).2
  obtain ⟨e6, hN6⟩ := mo_n k1 (j := 6) (cj := 1606) (m := 5257439) (by decide)
  have hb : mr_ (bm_ m c) y GM (as_ m y GM) N := mr_bm (mr_of k1) (Nat.le_of_eq k5.1)
  have hN71 := (mo_n k1 (j := 71) (cj := 1671) (m := 80) (by decide)).2
  have hx := rc_x k2
  rcases rg_ a0 (n := N 71) (by omega) with ⟨e, he, rfl⟩ | hout
  · obtain ⟨p, ⟨hp, hpe⟩, hE⟩ := k3.2.2.2.2.1 e he
    refine ⟨bo_ (wr9_ (as_ m y GM) N e p) 10, c, si_ (bm_ m c) 1600 y 0, ?_, ?_, ask_ hI pv_S⟩
    · obtain ⟨p1, p2⟩ := k_editionAt1 k2 hN71 he
      have l : f_X11_wrong_b17 fu_ c x (some (ga_ GC 46 e)) 0 0 = some (bo_ (wr9_ (as_ m y GM) N e p) 10, c) := by
        refine lp_ (F := fun f acc i => f_X11_wrong_b17 f c x (some (ga_ GC 46 e)) acc i) 10 (fun i => bo_ (wr9_ (as_ m y GM) N e p) i) (fun f k hk => ?_) (fun f => ?_) (by omega)
        · have g0 := kin_ hk
          have s := k_isWrong k2 he hp hN hk hpe hE
          by_cases z : wr9_ (as_ m y GM) N e p k = true
          · simp [f_X11_wrong_b17, f_X11_wrong_b41, gt_, lt_, nn_, oc_, bd_, hx, g0, s, z, bi_, bo_, nI_1]
          · simp [f_X11_wrong_b17, f_X11_wrong_b41, gt_, lt_, nn_, oc_, bd_, hx, g0, s, z, bi_, bo_, nI_1]
        · simp [f_X11_wrong_b17, show (10 : Int32) ≤ nI 10 from by decide]
      unfold f_X11_wrong
      rw [gt_t hx, p1, bd_s, oc_s]
      exact l
    · have hb1 := mr_si hb (j := 0) (c := 1600) (by decide) 0
      have w := m_wrongOf hb1 k3.1 he hpe hE
      unfold f_X15_wrong
      rw [gt_t (show kd_ (bm_ m c) y = 17 from mo_yb k1), lt_e]
      generalize si_ (bm_ m c) 1600 y 0 = σ at hb1 w ⊢
      have i5 := m_isEdition1 hb1 he
      obtain ⟨v1, -, -, v4, -, -, v7, -⟩ := mr_E hb1 he
      obtain ⟨a82, b82, c82⟩ := mo_a hb1.1 (j := 82) (cj := 1682) (K := 28) (n := 80) (by decide)
      have g1 : ¬ nI e < 0 := nI_pos (by omega)
      have g3 : (nI e).toNatClampNeg = e := nI_clamp (by omega)
      have g4 : ¬ 80 ≤ e := by omega
      simp [f_X15_wrong_b27, gt_, lt_, nn_, oc_, bd_, i5, a82, b82, c82, g1, g3, g4, v7, w]
  · refine ⟨-1, c, si_ (bm_ m c) 1600 y 0, by simp [f_X11_wrong, gt_, lt_, nn_, oc_, bd_, hx, k_editionAt0 k2 hN71 hout], ?_, ask_ hI pv_S⟩
    have i0 := m_isEdition0 (mr_si hb (j := 0) (c := 1600) (by decide) 0) hout
    unfold f_X15_wrong
    rw [gt_t (show kd_ (bm_ m c) y = 17 from mo_yb k1), lt_e, i0, bd_s, if_pos rfl]
    rfl
/-- granted on both sides, nothing else moves -/
theorem yes_ {n : Nat} {c m : TH} (hI : inv_ ka TX pv_ x y o N0 n c m) : wf_ (si_ c 1214 x 0) ∧ wf_ (tr_ (si_ (bm_ m (si_ c 1214 x 0)) 1600 y 0) y 0) ∧ inv_ ka TX pv_ x y o N0 (n + 1) (bm_ (si_ c 1214 x 0) (tr_ (si_ (bm_ m (si_ c 1214 x 0)) 1600 y 0) y 0)) (tr_ (si_ (bm_ m (si_ c 1214 x 0)) 1600 y 0) y 0) := no_ pv_S hI 0 (by decide)
theorem ok_ages : St_ages ka x y (inv_ ka TX pv_ x y o N0) := fun n c m a0 a1 hn hI => by
  obtain ⟨GC, GM, N, k1, k2, k3, k4, k5, k6, k7, k8⟩ := id hI
  have hN := (mo_n k1 (j := 5) (cj := 1605) (m := 30) (by decide)).2
  obtain ⟨e6, hN6⟩ := mo_n k1 (j := 6) (cj := 1606) (m := 5257439) (by decide)
  have hb : mr_ (bm_ m c) y GM (as_ m y GM) N := mr_bm (mr_of k1) (Nat.le_of_eq k5.1)
  have hx := rc_x k2
  have n6 := k_now k2 e6 hN6
  have hbz : ∀ v, mr_ (bm_ m (si_ c 1214 x v)) y GM (as_ m y GM) N := fun v => mr_bm (mr_of k1) (Nat.le_of_eq k5.1)
  rcases rg_ a0 (n := N 5) (by omega) with ⟨p, hp, rfl⟩ | hout
  · obtain ⟨p1, p2⟩ := k_person1 k2 hN hp
    by_cases hd : nI (td_ N) ≤ a1 ∧ a1 ≤ 3650
    · refine ⟨_, si_ c 1214 x 0, _, ?_, m_ages (hbz 0) hp hd, yes_ hI⟩
      simp [f_X11_ages, gt_, lt_, nn_, oc_, bd_, hx, p1, n6, k_within, bi_, hd, k_staleKinds k2 hp hN, k_granted hx]
    · refine ⟨-1, si_ c 1214 x 2, tr_ (si_ (bm_ m (si_ c 1214 x 2)) 1600 y 0) y 2, ?_, ?_, no_ pv_S hI 2 (by decide)⟩
      · simp [f_X11_ages, gt_, lt_, nn_, oc_, bd_, hx, p1, n6, k_within, bi_, hd, k_refused hx]
      · have h1 := mr_si (hbz 2) (j := 0) (c := 1600) (by decide) 0
        unfold f_X15_ages
        rw [gt_t (show kd_ (bm_ m (si_ c 1214 x 2)) y = 17 from mo_yb k1), lt_e]
        generalize si_ (bm_ m (si_ c 1214 x 2)) 1600 y 0 = σ at h1 ⊢
        simp [f_X15_ages_b51, gt_, lt_, nn_, oc_, bd_, m_isPerson1 h1.1 hp, m_today2 h1, m_in, bi_, hd, m_refused (mo_y h1.1)]
  · refine ⟨-1, si_ c 1214 x 1, tr_ (si_ (bm_ m (si_ c 1214 x 1)) 1600 y 0) y 1, ?_, ?_, no_ pv_S hI 1 (by decide)⟩
    · simp [f_X11_ages, gt_, lt_, nn_, oc_, bd_, hx, k_person0 k2 hN hout, k_refused hx]
    · have h1 := mr_si (hbz 1) (j := 0) (c := 1600) (by decide) 0
      unfold f_X15_ages
      rw [gt_t (show kd_ (bm_ m (si_ c 1214 x 1)) y = 17 from mo_yb k1), lt_e]
      generalize si_ (bm_ m (si_ c 1214 x 1)) 1600 y 0 = σ at h1 ⊢
      simp [f_X15_ages_b51, gt_, lt_, nn_, oc_, bd_, m_isPerson0 h1.1 hout, m_refused (mo_y h1.1)]
theorem k_apartL (h : rc_ ka TX σ x G A N) (hN : N 5 ≤ 30) {p q : Nat} (hp : p < N 5) (hq : q < N 5) : f_X11_apart_b27 fu_ σ (some (ga_ G 31 p)) (some (ga_ G 31 q)) 0 = some ((match (List.range 10).find? (fun k => match lt9_ A N p k, lt9_ A N q k with | some s, some t => !decide (aV A 22 s = aV A 22 t) | _, _ => false) with | none => -2 | some k => nI k), σ) := by
  obtain ⟨f1, f2, f3, f4, f5⟩ := k_facts h hp
  obtain ⟨d1, d2, d3, d4, d5⟩ := k_facts h hq
  refine find10_ (F := fun f k => f_X11_apart_b27 f σ (some (ga_ G 31 p)) (some (ga_ G 31 q)) k) (fun f k hk => ?_) (fun f => by simp [f_X11_apart_b27, show (10 : Int32) ≤ nI 10 from by decide])
  have g0 := kin_ hk
  have g1 : ¬ nI k < 0 := nI_pos (by omega)
  have g3 : (nI k).toNatClampNeg = k := nI_clamp (by omega)
  have g4 : ¬ 10 ≤ k := by omega
  have r1 := (f5 k hk).1
  have r2 := (d5 k hk).1
  cases h1 : lt9_ A N p k with
  | none =>
    rw [h1] at r1
    simp [f_X11_apart_b27, f_X11_apart_b79, gt_, lt_, nn_, oc_, bd_, g0, g1, g3, g4, f1, f2, f3, f4, d1, d2, d3, d4, r1, r2, nI_1]
  | some s =>
    rw [h1] at r1
    obtain ⟨-, s1, s2, -⟩ := k_tell h hp hN hk h1
    cases h2 : lt9_ A N q k with
    | none =>
      rw [h2] at r2
      simp [f_X11_apart_b27, f_X11_apart_b79, gt_, lt_, nn_, oc_, bd_, g0, g1, g3, g4, f1, f2, f3, f4, d1, d2, d3, d4, r1, r2, nI_1]
    | some t =>
      rw [h2] at r2
      obtain ⟨-, t1, t2, -⟩ := k_tell h hq hN hk h2
      by_cases z : aV A 22 s = aV A 22 t
      · simp [f_X11_apart_b27, f_X11_apart_b79, gt_, lt_, nn_, oc_, bd_, g0, g1, g3, g4, f1, f2, f3, f4, d1, d2, d3, d4, r1, r2, s1, s2, t1, t2, z, nI_1]
      · simp [f_X11_apart_b27, f_X11_apart_b79, gt_, lt_, nn_, oc_, bd_, g0, g1, g3, g4, f1, f2, f3, f4, d1, d2, d3, d4, r1, r2, s1, s2, t1, t2, z, nI_1]
theorem ok_apart : St_apart ka x y (inv_ ka TX pv_ x y o N0) := fun n c m a0 a1 hn hI => by
  obtain ⟨GC, GM, N, k1, k2, k3, k4, k5, k6, k7, k8⟩ := id hI
  have hN := (mo_n k1 (j := 5) (cj := 1605) (m := 30) (by decide)).2
  obtain ⟨e6, hN6⟩ := mo_n k1 (j := 6) (cj := 1606) (m := 5257439) (by decide)
  have hb : mr_ (bm_ m c) y GM (as_ m y GM) N := mr_bm (mr_of k1) (Nat.le_of_eq k5.1)
  have hx := rc_x k2
  have hy : kd_ (bm_ m c) y = 17 := mo_yb k1
  have hb1 := mr_si hb (j := 0) (c := 1600) (by decide) 0
  rcases rg_ a0 (n := N 5) (by omega) with ⟨p, hp, rfl⟩ | hout
  · obtain ⟨p1, p2⟩ := k_person1 k2 hN hp
    rcases rg_ a1 (n := N 5) (by omega) with ⟨q, hq, rfl⟩ | hout
    · obtain ⟨q1, q2⟩ := k_person1 k2 hN hq
      have u1 := k_apartL k2 hN hp hq
      have u2 := m_apartL hb1 k3.1 (p := p) (q := q)
      refine ⟨_, c, si_ (bm_ m c) 1600 y 0, ?_, Eq.trans ?_ u2, ask_ hI pv_S⟩
      · unfold f_X11_apart
        rw [gt_t hx, p1, bd_s, q1, bd_s, oc_s, oc_s]
        exact u1
      · unfold f_X15_apart
        rw [gt_t hy, lt_e, m_isPerson1 hb1.1 hp, bd_s, if_neg (by decide), m_isPerson1 hb1.1 hq, bd_s, if_neg (by decide)]
    · refine ⟨-1, c, si_ (bm_ m c) 1600 y 0, ?_, ?_, ask_ hI pv_S⟩
      · simp [f_X11_apart, f_X11_apart_b22, gt_, lt_, nn_, oc_, bd_, hx, p1, k_person0 k2 hN hout]
      · unfold f_X15_apart
        rw [gt_t hy, lt_e, m_isPerson1 hb1.1 hp, bd_s, if_neg (by decide), m_isPerson0 hb1.1 hout, bd_s, if_pos rfl]
        rfl
  · refine ⟨-1, c, si_ (bm_ m c) 1600 y 0, ?_, ?_, ask_ hI pv_S⟩
    · have k0 := k_person0 k2 hN hout
      rcases rg_ a1 (n := N 5) (by omega) with ⟨q, hq, rfl⟩ | hout2
      · obtain ⟨q1, q2⟩ := k_person1 k2 hN hq
        simp [f_X11_apart, f_X11_apart_b22, gt_, lt_, nn_, oc_, bd_, hx, k0, q1]
      · simp [f_X11_apart, f_X11_apart_b22, gt_, lt_, nn_, oc_, bd_, hx, k0, k_person0 k2 hN hout2]
    · unfold f_X15_apart
      rw [gt_t hy, lt_e, m_isPerson0 hb1.1 hout, bd_s, if_pos rfl]
      rfl
end KC57
