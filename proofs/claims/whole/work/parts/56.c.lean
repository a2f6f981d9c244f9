/-! CALLS: about, ages, known, knownOn, apart. Written by wip/b/mk56.py. -/
def ab9_ (A : AS) (N : Nat → Nat) (p : Nat) (w : Int32) : Int32 := if w = 0 then aV A 8 p else if w = 1 then ag_ A N p else if w = 2 then aV A 10 p else if w = 3 then aV A 11 p else if w = 4 then bi_ (0 ≤ aV A 12 p) else if w = 5 then aV A 12 p else if w = 6 then aV A 16 p else if w = 7 then nI (st_ A N p) else if w = 8 then bcf (bo_ (tk9_ A p) 10) else if w = 9 then bcf (bo_ (sl9_ A p (nI (td_ N))) 10) else -1
def kn9_ (A : AS) (N : Nat → Nat) (p k t : Nat) (w : Int32) : Int32 := if w = 0 then aV A 22 t else if w = 1 then aV A 24 t else if w = 2 then aV A 23 t else if w = 3 then aV A 19 (10 * p + k) else if w = 4 then bi_ (sl9_ A p (nI (td_ N)) k = true) else if w = 5 then nI (cn_ (tq_ A (nI p) (nI k)) (N 17)) else -1
section MC56
variable {σ : TH} {y : Nat} {G : GH} {A : AS} {N : Nat → Nat}
theorem m_about (h : mr_ σ y G A N) (hH : pvH A N) {p : Nat} (hp : p < N 5) (h15 : aV A 15 p = bi_ (0 ≤ aV A 12 p)) (h16 : aV A 16 p = 0 ∨ aV A 16 p = 1) (w : Int32) : f_X15_about σ y (nI p) w = some (ab9_ A N p w, si_ σ 1600 y 0) := by
  have hy := mo_y h.1
  have h := mr_si h (j := 0) (c := 1600) (by decide) 0
  unfold f_X15_about
  rw [gt_t hy, lt_e]
  generalize si_ σ 1600 y 0 = σ at h ⊢
  have hy := mo_y h.1
  have hN := (mo_n h.1 (j := 5) (cj := 1605) (m := 30) (by decide)).2
  have i5 := m_isPerson1 h.1 hp
  have n6 := m_today2 h
  have s1 := m_ageOn h hH hp h15
  have s2 := m_storySize h p
  have s3 := m_kindsOf h (p := p) (by omega)
  have s4 := m_staleOf h (p := p) (by omega) (nI (td_ N))
  have g1 : ¬ nI p < 0 := nI_pos (by omega)
  have g3 : (nI p).toNatClampNeg = p := nI_clamp (by omega)
  have g4 : ¬ 30 ≤ p := by omega
  obtain ⟨a8, b8, c8⟩ := mo_a h.1 (j := 8) (cj := 1608) (K := 20) (n := 30) (by decide)
  have v8 := mr_V h (j := 8) (by decide) p
  obtain ⟨a10, b10, c10⟩ := mo_a h.1 (j := 10) (cj := 1610) (K := 20) (n := 30) (by decide)
  have v10 := mr_V h (j := 10) (by decide) p
  obtain ⟨a11, b11, c11⟩ := mo_a h.1 (j := 11) (cj := 1611) (K := 20) (n := 30) (by decide)
  have v11 := mr_V h (j := 11) (by decide) p
  obtain ⟨a15, b15, c15⟩ := mo_a h.1 (j := 15) (cj := 1615) (K := 22) (n := 30) (by decide)
  have v15 := mr_V h (j := 15) (by decide) p
  obtain ⟨a12, b12, c12⟩ := mo_a h.1 (j := 12) (cj := 1612) (K := 20) (n := 30) (by decide)
  have v12 := mr_V h (j := 12) (by decide) p
  obtain ⟨a16, b16, c16⟩ := mo_a h.1 (j := 16) (cj := 1616) (K := 22) (n := 30) (by decide)
  have v16 := mr_V h (j := 16) (by decide) p
  rw [h15] at v15
  by_cases w0 : w = 0
  · subst w0
    simp [f_X15_about_b117, f_X15_about_b139, gt_, lt_, nn_, oc_, bd_, i5, ab9_, a8, b8, c8, v8, g1, g3, g4]
  by_cases w1 : w = 1
  · subst w1
    simp [gt_, lt_, nn_, oc_, bd_, i5, ab9_, hy, n6, s1, s2, s3, s4, m_bits]
  by_cases w2 : w = 2
  · subst w2
    simp [f_X15_about_b117, f_X15_about_b139, gt_, lt_, nn_, oc_, bd_, i5, ab9_, a10, b10, c10, v10, g1, g3, g4]
  by_cases w3 : w = 3
  · subst w3
    simp [f_X15_about_b117, f_X15_about_b139, gt_, lt_, nn_, oc_, bd_, i5, ab9_, a11, b11, c11, v11, g1, g3, g4]
  by_cases w4 : w = 4
  · subst w4
    simp [f_X15_about_b117, f_X15_about_b139, gt_, lt_, nn_, oc_, bd_, i5, ab9_, a15, b15, c15, v15, g1, g3, g4]
    rcases bi_01 (q := 0 ≤ aV A 12 p) with z | z <;> simp [z]
  by_cases w5 : w = 5
  · subst w5
    simp [f_X15_about_b117, f_X15_about_b139, gt_, lt_, nn_, oc_, bd_, i5, ab9_, a12, b12, c12, v12, g1, g3, g4]
  by_cases w6 : w = 6
  · subst w6
    simp [f_X15_about_b117, f_X15_about_b139, gt_, lt_, nn_, oc_, bd_, i5, ab9_, a16, b16, c16, v16, g1, g3, g4]
    rcases h16 with z | z <;> simp [z]
  by_cases w7 : w = 7
  · subst w7
    simp [gt_, lt_, nn_, oc_, bd_, i5, ab9_, hy, n6, s1, s2, s3, s4, m_bits]
  by_cases w8 : w = 8
  · subst w8
    simp [gt_, lt_, nn_, oc_, bd_, i5, ab9_, hy, n6, s1, s2, s3, s4, m_bits]
  by_cases w9 : w = 9
  · subst w9
    simp [gt_, lt_, nn_, oc_, bd_, i5, ab9_, hy, n6, s1, s2, s3, s4, m_bits]
  simp [gt_, lt_, nn_, oc_, bd_, i5, ab9_, w0, w1, w2, w3, w4, w5, w6, w7, w8, w9]
theorem m_about0 (h : mr_ σ y G A N) {a : Int32} (ha : a < 0 ∨ nI (N 5) ≤ a) (w : Int32) : f_X15_about σ y a w = some (-1, si_ σ 1600 y 0) := by
  have hy := mo_y h.1
  have h := mr_si h (j := 0) (c := 1600) (by decide) 0
  unfold f_X15_about
  rw [gt_t hy, lt_e]
  generalize si_ σ 1600 y 0 = σ at h ⊢
  have i5 := m_isPerson0 h.1 ha
  simp [gt_, lt_, nn_, oc_, bd_, i5]
theorem kd9_ {k : Nat} (hk : k < 10) : (0 : Int32) ≤ nI k ∧ nI k ≤ 9 := ⟨nI_pos' (by omega), nI_le (b := 9) (by omega) (by decide)⟩
theorem m_known (h : mr_ σ y G A N) (hT : pvT A N) {p k : Nat} (hp : p < N 5) (hk : k < 10) (h24 : ∀ t, t < N 17 → aV A 24 t = 0 ∨ aV A 24 t = 1) (w : Int32) : f_X15_known σ y (nI p) (nI k) w = some ((match lt9_ A N p k with | none => -2147483648 | some t => kn9_ A N p k t w), si_ σ 1600 y 0) := by
  have hy := mo_y h.1
  have h := mr_si h (j := 0) (c := 1600) (by decide) 0
  unfold f_X15_known
  rw [gt_t hy, lt_e]
  generalize si_ σ 1600 y 0 = σ at h ⊢
  have hy := mo_y h.1
  have hN := (mo_n h.1 (j := 5) (cj := 1605) (m := 30) (by decide)).2
  have hN6 := (mo_n h.1 (j := 6) (cj := 1606) (m := 5257439) (by decide)).2
  have hN17 := (mo_n h.1 (j := 17) (cj := 1617) (m := 240) (by decide)).2
  have i5 := m_isPerson1 h.1 hp
  have n6 := m_today2 h
  have g5 := kd9_ hk
  have s1 := m_tellingOn h (nI p) (nI k) (nI (td_ N))
  rw [tp_lt9 hT hN6] at s1
  cases ht : lt9_ A N p k with
  | none =>
    rw [ht] at s1
    simp [f_X15_known_b20, gt_, lt_, nn_, oc_, bd_, i5, m_isKind, bi_, g5, n6, s1, oi_]
  | some t =>
    rw [ht] at s1
    have ht1 := (la_some ht).1
    have s2 := m_isStale h (p := p) (k := k) (by omega) hk (nI (td_ N))
    have s3 := m_many h (nI p) (nI k)
    have z1 : ¬ nI t = -1 := nI_n1 (by omega)
    have h24 := h24 t ht1
    have g1 : ¬ nI t < 0 := nI_pos (by omega)
    have g3 : (nI t).toNatClampNeg = t := nI_clamp (by omega)
    have g4 : ¬ 240 ≤ t := by omega
    have g1b : ¬ nI (10 * p + k) < 0 := nI_pos (by omega)
    have g3b : (nI (10 * p + k)).toNatClampNeg = (10 * p + k) := nI_clamp (by omega)
    have g4b : ¬ 300 ≤ (10 * p + k) := by omega
    obtain ⟨a22, b22, c22⟩ := mo_a h.1 (j := 22) (cj := 1622) (K := 20) (n := 240) (by decide)
    have v22 := mr_V h (j := 22) (by decide) t
    obtain ⟨a24, b24, c24⟩ := mo_a h.1 (j := 24) (cj := 1624) (K := 22) (n := 240) (by decide)
    have v24 := mr_V h (j := 24) (by decide) t
    obtain ⟨a23, b23, c23⟩ := mo_a h.1 (j := 23) (cj := 1623) (K := 20) (n := 240) (by decide)
    have v23 := mr_V h (j := 23) (by decide) t
    obtain ⟨a19, b19, c19⟩ := mo_a h.1 (j := 19) (cj := 1619) (K := 20) (n := 300) (by decide)
    have v19 := mr_V h (j := 19) (by decide) (10 * p + k)
    by_cases w0 : w = 0
    · subst w0
      simp [f_X15_known_b107, f_X15_known_b146, gt_, lt_, nn_, oc_, bd_, i5, m_isKind, bi_, g5, n6, s1, oi_, z1, kn9_, ten_, a22, b22, c22, v22, g1, g3, g4, g1b, g3b, g4b]
    by_cases w1 : w = 1
    · subst w1
      simp [f_X15_known_b107, f_X15_known_b146, gt_, lt_, nn_, oc_, bd_, i5, m_isKind, bi_, g5, n6, s1, oi_, z1, kn9_, ten_, a24, b24, c24, v24, g1, g3, g4, g1b, g3b, g4b]
      rcases h24 with z | z <;> simp [z]
    by_cases w2 : w = 2
    · subst w2
      simp [f_X15_known_b107, f_X15_known_b146, gt_, lt_, nn_, oc_, bd_, i5, m_isKind, bi_, g5, n6, s1, oi_, z1, kn9_, ten_, a23, b23, c23, v23, g1, g3, g4, g1b, g3b, g4b]
    by_cases w3 : w = 3
    · subst w3
      simp [f_X15_known_b107, f_X15_known_b146, gt_, lt_, nn_, oc_, bd_, i5, m_isKind, bi_, g5, n6, s1, oi_, z1, kn9_, ten_, a19, b19, c19, v19, g1, g3, g4, g1b, g3b, g4b]
    by_cases w4 : w = 4
    · subst w4
      simp [f_X15_known_b107, f_X15_known_b146, gt_, lt_, nn_, oc_, bd_, i5, m_isKind, bi_, g5, n6, s1, oi_, z1, kn9_, hy, s2]
      split <;> simp_all
    by_cases w5 : w = 5
    · subst w5
      simp [f_X15_known_b107, f_X15_known_b146, gt_, lt_, nn_, oc_, bd_, i5, m_isKind, bi_, g5, n6, s1, oi_, z1, kn9_, hy, s3]
    simp [gt_, lt_, nn_, oc_, bd_, i5, m_isKind, bi_, g5, n6, s1, oi_, z1, kn9_, w0, w1, w2, w3, w4, w5]
theorem m_known0 (h : mr_ σ y G A N) {a b : Int32} (ha : (a < 0 ∨ nI (N 5) ≤ a) ∨ ∃ p, p < N 5 ∧ a = nI p ∧ ¬ ((0 : Int32) ≤ b ∧ b ≤ 9)) (w : Int32) : f_X15_known σ y a b w = some (-2147483648, si_ σ 1600 y 0) := by
  have hy := mo_y h.1
  have h := mr_si h (j := 0) (c := 1600) (by decide) 0
  unfold f_X15_known
  rw [gt_t hy, lt_e]
  generalize si_ σ 1600 y 0 = σ at h ⊢
  rcases ha with ha | ⟨p, hp, rfl, hb⟩
  · have i5 := m_isPerson0 h.1 ha
    simp [f_X15_known_b20, gt_, lt_, nn_, oc_, bd_, i5]
  · have i5 := m_isPerson1 h.1 hp
    simp [f_X15_known_b20, gt_, lt_, nn_, oc_, bd_, i5, m_isKind, bi_, hb]
theorem m_knownOn (h : mr_ σ y G A N) {p k : Nat} (hp : p < N 5) (hk : k < 10) {d : Int32} (hd : 0 ≤ d ∧ d ≤ 3650) : f_X15_knownOn σ y (nI p) (nI k) d = some ((match la_ (tp9_ A (nI p) (nI k) d) (N 17) with | none => -2147483648 | some t => aV A 22 t), si_ σ 1600 y 0) := by
  have hy := mo_y h.1
  have h := mr_si h (j := 0) (c := 1600) (by decide) 0
  unfold f_X15_knownOn
  rw [gt_t hy, lt_e]
  generalize si_ σ 1600 y 0 = σ at h ⊢
  have hN17 := (mo_n h.1 (j := 17) (cj := 1617) (m := 240) (by decide)).2
  have i5 := m_isPerson1 h.1 hp
  have g5 := kd9_ hk
  have s1 := m_tellingOn h (nI p) (nI k) d
  cases ht : la_ (tp9_ A (nI p) (nI k) d) (N 17) with
  | none =>
    rw [ht] at s1
    simp [f_X15_knownOn_b31, f_X15_knownOn_b63, gt_, lt_, nn_, oc_, bd_, i5, m_isKind, m_in, bi_, g5, hd, s1, oi_]
  | some t =>
    rw [ht] at s1
    have ht1 := (la_some ht).1
    have z1 : ¬ nI t = -1 := nI_n1 (by omega)
    have g1 : ¬ nI t < 0 := nI_pos (by omega)
    have g3 : (nI t).toNatClampNeg = t := nI_clamp (by omega)
    have g4 : ¬ 240 ≤ t := by omega
    obtain ⟨a22, b22, c22⟩ := mo_a h.1 (j := 22) (cj := 1622) (K := 20) (n := 240) (by decide)
    have v22 := mr_V h (j := 22) (by decide) t
    simp [f_X15_knownOn_b31, f_X15_knownOn_b63, gt_, lt_, nn_, oc_, bd_, i5, m_isKind, m_in, bi_, g5, hd, s1, oi_, z1, a22, b22, c22, v22, g1, g3, g4]
theorem m_knownOn0 (h : mr_ σ y G A N) {a b d : Int32} (ha : (a < 0 ∨ nI (N 5) ≤ a) ∨ ∃ p, p < N 5 ∧ a = nI p ∧ (¬ ((0 : Int32) ≤ b ∧ b ≤ 9) ∨ ((0 : Int32) ≤ b ∧ b ≤ 9) ∧ ¬ ((0 : Int32) ≤ d ∧ d ≤ 3650))) : f_X15_knownOn σ y a b d = some (-2147483648, si_ σ 1600 y 0) := by
  have hy := mo_y h.1
  have h := mr_si h (j := 0) (c := 1600) (by decide) 0
  unfold f_X15_knownOn
  rw [gt_t hy, lt_e]
  generalize si_ σ 1600 y 0 = σ at h ⊢
  rcases ha with ha | ⟨p, hp, rfl, hb | ⟨hb, hd⟩⟩
  · have i5 := m_isPerson0 h.1 ha
    simp [f_X15_knownOn_b31, gt_, lt_, nn_, oc_, bd_, i5]
  · have i5 := m_isPerson1 h.1 hp
    simp [f_X15_knownOn_b31, gt_, lt_, nn_, oc_, bd_, i5, m_isKind, bi_, hb]
  · have i5 := m_isPerson1 h.1 hp
    simp [f_X15_knownOn_b31, gt_, lt_, nn_, oc_, bd_, i5, m_isKind, m_in, bi_, hb, hd]
end MC56
section KC56
variable {ka : Nat → Nat} {TX : Nat → Nat → (Nat → Int32) → Nat → (Nat → Int32) → Prop} {x y o N0 : Nat}
variable {σ : TH} {G : GH} {A : AS} {N : Nat → Nat}
theorem k_asN (σ : TH) {v : Int32} (h : v = 0 ∨ v = 1) : f_X11_asNumber σ v = some (v, σ) := by
  rcases h with h | h <;> simp [f_X11_asNumber, f_X11_asNumber_b9, h]
theorem k_about (h : rc_ ka TX σ x G A N) {p : Nat} (hp : p < N 5) (hN : N 5 ≤ 30) (hm : aS A 6 = nI (N 6)) (hb : N 6 ≤ 5257439) (w : Int32) : f_X11_about σ x (nI p) w = some (ab9_ A N p w, σ) := by
  have hx := rc_x h
  have hc : p < gc_ G 31 := by rw [rc_31 h]; exact hp
  obtain ⟨p1, p2⟩ := k_person1 h hN hp
  obtain ⟨q0, q1, q2, q3, q4, q5, q6, q7, q8, q9, q10, q11, q12, q13, q14⟩ := h.2.2.2 31 p hc
  have q1 : fi_ σ 301 (ga_ G 31 p) = aV A 8 p := q1
  have q3 : fi_ σ 303 (ga_ G 31 p) = aV A 10 p := q3
  have q4 : fi_ σ 304 (ga_ G 31 p) = aV A 11 p := q4
  have q5 : fi_ σ 305 (ga_ G 31 p) = aV A 12 p := q5
  have q6 : fi_ σ 306 (ga_ G 31 p) = aV A 16 p := q6
  have q8 : fi_ σ 313 (ga_ G 31 p) = nI (st_ A N p) := q8
  have d := k_isDead p2
  rw [q5] at d
  have s1 := k_ageOf h hp hm hb
  have s3 := k_kindsTold h hp
  have s4 := k_staleKinds h hp hN (nI (td_ N))
  have n6 := k_now h hm hb
  have z16 := k_asN σ q14
  by_cases w0 : w = 0
  · subst w0
    simp [f_X11_about, gt_, lt_, nn_, oc_, bd_, hx, p1, p2, ab9_, q1, q3, q4, q5, q6, q8, d, s1, s3, s4, n6, z16, k_asNum, k_bits]
  by_cases w1 : w = 1
  · subst w1
    simp [f_X11_about, gt_, lt_, nn_, oc_, bd_, hx, p1, p2, ab9_, q1, q3, q4, q5, q6, q8, d, s1, s3, s4, n6, z16, k_asNum, k_bits]
  by_cases w2 : w = 2
  · subst w2
    simp [f_X11_about, gt_, lt_, nn_, oc_, bd_, hx, p1, p2, ab9_, q1, q3, q4, q5, q6, q8, d, s1, s3, s4, n6, z16, k_asNum, k_bits]
  by_cases w3 : w = 3
  · subst w3
    simp [f_X11_about, gt_, lt_, nn_, oc_, bd_, hx, p1, p2, ab9_, q1, q3, q4, q5, q6, q8, d, s1, s3, s4, n6, z16, k_asNum, k_bits]
  by_cases w4 : w = 4
  · subst w4
    simp [f_X11_about, gt_, lt_, nn_, oc_, bd_, hx, p1, p2, ab9_, q1, q3, q4, q5, q6, q8, d, s1, s3, s4, n6, z16, k_asNum, k_bits]
  by_cases w5 : w = 5
  · subst w5
    simp [f_X11_about, gt_, lt_, nn_, oc_, bd_, hx, p1, p2, ab9_, q1, q3, q4, q5, q6, q8, d, s1, s3, s4, n6, z16, k_asNum, k_bits]
  by_cases w6 : w = 6
  · subst w6
    simp [f_X11_about, gt_, lt_, nn_, oc_, bd_, hx, p1, p2, ab9_, q1, q3, q4, q5, q6, q8, d, s1, s3, s4, n6, z16, k_asNum, k_bits]
  by_cases w7 : w = 7
  · subst w7
    simp [f_X11_about, gt_, lt_, nn_, oc_, bd_, hx, p1, p2, ab9_, q1, q3, q4, q5, q6, q8, d, s1, s3, s4, n6, z16, k_asNum, k_bits]
  by_cases w8 : w = 8
  · subst w8
    simp [f_X11_about, gt_, lt_, nn_, oc_, bd_, hx, p1, p2, ab9_, q1, q3, q4, q5, q6, q8, d, s1, s3, s4, n6, z16, k_asNum, k_bits]
  by_cases w9 : w = 9
  · subst w9
    simp [f_X11_about, gt_, lt_, nn_, oc_, bd_, hx, p1, p2, ab9_, q1, q3, q4, q5, q6, q8, d, s1, s3, s4, n6, z16, k_asNum, k_bits]
  simp [f_X11_about, gt_, lt_, nn_, oc_, bd_, hx, p1, ab9_, w0, w1, w2, w3, w4, w5, w6, w7, w8, w9]
theorem k_known (h : rc_ ka TX σ x G A N) {p k : Nat} (hp : p < N 5) (hN : N 5 ≤ 30) (hk : k < 10) (hm : aS A 6 = nI (N 6)) (hb : N 6 ≤ 5257439) (w : Int32) : f_X11_known σ x (nI p) (nI k) w = some ((match lt9_ A N p k with | none => -2147483648 | some t => kn9_ A N p k t w), σ) := by
  have hx := rc_x h
  have l := k_latest h hp hN hk
  have n6 := k_now h hm hb
  cases ht : lt9_ A N p k with
  | none =>
    rw [ht] at l
    simp [f_X11_known, gt_, lt_, nn_, oc_, bd_, hx, l]
  | some t =>
    rw [ht] at l
    obtain ⟨-, f1, f2, f3, f4, f5, -, f6, f7⟩ := k_tell h hp hN hk ht
    have s := k_isStale h hp hN hk ht (nI (td_ N))
    have z24 := k_asN σ f7
    by_cases w0 : w = 0
    · subst w0
      simp [f_X11_known, gt_, lt_, nn_, oc_, bd_, hx, l, f1, f2, f3, f4, f5, f6, z24, n6, s, k_asNum, kn9_]
    by_cases w1 : w = 1
    · subst w1
      simp [f_X11_known, gt_, lt_, nn_, oc_, bd_, hx, l, f1, f2, f3, f4, f5, f6, z24, n6, s, k_asNum, kn9_]
    by_cases w2 : w = 2
    · subst w2
      simp [f_X11_known, gt_, lt_, nn_, oc_, bd_, hx, l, f1, f2, f3, f4, f5, f6, z24, n6, s, k_asNum, kn9_]
    by_cases w3 : w = 3
    · subst w3
      simp [f_X11_known, gt_, lt_, nn_, oc_, bd_, hx, l, f1, f2, f3, f4, f5, f6, z24, n6, s, k_asNum, kn9_]
    by_cases w4 : w = 4
    · subst w4
      simp [f_X11_known, gt_, lt_, nn_, oc_, bd_, hx, l, f1, f2, f3, f4, f5, f6, z24, n6, s, k_asNum, kn9_]
    by_cases w5 : w = 5
    · subst w5
      simp [f_X11_known, gt_, lt_, nn_, oc_, bd_, hx, l, f1, f2, f3, f4, f5, f6, z24, n6, s, k_asNum, kn9_]
    simp [f_X11_known, gt_, lt_, nn_, oc_, bd_, hx, l, kn9_, w0, w1, w2, w3, w4, w5]
theorem k_latest0 (h : rc_ ka TX σ x G A N) (hN : N 5 ≤ 30) {a b : Int32} (ha : (a < 0 ∨ nI (N 5) ≤ a) ∨ ∃ p, p < N 5 ∧ a = nI p ∧ ¬ ((0 : Int32) ≤ b ∧ b ≤ 9)) : f_X11_latestTelling σ x a b = some (none, σ) := by
  have hx := rc_x h
  rcases ha with ha | ⟨p, hp, rfl, hb⟩
  · simp [f_X11_latestTelling, f_X11_latestTelling_b17, f_X11_latestTelling_b27, gt_, lt_, nn_, oc_, bd_, hx, k_person0 h hN ha]
  · obtain ⟨p1, p2⟩ := k_person1 h hN hp
    simp [f_X11_latestTelling, f_X11_latestTelling_b17, f_X11_latestTelling_b27, gt_, lt_, nn_, oc_, bd_, hx, p1, k_isKind, bi_, hb]
/-- the chain of tellings, walked back -/
theorem k_chain (h : rc_ ka TX σ x G A N) {p k : Nat} (d : Int32) : ∀ (n f : Nat), n ≤ N 17 → n < f → f_X11_knownOn_b22 f σ d ((la_ (tq_ A (nI p) (nI k)) n).map (ga_ G 36)) = some ((match la_ (tp9_ A (nI p) (nI k) d) n with | none => -2147483648 | some t => aV A 22 t), σ) := by
  intro n
  induction n using Nat.strongRecOn with
  | _ n ih =>
    intro f hn hf
    obtain ⟨f, rfl⟩ : ∃ g, f = g + 1 := ⟨f - 1, by omega⟩
    cases ht : la_ (tq_ A (nI p) (nI k)) n with
    | none =>
      have e : la_ (tp9_ A (nI p) (nI k) d) n = none := by
        have hq := la_none ht
        rw [la_cong (q2 := fun _ => false) n (fun i hi => by simp [tp9_, hq i hi])]
        clear ih ht hq hn hf
        induction n with
        | zero => rfl
        | succ n ih2 => simp [la_, ih2]
      rw [e]
      simp [f_X11_knownOn_b22, gt_, lt_, nn_, oc_, bd_]
    | some t =>
      obtain ⟨h1, h2, h3⟩ := la_some ht
      have h4 : aV A 20 t = nI p ∧ aV A 21 t = nI k := by simpa [tq_] using h2
      have hc : t < gc_ G 36 := by rw [rc_36 h]; omega
      obtain ⟨q0, q1, q2, q3, q4, q5, q6⟩ := h.2.2.2 36 t hc
      rw [h4.1, h4.2] at q4
      have q0 : fi_ σ 900 (ga_ G 36 t) = aV A 22 t := q0
      have q2 : fi_ σ 902 (ga_ G 36 t) = aV A 23 t := q2
      have q4 : fr_ σ 904 (ga_ G 36 t) = (la_ (tq_ A (nI p) (nI k)) t).map (ga_ G 36) := q4
      have hkd : kd_ σ (ga_ G 36 t) = 10 := (h.1.2 36 t hc).1
      have e : la_ (tp9_ A (nI p) (nI k) d) n = la_ (tp9_ A (nI p) (nI k) d) (t + 1) := by
        have : ∀ m, t + 1 ≤ m → m ≤ n → la_ (tp9_ A (nI p) (nI k) d) m = la_ (tp9_ A (nI p) (nI k) d) (t + 1) := by
          intro m
          induction m with
          | zero => intro z; omega
          | succ m ihm =>
            intro z1 z2
            by_cases z : t + 1 = m + 1
            · rw [z]
            · have z3 := h3 m (by omega) (by omega)
              have z4 : tp9_ A (nI p) (nI k) d m = false := by simp [tp9_, z3]
              rw [show la_ (tp9_ A (nI p) (nI k) d) (m + 1) = la_ (tp9_ A (nI p) (nI k) d) m from by
                conv => lhs; unfold la_
                rw [z4]; rfl]
              exact ihm (by omega) (by omega)
        exact this n h1 (Nat.le_refl _)
      by_cases z : d < aV A 23 t
      · have z4 : tp9_ A (nI p) (nI k) d t = false := by simp [tp9_, z]
        rw [e, show la_ (tp9_ A (nI p) (nI k) d) (t + 1) = la_ (tp9_ A (nI p) (nI k) d) t from by
                conv => lhs; unfold la_
                rw [z4]; rfl, ← ih t h1 f (by omega) (by omega)]
        simp [f_X11_knownOn_b22, gt_, lt_, nn_, oc_, bd_, hkd, q2, q4, z]
      · have z4 : tp9_ A (nI p) (nI k) d t = true := by simp [tp9_, tq_, h4, z]
        rw [e, show la_ (tp9_ A (nI p) (nI k) d) (t + 1) = some t from by
                conv => lhs; unfold la_
                rw [z4]; rfl]
        simp [f_X11_knownOn_b22, gt_, lt_, nn_, oc_, bd_, hkd, q0, q2, z]
/-- a person and a kind, or not -/
theorem pk9_ (N : Nat → Nat) (hN : N 5 ≤ 30) (a b : Int32) : (∃ p k, p < N 5 ∧ k < 10 ∧ a = nI p ∧ b = nI k) ∨ ((a < 0 ∨ nI (N 5) ≤ a) ∨ ∃ p, p < N 5 ∧ a = nI p ∧ ¬ ((0 : Int32) ≤ b ∧ b ≤ 9)) := by
  rcases rg_ a (n := N 5) (by omega) with ⟨p, hp, rfl⟩ | h
  · by_cases q : (0 : Int32) ≤ b ∧ b ≤ 9
    · obtain ⟨k, hk, rfl⟩ := kind_ q
      exact Or.inl ⟨p, k, hp, hk, rfl, rfl⟩
    · exact Or.inr (Or.inr ⟨p, hp, rfl, q⟩)
  · exact Or.inr (Or.inl h)
theorem rc_15 (h : rc_ ka TX σ x G A N) {p : Nat} (hp : p < N 5) : aV A 15 p = bi_ (0 ≤ aV A 12 p) ∧ (aV A 16 p = 0 ∨ aV A 16 p = 1) := by
  have hc : p < gc_ G 31 := by rw [rc_31 h]; exact hp
  obtain ⟨q0, q1, q2, q3, q4, q5, q6, q7, q8, q9, q10, q11, q12, q13, q14⟩ := h.2.2.2 31 p hc
  exact ⟨q13, q14⟩
theorem rc_24 (h : rc_ ka TX σ x G A N) : ∀ t, t < N 17 → aV A 24 t = 0 ∨ aV A 24 t = 1 := fun t ht => by
  have hc : t < gc_ G 36 := by rw [rc_36 h]; exact ht
  obtain ⟨q0, q1, q2, q3, q4, q5, q6⟩ := h.2.2.2 36 t hc
  exact q6
theorem ok_about : St_about ka x y (inv_ ka TX pv_ x y o N0) := fun n c m a0 a1 hn hI => by
  obtain ⟨GC, GM, N, k1, k2, k3, k4, k5, k6, k7, k8⟩ := id hI
  have hN := (mo_n k1 (j := 5) (cj := 1605) (m := 30) (by decide)).2
  obtain ⟨e6, hN6⟩ := mo_n k1 (j := 6) (cj := 1606) (m := 5257439) (by decide)
  have hb : mr_ (bm_ m c) y GM (as_ m y GM) N := mr_bm (mr_of k1) (Nat.le_of_eq k5.1)
  rcases rg_ a0 (n := N 5) (by omega) with ⟨p, hp, rfl⟩ | hout
  · exact ⟨_, c, _, k_about k2 hp hN e6 hN6 a1, m_about hb k3.2.1 hp (rc_15 k2 hp).1 (rc_15 k2 hp).2 a1, ask_ hI pv_S⟩
  · exact ⟨-1, c, _, by simp [f_X11_about, gt_, lt_, nn_, oc_, bd_, rc_x k2, k_person0 k2 hN hout], m_about0 hb hout a1, ask_ hI pv_S⟩
theorem ok_known : St_known ka x y (inv_ ka TX pv_ x y o N0) := fun n c m a0 a1 a2 hn hI => by
  obtain ⟨GC, GM, N, k1, k2, k3, k4, k5, k6, k7, k8⟩ := id hI
  have hN := (mo_n k1 (j := 5) (cj := 1605) (m := 30) (by decide)).2
  obtain ⟨e6, hN6⟩ := mo_n k1 (j := 6) (cj := 1606) (m := 5257439) (by decide)
  have hb : mr_ (bm_ m c) y GM (as_ m y GM) N := mr_bm (mr_of k1) (Nat.le_of_eq k5.1)
  rcases pk9_ N hN a0 a1 with ⟨p, k, hp, hk, rfl, rfl⟩ | hout
  · exact ⟨_, c, _, k_known k2 hp hN hk e6 hN6 a2, m_known hb k3.1 hp hk (rc_24 k2) a2, ask_ hI pv_S⟩
  · exact ⟨-2147483648, c, _, by simp [f_X11_known, gt_, lt_, nn_, oc_, bd_, rc_x k2, k_latest0 k2 hN hout], m_known0 hb hout a2, ask_ hI pv_S⟩
theorem ok_knownOn : St_knownOn ka x y (inv_ ka TX pv_ x y o N0) := fun n c m a0 a1 a2 hn hI => by
  obtain ⟨GC, GM, N, k1, k2, k3, k4, k5, k6, k7, k8⟩ := id hI
  have hN := (mo_n k1 (j := 5) (cj := 1605) (m := 30) (by decide)).2
  obtain ⟨e6, hN6⟩ := mo_n k1 (j := 6) (cj := 1606) (m := 5257439) (by decide)
  have hb : mr_ (bm_ m c) y GM (as_ m y GM) N := mr_bm (mr_of k1) (Nat.le_of_eq k5.1)
  have hN17 := (mo_n k1 (j := 17) (cj := 1617) (m := 240) (by decide)).2
  have hx := rc_x k2
  by_cases hd : (0 : Int32) ≤ a2 ∧ a2 ≤ 3650
  · rcases pk9_ N hN a0 a1 with ⟨p, k, hp, hk, rfl, rfl⟩ | hout
    · refine ⟨_, c, _, ?_, m_knownOn hb hp hk hd, ask_ hI pv_S⟩
      have l := k_latest k2 hp hN hk
      have q := k_chain k2 (p := p) (k := k) a2 (N 17) fu_ (Nat.le_refl _) (by unfold fu_; omega)
      unfold f_X11_knownOn
      rw [k_within, bd_s, bi_t hd, if_neg (by decide), gt_t hx, l, bd_s]
      exact q
    · refine ⟨-2147483648, c, _, ?_, m_knownOn0 hb (hout.imp id (fun ⟨p, h1, h2, h3⟩ => ⟨p, h1, h2, Or.inl h3⟩)), ask_ hI pv_S⟩
      unfold f_X11_knownOn
      rw [k_within, bd_s, bi_t hd, if_neg (by decide), gt_t hx, k_latest0 k2 hN hout, bd_s]
      rfl
  · refine ⟨-2147483648, c, _, ?_, ?_, ask_ hI pv_S⟩
    · simp [f_X11_knownOn, gt_, lt_, nn_, oc_, bd_, k_within, bi_, hd]
    · rcases pk9_ N hN a0 a1 with ⟨p, k, hp, hk, rfl, rfl⟩ | hout
      · exact m_knownOn0 hb (Or.inr ⟨p, hp, rfl, Or.inr ⟨kd9_ hk, hd⟩⟩)
      · exact m_knownOn0 hb (hout.imp id (fun ⟨p, h1, h2, h3⟩ => ⟨p, h1, h2, Or.inl h3⟩))
end KC56
