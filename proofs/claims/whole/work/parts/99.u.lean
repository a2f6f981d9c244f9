/-! THE CLASS'S READER ON THE HEAP: its small methods. kh_: a heap whose reader's fields are F, whose steps are X, whose skips are Y. Written by wip/b/mk99u.py. -/
def kh_ (σ : TH) (R S K : Nat) (F X Y : Nat → Int32) : TH := (kd_ σ, ln_ σ, (fun c a => if a = R then F c else fi_ σ c a), fr_ σ, fl_ σ, (fun a i => if a = S then X i else if a = K then Y i else ai_ σ a i), ar_ σ, al_ σ, ow_ σ, nx_ σ, sl_ σ)
def hS_ (σ : TH) (R T S K : Nat) : Prop := kd_ σ R = 8 ∧ (fr_ σ 700 R = some T ∧ fr_ σ 704 R = some S ∧ fr_ σ 705 R = some K) ∧ (kd_ σ T = 21 ∧ ln_ σ T = 400) ∧ (kd_ σ S = 20 ∧ ln_ σ S = 1024) ∧ (kd_ σ K = 20 ∧ ln_ σ K = 5) ∧ K ≠ S ∧ T ≠ S ∧ T ≠ K
/-- a byte as the class sees it -/
def sb9_ (c : Nat) : Int32 := if c < 128 then nI c else if c < 256 then nI c - 256 else 0
def bt9_ (w : Nat → Nat) (n : Nat) (B : Nat → Int32) : Prop := (∀ k, k < n → w k < 256 ∧ B k = sb9_ (w k)) ∧ (∀ k, n ≤ k → w k = 999) ∧ n ≤ 400
theorem bt9_ok {w : Nat → Nat} {n : Nat} {B : Nat → Int32} (h : bt9_ w n B) (k : Nat) : ok9_ (w k) := by
  rcases Nat.lt_or_ge k n with q | q
  · exact Or.inl (h.1 k q).1
  · exact Or.inr (h.2.1 k q)
theorem k_let (σ : TH) {c : Nat} (h : ok9_ c) : f_X6_isLetter σ (sb9_ c) = some (bi_ (tL c = true), σ) := by
  rcases h with h | h
  · have key : ∀ c, c < 256 → (sb9_ c < 97 ∨ 122 < sb9_ c ↔ ¬ tL c = true) := by decide +kernel
    have k := key c h
    unfold f_X6_isLetter f_X6_isLetter_b16 f_X6_isLetter_b17
    by_cases z1 : sb9_ c < 97
    · rw [if_pos z1, bi_f (k.mp (Or.inl z1)), gt_t (by decide)]
    · rw [if_neg z1]
      by_cases z2 : 122 < sb9_ c
      · rw [if_pos z2, bi_f (k.mp (Or.inr z2)), gt_t (by decide)]
      · rw [if_neg z2, bi_t (Classical.byContradiction fun z => (k.mpr z).elim z1 z2), gt_t (by decide)]
  · subst h; rfl
theorem k_dig (σ : TH) {c : Nat} (h : ok9_ c) : f_X6_isDigit σ (sb9_ c) = some (bi_ (tD c = true), σ) := by
  rcases h with h | h
  · have key : ∀ c, c < 256 → (sb9_ c < 48 ∨ 57 < sb9_ c ↔ ¬ tD c = true) := by decide +kernel
    have k := key c h
    unfold f_X6_isDigit f_X6_isDigit_b16 f_X6_isDigit_b17
    by_cases z1 : sb9_ c < 48
    · rw [if_pos z1, bi_f (k.mp (Or.inl z1)), gt_t (by decide)]
    · rw [if_neg z1]
      by_cases z2 : 57 < sb9_ c
      · rw [if_pos z2, bi_f (k.mp (Or.inr z2)), gt_t (by decide)]
      · rw [if_neg z2, bi_t (Classical.byContradiction fun z => (k.mpr z).elim z1 z2), gt_t (by decide)]
  · subst h; rfl
theorem sb9_eq {c : Nat} (h : ok9_ c) {d : Nat} (hd : 0 < d ∧ d < 128) {D : Int32} (e : D = nI d) : sb9_ c = D ↔ c = d := by
  subst e
  rcases h with h | h
  · unfold sb9_
    by_cases z : c < 128
    · rw [if_pos z]; exact nI_eq (by omega) (by omega)
    · rw [if_neg z, if_pos h]
      have key : ∀ c, c < 256 → 128 ≤ c → nI c - 256 < 0 := by decide +kernel
      have k := key c h (by omega)
      constructor
      · intro q; rw [q] at k; exact absurd k (nI_pos (by omega))
      · intro q; omega
  · subst h
    constructor
    · intro q
      have q : (0 : Int32) = nI d := q
      exact absurd q.symm (nI_ne0 hd.1 (by omega))
    · intro q; omega
theorem iq9_ {a b : Nat} {B : Int32} (e : B = nI b) (ha : a < 2 ^ 31) (hb : b < 2 ^ 31) : nI a = B ↔ a = b := by
  rw [e]; exact nI_eq ha hb
theorem ix9_ {k M : Nat} (h : k < M) (hM : k < 2 ^ 31) : ¬ (nI k < 0 ∨ M ≤ k) := fun z => z.elim (nI_pos hM) (by omega)
section KH
variable {σ : TH} {R T S K : Nat} {F X Y : Nat → Int32}
theorem kh_kd : kd_ (kh_ σ R S K F X Y) = kd_ σ := rfl
theorem kh_ln : ln_ (kh_ σ R S K F X Y) = ln_ σ := rfl
theorem kh_fr : fr_ (kh_ σ R S K F X Y) = fr_ σ := rfl
theorem kh_fi (c : Nat) : fi_ (kh_ σ R S K F X Y) c R = F c := if_pos rfl
theorem kh_S (i : Nat) : ai_ (kh_ σ R S K F X Y) S i = X i := if_pos rfl
theorem kh_K (h : K ≠ S) (i : Nat) : ai_ (kh_ σ R S K F X Y) K i = Y i := (if_neg h).trans (if_pos rfl)
theorem kh_T (h : T ≠ S) (h2 : T ≠ K) (i : Nat) : ai_ (kh_ σ R S K F X Y) T i = ai_ σ T i := (if_neg h).trans (if_neg h2)
theorem kh_si (c : Nat) (v : Int32) : si_ (kh_ σ R S K F X Y) c R v = kh_ σ R S K (upd F c v) X Y := by
  have e : up2_ (fun c a => if a = R then F c else fi_ σ c a) c R v = fun c' a => if a = R then upd F c v c' else fi_ σ c' a := by
    funext c' a
    unfold up2_ upd
    by_cases h1 : a = R
    · by_cases h2 : c' = c
      · simp [h1, h2]
      · simp [h1, h2]
    · simp [h1]
  show (kd_ σ, ln_ σ, up2_ (fun c a => if a = R then F c else fi_ σ c a) c R v, fr_ σ, fl_ σ, _, ar_ σ, al_ σ, ow_ σ, nx_ σ, sl_ σ) = _
  rw [e]
  rfl
theorem kh_sS (i : Nat) (v : Int32) : sa_ (kh_ σ R S K F X Y) S i v = kh_ σ R S K F (upd X i v) Y := by
  have e : up2_ (fun a i => if a = S then X i else if a = K then Y i else ai_ σ a i) S i v = fun a j => if a = S then upd X i v j else if a = K then Y j else ai_ σ a j := by
    funext a j
    unfold up2_ upd
    by_cases h1 : a = S
    · by_cases h2 : j = i
      · simp [h1, h2]
      · simp [h1, h2]
    · simp [h1]
  show (kd_ σ, ln_ σ, _, fr_ σ, fl_ σ, up2_ (fun a i => if a = S then X i else if a = K then Y i else ai_ σ a i) S i v, ar_ σ, al_ σ, ow_ σ, nx_ σ, sl_ σ) = _
  rw [e]
  rfl
theorem kh_sK (h : K ≠ S) (i : Nat) (v : Int32) : sa_ (kh_ σ R S K F X Y) K i v = kh_ σ R S K F X (upd Y i v) := by
  have e : up2_ (fun a i => if a = S then X i else if a = K then Y i else ai_ σ a i) K i v = fun a j => if a = S then X j else if a = K then upd Y i v j else ai_ σ a j := by
    funext a j
    unfold up2_ upd
    by_cases h1 : a = K
    · subst h1
      by_cases h2 : j = i
      · simp [h, h2]
      · simp [h, h2]
    · simp [h1]
  show (kd_ σ, ln_ σ, _, fr_ σ, fl_ σ, up2_ (fun a i => if a = S then X i else if a = K then Y i else ai_ σ a i) K i v, ar_ σ, al_ σ, ow_ σ, nx_ σ, sl_ σ) = _
  rw [e]
  rfl
theorem kh_self : kh_ σ R S K (fun c => fi_ σ c R) (ai_ σ S) (ai_ σ K) = σ := by
  have e1 : (fun c a => if a = R then fi_ σ c R else fi_ σ c a) = fi_ σ := by
    funext c a
    by_cases h : a = R
    · rw [if_pos h, h]
    · rw [if_neg h]
  have e2 : (fun a i => if a = S then ai_ σ S i else if a = K then ai_ σ K i else ai_ σ a i) = ai_ σ := by
    funext a i
    by_cases h : a = S
    · rw [if_pos h, h]
    · rw [if_neg h]
      by_cases h2 : a = K
      · rw [if_pos h2, h2]
      · rw [if_neg h2]
  show (kd_ σ, ln_ σ, (fun c a => if a = R then fi_ σ c R else fi_ σ c a), fr_ σ, fl_ σ, (fun a i => if a = S then ai_ σ S i else if a = K then ai_ σ K i else ai_ σ a i), ar_ σ, al_ σ, ow_ σ, nx_ σ, sl_ σ) = σ
  rw [e1, e2]
  rfl
theorem kh_fq (hw : wf_ σ) : fq_ (fun q => q = R ∨ q = S ∨ q = K) σ (kh_ σ R S K F X Y) := by
  refine ⟨tl_rf σ, hw, fun a ha hT => ?_⟩
  have n1 : a ≠ R := fun q => hT (Or.inl q)
  have n2 : a ≠ S := fun q => hT (Or.inr (Or.inl q))
  have n3 : a ≠ K := fun q => hT (Or.inr (Or.inr q))
  have e1 : (fun c => fi_ (kh_ σ R S K F X Y) c a) = fun c => fi_ σ c a := funext fun c => if_neg n1
  have e2 : ai_ (kh_ σ R S K F X Y) a = ai_ σ a := funext fun i => (if_neg n2).trans (if_neg n3)
  unfold ce_
  rw [e1, e2]
  rfl
theorem k8 (h : hS_ σ R T S K) : kd_ (kh_ σ R S K F X Y) R = 8 := h.1
theorem k_fail (hS : hS_ σ R T S K) (f p : Int32) : f_X6_fail (kh_ σ R S K F X Y) R f p = some ((), kh_ σ R S K (upd (upd F 702 f) 703 p) X Y) := by
  unfold f_X6_fail
  rw [gt_t (k8 hS), lt_e, kh_si, lt_e, kh_si]
theorem k_emit (hS : hS_ σ R T S K) {k : Nat} (e : F 706 = nI k) (hk : k < 1024) (p1 p2 : Int32) : f_X6_emit (kh_ σ R S K F X Y) R p1 p2 = some (nI k, kh_ σ R S K (upd F 706 (nI (k + 1))) (upd X k ((p1 <<< ((16 : Int32) &&& 31)) ||| p2)) Y) := by
  have q1 : ¬ (1024 : Int32) ≤ nI k := nI_ge (b := 1024) hk (by decide)
  have q2 : ¬ nI k < 0 := nI_pos (by omega)
  have q3 : (nI k).toNatClampNeg = k := nI_clamp (by omega)
  have s1 : fr_ (kh_ σ R S K F X Y) 704 R = some S := hS.2.1.2.1
  have s2 : kd_ (kh_ σ R S K F X Y) S = 20 := hS.2.2.2.1.1
  have s3 : ln_ (kh_ σ R S K F X Y) S = 1024 := hS.2.2.2.1.2
  unfold f_X6_emit
  rw [gt_t (k8 hS), lt_e, kh_fi, e, if_neg q1, lt_e, s1, nn_s, gt_t s2, s3, q3, gt_t (ix9_ (k := k) (M := 1024) (by omega) (by omega)), lt_e, kh_sS, lt_e, kh_fi, e, nI_1, lt_e, kh_si]
  rfl
theorem k_byte (hS : hS_ σ R T S K) {w : Nat → Nat} {n : Nat} (hb : bt9_ w n (ai_ σ T)) (e : F 708 = nI n) {k : Nat} (hk : k < 2 ^ 30) : f_X6_byteAt (kh_ σ R S K F X Y) R (nI k) = some (sb9_ (w k), kh_ σ R S K F X Y) := by
  have hn := hb.2.2
  unfold f_X6_byteAt f_X6_byteAt_b28 f_X6_byteAt_b29
  rw [if_neg (nI_pos (by omega)), gt_t (k8 hS), lt_e, kh_fi, e]
  rcases Nat.lt_or_ge k n with q | q
  · have s1 : fr_ (kh_ σ R S K F X Y) 700 R = some T := hS.2.1.1
    have s2 : kd_ (kh_ σ R S K F X Y) T = 21 := hS.2.2.1.1
    have s3 : ln_ (kh_ σ R S K F X Y) T = 400 := hS.2.2.1.2
    have q2 : ¬ nI k < 0 := nI_pos (by omega)
    rw [if_neg (nI_ge q (by omega)), if_neg (show ¬ (400 : Int32) ≤ nI k from nI_ge (b := 400) (by omega) (by decide)), lt_e, s1, nn_s, gt_t s2, s3, nI_clamp (by omega), gt_t (ix9_ (k := k) (M := 400) (by omega) (by omega)), lt_e, kh_T hS.2.2.2.2.2.2.1 hS.2.2.2.2.2.2.2, (hb.1 k q).2]
  · rw [if_pos (nI_le q (by omega)), hb.2.1 k q]
    rfl
end KH
theorem nx9_or (a b : Nat) : nI a ||| nI b = nI (a ||| b) := by
  apply Int32.toBitVec_inj.mp
  apply BitVec.eq_of_toNat_eq
  show (BitVec.ofNat 32 a ||| BitVec.ofNat 32 b).toNat = (BitVec.ofNat 32 (a ||| b)).toNat
  rw [BitVec.toNat_or, BitVec.toNat_ofNat, BitVec.toNat_ofNat, BitVec.toNat_ofNat, Nat.or_mod_two_pow]
theorem or9_k {k : Int32} {c : Nat} (h : ∃ z, z < 1024 ∧ k = nI z) (hc : c < 10) : ∃ z, z < 1024 ∧ k ||| ((1 : Int32) <<< (nI c &&& 31)) = nI z := by
  obtain ⟨z, hz, e⟩ := h
  have key : ∀ c, c < 10 → (1 : Int32) <<< (nI c &&& 31) = nI (2 ^ c) ∧ 2 ^ c < 1024 := by decide +kernel
  obtain ⟨k1, k2⟩ := key c hc
  exact ⟨z ||| 2 ^ c, Nat.or_lt_two_pow (n := 10) hz k2, by rw [e, k1, nx9_or]⟩
/-- THE MACHINE m STANDS in the fields F, the steps X, the skips Y; a: where reading is; L: no more steps than that -/
def se9_ (s : SP) : Int32 := (nI s.1 <<< ((16 : Int32) &&& 31)) ||| nI s.2
def eb5_ (e : Nat → Bool) : Nat := (if e 0 = true then 1 else 0) + (if e 1 = true then 2 else 0) + (if e 2 = true then 4 else 0) + (if e 3 = true then 8 else 0) + (if e 4 = true then 16 else 0)
/-- what a step may be -/
def sk9_ (r : Bool) (s : SP) : Prop := s.1 ≤ 14 ∧ s.2 ≤ 9999 ∧ (s.1 = 2 → nm9_ r s.2 = true) ∧ (s.1 = 8 ∨ s.1 = 9 → s.2 < 10)
theorem sk9_o {r : Bool} {s d : Nat} (h1 : s ≤ 14) (h2 : d ≤ 9999) (h3 : s ≠ 2 ∧ s ≠ 8 ∧ s ≠ 9) : sk9_ r (s, d) := ⟨h1, h2, fun q => absurd q h3.1, fun q => q.elim (fun q => absurd q h3.2.1) (fun q => absurd q h3.2.2)⟩
theorem sk9_f {r : Bool} {s d : Nat} (h : s = 8 ∨ s = 9) (hd : d < 10) : sk9_ r (s, d) := ⟨(by omega : s ≤ 14), (by omega : d ≤ 9999), fun q => absurd (show s = 2 from q) (by omega), fun _ => hd⟩
theorem sk9_nm {r : Bool} {d : Nat} (h : nm9_ r d = true) (hd : d ≤ 9999) : sk9_ r (2, d) := ⟨(by omega : 2 ≤ 14), hd, fun _ => h, fun q => absurd (show 2 = 8 ∨ 2 = 9 from q) (by decide)⟩
def PR_ (r : Bool) (n : Nat) (m : MM) (a L : Nat) (F X Y : Nat → Int32) : Prop :=
  (F 702 = 0 ∧ F 706 = nI (mS_ m).length ∧ F 707 = (if r = true then 1 else 0) ∧ F 708 = nI n ∧ F 709 = nI a) ∧
  (F 710 = nI (ms_ m) ∧ F 711 = nI (mj_ m) ∧ F 712 = nI (ml_ m) ∧ (ms_ m = 1 → F 713 = nI (mb_ m)) ∧ F 714 = nI (md9_ m) ∧ F 715 = nI (eb5_ m.2.1)) ∧
  (F 716 = nI (mc_ m).1 ∧ F 717 = nI (mc_ m).2.1 ∧ F 718 = (mc_ m).2.2) ∧
  ((∀ i, i < (mS_ m).length → X i = se9_ ((mS_ m).getD i (0, 0))) ∧ (∀ q, q < md9_ m → Y q = nI (m.2.2.1 q))) ∧
  (ms_ m ≤ 11 ∧ mj_ m ≤ 2 ∧ ml_ m ≤ 2 ∧ md9_ m ≤ 5 ∧ (mc_ m).1 ≤ 60 ∧ (mc_ m).2.1 ≤ 30 ∧ ∃ z, z < 1024 ∧ (mc_ m).2.2 = nI z) ∧
  ((mS_ m).length ≤ L ∧ ∀ s, s ∈ mS_ m → sk9_ r s) ∧
  (∀ q, q < md9_ m → m.2.2.1 q < (mS_ m).length ∧ ((mS_ m).getD (m.2.2.1 q) (0, 0) = (13, 0) ∨ (mS_ m).getD (m.2.2.1 q) (0, 0) = (14, 0))) ∧ ∀ q q', q < q' → q' < md9_ m → m.2.2.1 q < m.2.2.1 q'
def ou9_ (r : Bool) (n : Nat) (x : FT ⊕ MM) (a L : Nat) (F X Y : Nat → Int32) : Prop := match x with
  | .inl e => F 702 = nI e.1 ∧ F 703 = nI e.2 ∧ 0 < e.1 ∧ e.1 ≤ 3
  | .inr m => PR_ r n m a L F X Y
theorem gd_app {l : List SP} {x d : SP} {i : Nat} (h : i < l.length) : (l ++ [x]).getD i d = l.getD i d := by
  simp [List.getD, List.getElem?_append, h]
theorem gd_last {l : List SP} {x d : SP} : (l ++ [x]).getD l.length d = x := by
  simp [List.getD]
theorem ln_app {l : List SP} {x : SP} : (l ++ [x]).length = l.length + 1 := by simp
section PR
variable {r : Bool} {n : Nat} {m : MM} {a L : Nat} {F X Y : Nat → Int32}
theorem PR_L {L' : Nat} (h : PR_ r n m a L F X Y) (hL : L ≤ L') : PR_ r n m a L' F X Y := by
  obtain ⟨h1, h2, h3, h4, h5, ⟨h6, h6'⟩, h7⟩ := h
  exact ⟨h1, h2, h3, h4, h5, ⟨Nat.le_trans h6 hL, h6'⟩, h7⟩
theorem ou9_L {x : FT ⊕ MM} {L' : Nat} (h : ou9_ r n x a L F X Y) (hL : L ≤ L') : ou9_ r n x a L' F X Y := by
  cases x with
  | inl e => exact h
  | inr m => exact PR_L h hL
theorem PR_em (h : PR_ r n m a L F X Y) {s d : Nat} (hk : sk9_ r (s, d)) : PR_ r n (mst_ m (ms_ m) [(s, d)]) a (L + 1) (upd F 706 (nI ((mS_ m).length + 1))) (upd X (mS_ m).length (se9_ (s, d))) Y := by
  obtain ⟨⟨a1, a2, a3, a4, a5⟩, ⟨b1, b2, b3, b4, b5, b6⟩, ⟨c1, c2, c3⟩, ⟨d1, d2⟩, e1, ⟨f1, f2⟩, g1, g2⟩ := h
  refine ⟨⟨a1, ?_, a3, a4, a5⟩, ⟨b1, b2, b3, b4, b5, b6⟩, ⟨c1, c2, c3⟩, ⟨fun i hi => ?_, d2⟩, e1, ⟨?_, fun z hz => ?_⟩, fun q hq => ?_, g2⟩
  · show nI ((mS_ m).length + 1) = nI (mS_ m ++ [(s, d)]).length
    rw [ln_app]
  · have hi : i < (mS_ m ++ [(s, d)]).length := hi
    rw [ln_app] at hi
    show upd X (mS_ m).length (se9_ (s, d)) i = se9_ ((mS_ m ++ [(s, d)]).getD i (0, 0))
    by_cases z : i = (mS_ m).length
    · rw [z, gd_last]; exact if_pos rfl
    · rw [gd_app (by omega)]; exact (if_neg z).trans (d1 i (by omega))
  · show (mS_ m ++ [(s, d)]).length ≤ L + 1
    rw [ln_app]; omega
  · have hz : z ∈ mS_ m ++ [(s, d)] := hz
    rcases List.mem_append.mp hz with q | q
    · exact f2 z q
    · rw [List.mem_singleton.mp q]; exact hk
  · obtain ⟨u1, u2⟩ := g1 q hq
    show m.2.2.1 q < (mS_ m ++ [(s, d)]).length ∧ ((mS_ m ++ [(s, d)]).getD (m.2.2.1 q) (0, 0) = (13, 0) ∨ (mS_ m ++ [(s, d)]).getD (m.2.2.1 q) (0, 0) = (14, 0))
    rw [ln_app, gd_app u1]
    exact ⟨by omega, u2⟩
theorem PR_st (h : PR_ r n m a L F X Y) {s : Nat} (h1 : s ≠ 1) (hs : s ≤ 11) : PR_ r n ((s, m.1.2), m.2) a L (upd F 710 (nI s)) X Y := by
  obtain ⟨⟨a1, a2, a3, a4, a5⟩, ⟨b1, b2, b3, b4, b5, b6⟩, ⟨c1, c2, c3⟩, d, ⟨e1, e2⟩, f, g⟩ := h
  exact ⟨⟨a1, a2, a3, a4, a5⟩, ⟨rfl, b2, b3, fun q => absurd q h1, b5, b6⟩, ⟨c1, c2, c3⟩, d, ⟨hs, e2⟩, f, g⟩
theorem PR_at (h : PR_ r n m a L F X Y) (a' : Nat) : PR_ r n m a' L (upd F 709 (nI a')) X Y := by
  obtain ⟨⟨a1, a2, a3, a4, a5⟩, b, c, d, e, f, g⟩ := h
  exact ⟨⟨a1, a2, a3, a4, rfl⟩, b, c, d, e, f, g⟩
theorem ou9_at {x : FT ⊕ MM} (h : ou9_ r n x a L F X Y) (a' : Nat) : ou9_ r n x a' L (upd F 709 (nI a')) X Y := by
  cases x with
  | inl e => exact h
  | inr m => exact PR_at h a'
theorem PR_jn (h : PR_ r n m a L F X Y) {j : Nat} (hj : j ≤ 2) : PR_ r n (mjn_ m j) a L (upd F 711 (nI j)) X Y := by
  obtain ⟨a, ⟨b1, b2, b3, b4, b5, b6⟩, c, d, ⟨e1, e2, e3⟩, f, g⟩ := h
  exact ⟨a, ⟨b1, rfl, b3, b4, b5, b6⟩, c, d, ⟨e1, hj, e3⟩, f, g⟩
theorem PR_ki (h : PR_ r n m a L F X Y) (k : Int32) (hk : ∃ z, z < 1024 ∧ k = nI z) : PR_ r n (mct_ m ((mc_ m).1, (mc_ m).2.1, k)) a L (upd F 718 k) X Y := by
  obtain ⟨a, b, ⟨c1, c2, c3⟩, d, ⟨e1, e2, e3, e4, e5, e6, e7⟩, f, g⟩ := h
  exact ⟨a, b, ⟨c1, c2, rfl⟩, d, ⟨e1, e2, e3, e4, e5, e6, hk⟩, f, g⟩
theorem PR_te (h : PR_ r n m a L F X Y) {t : Nat} (ht : t ≤ 30) : PR_ r n (mct_ m ((mc_ m).1, t, (mc_ m).2.2)) a L (upd F 717 (nI t)) X Y := by
  obtain ⟨a, b, ⟨c1, c2, c3⟩, d, ⟨e1, e2, e3, e4, e5, e6⟩, f, g⟩ := h
  exact ⟨a, b, ⟨c1, rfl, c3⟩, d, ⟨e1, e2, e3, e4, e5, ht, e6.2⟩, f, g⟩
end PR
