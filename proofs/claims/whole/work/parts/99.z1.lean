/-! THE CLASS'S PRINTER, PURE: it prints what the reference prints. Written by wip/b/mk99z1.py. -/
/-- sum, minus, left, relation; deny, join, test; what is printed -/
abbrev QQ : Type := (Int32 × Bool × Int32 × Nat) × (Bool × Nat × Bool) × List Nat
def qsu_ (q : QQ) : Int32 := q.1.1
def qmi_ (q : QQ) : Bool := q.1.2.1
def qle_ (q : QQ) : Int32 := q.1.2.2.1
def qre_ (q : QQ) : Nat := q.1.2.2.2
def qde_ (q : QQ) : Bool := q.2.1.1
def qjo_ (q : QQ) : Nat := q.2.1.2.1
def qte_ (q : QQ) : Bool := q.2.1.2.2
def qou_ (q : QQ) : List Nat := q.2.2
def qtj_ (j : Nat) (t one : Bool) : Bool := if j = 1 then t && one else if j = 2 then t || one else one
def qdc_ (q : QQ) (is : Bool) : QQ := (q.1, (false, qjo_ q, qtj_ (qjo_ q) (qte_ q) (is != qde_ q)), qou_ q)
def qad_ (q : QQ) (v : Int32) : QQ := ((qsu_ q + (if qmi_ q = true then -v else v), false, q.1.2.2), q.2)
/-- a step -/
def qs_ (E : EV9) (q : QQ) (s : SP) : QQ :=
  if s.1 = 0 then (q.1, q.2.1, qou_ q ++ [s.2])
  else if s.1 = 1 then qad_ q (nI s.2)
  else if s.1 = 2 then qad_ q (E.1 s.2)
  else if s.1 = 3 then ((qsu_ q, true, q.1.2.2), q.2)
  else if s.1 = 4 then ((0, q.1.2), q.2.1, qou_ q ++ dg9_ (qsu_ q))
  else if s.1 = 5 then ((0, qmi_ q, qsu_ q, s.2), q.2)
  else if s.1 = 6 then qdc_ ((0, q.1.2), q.2) (cm9_ (qre_ q) (qle_ q) (qsu_ q))
  else if s.1 = 7 then (q.1, (!qde_ q, q.2.1.2), q.2.2)
  else if s.1 = 8 then qdc_ q (E.2.1 s.2)
  else if s.1 = 9 then qdc_ q (E.2.2.1 s.2)
  else if s.1 = 10 then qdc_ q E.2.2.2
  else if s.1 = 11 then (q.1, (qde_ q, 0, qte_ q), q.2.2)
  else if s.1 = 12 then (q.1, (qde_ q, s.2, qte_ q), q.2.2)
  else q
def qfo_ (E : EV9) : List SP → QQ → QQ
  | [], q => q
  | s :: l, q => qfo_ E l (qs_ E q s)
/-- THE RUN -/
def qr_ (E : EV9) (S : List SP) : Nat → Nat → QQ → QQ
  | 0, _, q => q
  | f + 1, a, q => if S.length ≤ a then q else if (S.getD a (0, 0)).1 = 14 ∨ ((S.getD a (0, 0)).1 = 13 ∧ qte_ q = false) then qr_ E S f (max (a + 1) (S.getD a (0, 0)).2) q else qr_ E S f (a + 1) (qs_ E q (S.getD a (0, 0)))
/-- between two pieces -/
def cl9_ (q : QQ) : Prop := qsu_ q = 0 ∧ qmi_ q = false ∧ qde_ q = false
def gi9_ (l : List IT) : Prop := ∀ i, i ∈ l → i.2.1 = 1 ∨ i.2.1 = 2
def gb9_ (r : Bool) (b : BA) : Prop := (b.1 = 6 ∧ gi9_ b.2.2.1 ∧ gi9_ b.2.2.2) ∨ (r = false ∧ (b.1 = 8 ∨ b.1 = 9 ∨ b.1 = 10))
def ge9_ (r : Bool) (j : Nat) (o : ON) (l : List ON) : Prop := gb9_ r o.2 ∧ (∀ z, z ∈ l → gb9_ r z.2) ∧ (l = [] ∨ j = 1 ∨ j = 2)
/-- steps that ask, and don't print -/
def ns9_ (r : Bool) (s : SP) : Prop := s.1 < 13 ∧ s.1 ≠ 4 ∧ (r = true → s.1 ≠ 8 ∧ s.1 ≠ 9 ∧ s.1 ≠ 10)
theorem ns9_4 {r : Bool} {s : SP} (h : s.1 < 4) : ns9_ r s := ⟨by omega, by omega, fun _ => ⟨by omega, by omega, by omega⟩⟩
theorem ns9_5 {r : Bool} {k c : Nat} (h : k = 5 ∨ k = 6 ∨ k = 7 ∨ k = 12) : ns9_ r (k, c) := ⟨(by omega : k < 13), (by omega : k ≠ 4), fun _ => ⟨(by omega : k ≠ 8), (by omega : k ≠ 9), (by omega : k ≠ 10)⟩⟩
theorem ns9_8 {r : Bool} {k c : Nat} (hr : r = false) (h : k = 8 ∨ k = 9 ∨ k = 10) : ns9_ r (k, c) := ⟨(by omega : k < 13), (by omega : k ≠ 4), fun q => by rw [hr] at q; cases q⟩
section QP
variable {E : EV9} {r : Bool}
theorem eb_inv {β γ : Type} {X : FT ⊕ β} {K : β → FT ⊕ γ} {x : γ} (h : eb_ X K = .inr x) : ∃ b, X = .inr b ∧ K b = .inr x := by
  cases X with
  | inl e => cases h
  | inr b => exact ⟨b, rfl, h⟩
theorem qfo_app : ∀ (l1 l2 : List SP) (q : QQ), qfo_ E (l1 ++ l2) q = qfo_ E l2 (qfo_ E l1 q)
  | [], _, _ => rfl
  | s :: l1, l2, q => qfo_app l1 l2 (qs_ E q s)
theorem qfo_is : ∀ (l : List IT) (q : QQ), gi9_ l → qmi_ q = false → qfo_ E (is9_ l) q = ((sv9_ E l (qsu_ q), false, q.1.2.2), q.2)
  | [], q, _, h => by
    obtain ⟨⟨a, b, c⟩, d⟩ := q
    have h : b = false := h
    subst h
    rfl
  | i :: l, q, hg, h => by
    have ih := qfo_is l
    have gl : gi9_ l := fun z hz => hg z (List.mem_cons_of_mem _ hz)
    have gi := hg i List.mem_cons_self
    obtain ⟨⟨a, b, c⟩, d⟩ := q
    have h : b = false := h
    subst h
    obtain ⟨ng, k, v⟩ := i
    show qfo_ E ((if ng = true then [(3, 0), (k, v)] else [(k, v)]) ++ is9_ l) _ = _
    rw [qfo_app]
    have gi : k = 1 ∨ k = 2 := gi
    cases ng with
    | false =>
      rw [if_neg (by decide)]
      rcases gi with rfl | rfl
      · exact ih _ gl rfl
      · exact ih _ gl rfl
    | true =>
      rw [if_pos rfl]
      rcases gi with rfl | rfl
      · exact ih _ gl rfl
      · exact ih _ gl rfl
/-- one question -/
theorem qfo_bs {q : QQ} {b : BA} (hg : gb9_ r b) (h1 : qsu_ q = 0) (h2 : qmi_ q = false) : ∃ le re, qfo_ E (bs9_ b) q = ((0, false, le, re), (false, qjo_ q, qtj_ (qjo_ q) (qte_ q) (bz9_ E b != qde_ q)), qou_ q) := by
  obtain ⟨⟨s, mi, le, re⟩, ⟨de, jo, te⟩, ou⟩ := q
  have h1 : s = 0 := h1
  have h2 : mi = false := h2
  subst h1 h2
  obtain ⟨k, c, l1, l2⟩ := b
  rcases hg with ⟨hk, g1, g2⟩ | ⟨hr, hk | hk | hk⟩
  · have hk : k = 6 := hk
    subst hk
    have e : bs9_ (6, c, l1, l2) = is9_ l1 ++ ((5, c) :: (is9_ l2 ++ [(6, 0)])) := rfl
    rw [e, qfo_app, qfo_is l1 _ g1 rfl]
    show ∃ le' re', qfo_ E (is9_ l2 ++ [(6, 0)]) _ = _
    rw [qfo_app, qfo_is l2 _ g2 rfl]
    exact ⟨_, _, rfl⟩
  · have hk : k = 8 := hk
    subst hk
    exact ⟨_, _, rfl⟩
  · have hk : k = 9 := hk
    subst hk
    exact ⟨_, _, rfl⟩
  · have hk : k = 10 := hk
    subst hk
    exact ⟨_, _, rfl⟩
theorem qfo_no : ∀ (c : Nat) (q : QQ), qfo_ E (List.replicate c (7, 0)) q = (q.1, ((qde_ q != decide (c % 2 = 1)), q.2.1.2), q.2.2)
  | 0, q => by
    obtain ⟨a, ⟨d, e⟩, f⟩ := q
    show (a, (d, e), f) = (a, ((d != false), e), f)
    cases d <;> rfl
  | c + 1, q => by
    rw [List.replicate_succ]
    show qfo_ E (List.replicate c (7, 0)) (q.1, (!qde_ q, q.2.1.2), q.2.2) = _
    rw [qfo_no c]
    show (q.1, ((!qde_ q) != decide (c % 2 = 1), q.2.1.2), q.2.2) = _
    have e : ((!qde_ q) != decide (c % 2 = 1)) = (qde_ q != decide ((c + 1) % 2 = 1)) := by
      by_cases z : c % 2 = 1
      · rw [decide_eq_true z, decide_eq_false (show ¬ (c + 1) % 2 = 1 by omega)]
        cases qde_ q <;> rfl
      · rw [decide_eq_false z, decide_eq_true (show (c + 1) % 2 = 1 by omega)]
        cases qde_ q <;> rfl
    rw [e]
theorem qfo_os {q : QQ} {o : ON} (hg : gb9_ r o.2) (h : cl9_ q) : ∃ le re, qfo_ E (os9_ o) q = ((0, false, le, re), (false, qjo_ q, qtj_ (qjo_ q) (qte_ q) (ov9_ E o)), qou_ q) := by
  unfold os9_
  rw [qfo_app, qfo_no]
  obtain ⟨h1, h2, h3⟩ := h
  obtain ⟨le, re, e⟩ := qfo_bs (E := E) (q := (q.1, ((qde_ q != decide (o.1 % 2 = 1)), q.2.1.2), q.2.2)) hg h1 h2
  refine ⟨le, re, e.trans ?_⟩
  have e2 : (bz9_ E o.2 != (qde_ q != decide (o.1 % 2 = 1))) = ov9_ E o := by
    rw [h3]
    unfold ov9_
    cases decide (o.1 % 2 = 1) <;> rfl
  show _ = ((0, false, le, re), (false, qjo_ q, qtj_ (qjo_ q) (qte_ q) (ov9_ E o)), qou_ q)
  rw [← e2]
  rfl
theorem qfo_js {j : Nat} (hj : j = 1 ∨ j = 2) : ∀ (l : List ON) (q : QQ), (∀ z, z ∈ l → gb9_ r z.2) → cl9_ q → cl9_ (qfo_ E (js9_ j l) q) ∧ qou_ (qfo_ E (js9_ j l) q) = qou_ q ∧ qte_ (qfo_ E (js9_ j l) q) = jv9_ E j l (qte_ q)
  | [], q, _, h => ⟨h, rfl, rfl⟩
  | o :: l, q, hg, h => by
    have e : js9_ j (o :: l) = (12, j) :: (os9_ o ++ js9_ j l) := rfl
    have h' : cl9_ (qs_ E q (12, j)) := h
    obtain ⟨le, re, e1⟩ := qfo_os (E := E) (q := qs_ E q (12, j)) (hg o List.mem_cons_self) h'
    have e2 : qfo_ E (js9_ j (o :: l)) q = qfo_ E (js9_ j l) ((0, false, le, re), (false, j, qtj_ j (qte_ q) (ov9_ E o)), qou_ q) := by
      rw [e]
      show qfo_ E (os9_ o ++ js9_ j l) (qs_ E q (12, j)) = _
      rw [qfo_app, e1]
      rfl
    obtain ⟨i1, i2, i3⟩ := qfo_js hj l ((0, false, le, re), (false, j, qtj_ j (qte_ q) (ov9_ E o)), qou_ q) (fun z hz => hg z (List.mem_cons_of_mem _ hz)) ⟨rfl, rfl, rfl⟩
    rw [e2]
    refine ⟨i1, i2, i3.trans ?_⟩
    show jv9_ E j l (qtj_ j (qte_ q) (ov9_ E o)) = jv9_ E j l (if j = 1 then qte_ q && ov9_ E o else qte_ q || ov9_ E o)
    rcases hj with rfl | rfl <;> rfl
/-- a test -/
theorem qfo_es {j : Nat} {o : ON} {l : List ON} (hg : ge9_ r j o l) {q : QQ} (h : cl9_ q) (h0 : qjo_ q = 0) : cl9_ (qfo_ E (es9_ j o l) q) ∧ qou_ (qfo_ E (es9_ j o l) q) = qou_ q ∧ qte_ (qfo_ E (es9_ j o l) q) = ev9_ E j o l := by
  obtain ⟨g1, g2, g3⟩ := hg
  obtain ⟨le, re, e1⟩ := qfo_os (E := E) g1 h
  unfold es9_ ev9_
  rw [qfo_app, e1, h0]
  rcases g3 with rfl | g3
  · exact ⟨⟨rfl, rfl, rfl⟩, rfl, rfl⟩
  · exact qfo_js g3 l ((0, false, le, re), (false, 0, ov9_ E o), qou_ q) g2 ⟨rfl, rfl, rfl⟩
/-- steps without skips run one behind the other -/
theorem gd_mid {pre l : List SP} {s : SP} : (pre ++ s :: l).getD pre.length (0, 0) = s := by
  simp [List.getD]
theorem qr_line : ∀ (l pre post : List SP) (q : QQ) (f : Nat), (∀ s, s ∈ l → s.1 < 13) → qr_ E (pre ++ (l ++ post)) (f + l.length) pre.length q = qr_ E (pre ++ (l ++ post)) f (pre.length + l.length) (qfo_ E l q)
  | [], pre, post, q, f, _ => rfl
  | s :: l, pre, post, q, f, h => by
    have ih := qr_line l (pre ++ [s]) post (qs_ E q s) f (fun z hz => h z (List.mem_cons_of_mem _ hz))
    have e : pre ++ [s] ++ (l ++ post) = pre ++ (s :: l ++ post) := by simp
    rw [e] at ih
    have hs := h s List.mem_cons_self
    have g : (pre ++ (s :: l ++ post)).getD pre.length (0, 0) = s := gd_mid
    have hl : ¬ (pre ++ (s :: l ++ post)).length ≤ pre.length := by simp
    show qr_ E _ (f + l.length + 1) pre.length q = _
    conv => lhs; unfold qr_
    rw [if_neg hl, g, if_neg (by omega)]
    have e2 : (pre ++ [s]).length = pre.length + 1 := by simp
    rw [e2] at ih
    rw [ih]
    show qr_ E _ f (pre.length + 1 + l.length) _ = qr_ E _ f (pre.length + (l.length + 1)) _
    rw [show pre.length + 1 + l.length = pre.length + (l.length + 1) by omega]
    rfl
/-- A PIECE: its steps, lying at o, print out -/
def rp_ (E : EV9) (o : Nat) (ss : List SP) (out : List Nat) : Prop := ∀ (pre post : List SP) (q : QQ), pre.length = o → cl9_ q → ∃ q' k, k ≤ ss.length ∧ cl9_ q' ∧ qou_ q' = qou_ q ++ out ∧ ∀ f, qr_ E (pre ++ (ss ++ post)) (f + k) o q = qr_ E (pre ++ (ss ++ post)) f (o + ss.length) q'
theorem rp_nil {o : Nat} : rp_ E o [] [] := fun pre post q _ hq => ⟨q, 0, Nat.le_refl _, hq, by simp, fun f => rfl⟩
theorem rp_app {o : Nat} {s1 s2 : List SP} {o1 o2 : List Nat} (h1 : rp_ E o s1 o1) (h2 : rp_ E (o + s1.length) s2 o2) : rp_ E o (s1 ++ s2) (o1 ++ o2) := fun pre post q hp hq => by
  obtain ⟨q1, k1, l1, c1, u1, r1⟩ := h1 pre (s2 ++ post) q hp hq
  obtain ⟨q2, k2, l2, c2, u2, r2⟩ := h2 (pre ++ s1) post q1 (by simp [hp]) c1
  have e1 : pre ++ (s1 ++ (s2 ++ post)) = pre ++ (s1 ++ s2 ++ post) := by simp
  have e2 : pre ++ s1 ++ (s2 ++ post) = pre ++ (s1 ++ s2 ++ post) := by simp
  rw [e1] at r1
  rw [e2] at r2
  refine ⟨q2, k2 + k1, by simp; omega, c2, by rw [u2, u1, List.append_assoc], fun f => ?_⟩
  rw [show f + (k2 + k1) = f + k2 + k1 by omega, r1, r2]
  simp [Nat.add_assoc]
theorem rp_line {o : Nat} {l : List SP} {out : List Nat} (h : ∀ s, s ∈ l → s.1 < 13) (hq : ∀ q, cl9_ q → cl9_ (qfo_ E l q) ∧ qou_ (qfo_ E l q) = qou_ q ++ out) : rp_ E o l out := fun pre post q hp hc => by
  obtain ⟨c, u⟩ := hq q hc
  subst hp
  exact ⟨qfo_ E l q, l.length, Nat.le_refl _, c, u, fun f => qr_line l pre post q f h⟩
theorem rp_say {o : Nat} (l : List Nat) : rp_ E o (l.map (fun b => (0, b))) l := rp_line (fun s hs => by
    obtain ⟨b, _, rfl⟩ := List.mem_map.mp hs
    exact (by decide : (0 : Nat) < 13)) (fun q hc => by
    have key : ∀ (l : List Nat) (q : QQ), qfo_ E (l.map (fun b => (0, b))) q = (q.1, q.2.1, qou_ q ++ l) := by
      intro l
      induction l with
      | nil => intro q; show q = (q.1, q.2.1, qou_ q ++ []); rw [List.append_nil]; rfl
      | cons b l ih =>
        intro q
        show qfo_ E (l.map (fun b => (0, b))) (q.1, q.2.1, qou_ q ++ [b]) = _
        rw [ih]
        show (q.1, q.2.1, qou_ q ++ [b] ++ l) = _
        rw [List.append_assoc]
        rfl
    rw [key]
    exact ⟨hc, rfl⟩)
theorem is_lt : ∀ (l : List IT), gi9_ l → ∀ s, s ∈ is9_ l → s.1 < 4
  | [], _, s, h => by cases h
  | i :: l, hg, s, h => by
    have gi := hg i List.mem_cons_self
    rcases List.mem_append.mp h with h | h
    · by_cases z : i.1 = true
      · rw [if_pos z] at h
        simp only [List.mem_cons, List.not_mem_nil, or_false] at h
        rcases h with rfl | rfl
        · decide
        · show i.2.1 < 4
          omega
      · rw [if_neg z] at h
        simp only [List.mem_cons, List.not_mem_nil, or_false] at h
        subst h
        show i.2.1 < 4
        omega
    · exact is_lt l (fun z hz => hg z (List.mem_cons_of_mem _ hz)) s h
theorem rp_sum {o : Nat} {l : List IT} (hg : gi9_ l) : rp_ E o (is9_ l ++ [(4, 0)]) (dg9_ (sv9_ E l 0)) := rp_line (fun s hs => by
    rcases List.mem_append.mp hs with h | h
    · have := is_lt l hg s h; omega
    · rw [List.mem_singleton.mp h]; decide) (fun q hc => by
    obtain ⟨h1, h2, h3⟩ := hc
    rw [qfo_app, qfo_is l q hg h2, h1]
    exact ⟨⟨rfl, rfl, h3⟩, rfl⟩)
theorem bs_lt {b : BA} (hg : gb9_ r b) : ∀ s, s ∈ bs9_ b → ns9_ r s := fun s hs => by
  obtain ⟨k, c, l1, l2⟩ := b
  rcases hg with ⟨hk, g1, g2⟩ | ⟨hr, hk | hk | hk⟩
  · have hk : k = 6 := hk
    subst hk
    have hs : s ∈ is9_ l1 ++ ((5, c) :: (is9_ l2 ++ [(6, 0)])) := hs
    rcases List.mem_append.mp hs with h | h
    · exact ns9_4 (is_lt l1 g1 s h)
    · rcases List.mem_cons.mp h with h | h
      · subst h; exact ns9_5 (Or.inl rfl)
      · rcases List.mem_append.mp h with h | h
        · exact ns9_4 (is_lt l2 g2 s h)
        · rw [List.mem_singleton.mp h]; exact ns9_5 (Or.inr (Or.inl rfl))
  · have hk : k = 8 := hk
    subst hk
    have hs : s ∈ [(8, c)] := hs
    rw [List.mem_singleton.mp hs]; exact ns9_8 hr (by decide)
  · have hk : k = 9 := hk
    subst hk
    have hs : s ∈ [(9, c)] := hs
    rw [List.mem_singleton.mp hs]; exact ns9_8 hr (by decide)
  · have hk : k = 10 := hk
    subst hk
    have hs : s ∈ [(10, c)] := hs
    rw [List.mem_singleton.mp hs]; exact ns9_8 hr (by decide)
theorem os_lt {o : ON} (hg : gb9_ r o.2) : ∀ s, s ∈ os9_ o → ns9_ r s := fun s hs => by
  unfold os9_ at hs
  rcases List.mem_append.mp hs with h | h
  · rw [(List.mem_replicate.mp h).2]; exact ns9_5 (by decide)
  · exact bs_lt hg s h
theorem js_lt {j : Nat} : ∀ (l : List ON), (∀ z, z ∈ l → gb9_ r z.2) → ∀ s, s ∈ js9_ j l → ns9_ r s
  | [], _, s, h => by cases h
  | o :: l, hg, s, h => by
    rcases List.mem_cons.mp h with h | h
    · subst h; exact ns9_5 (by decide)
    · rcases List.mem_append.mp h with h | h
      · exact os_lt (hg o List.mem_cons_self) s h
      · exact js_lt l (fun z hz => hg z (List.mem_cons_of_mem _ hz)) s h
theorem es_lt {j : Nat} {o : ON} {l : List ON} (hg : ge9_ r j o l) : ∀ s, s ∈ es9_ j o l → ns9_ r s := fun s hs => by
  unfold es9_ at hs
  rcases List.mem_append.mp hs with h | h
  · exact os_lt hg.1 s h
  · exact js_lt l hg.2.1 s h
/-- the test at the head of a brace -/
theorem qr_test {j : Nat} {o : ON} {l : List ON} (hg : ge9_ r j o l) (pre post : List SP) {q : QQ} (hc : cl9_ q) : ∃ q', cl9_ q' ∧ qou_ q' = qou_ q ∧ qte_ q' = ev9_ E j o l ∧ ∀ f, qr_ E (pre ++ (((11, 0) :: es9_ j o l) ++ post)) (f + ((es9_ j o l).length + 1)) pre.length q = qr_ E (pre ++ (((11, 0) :: es9_ j o l) ++ post)) f (pre.length + ((es9_ j o l).length + 1)) q' := by
  obtain ⟨c, u, v⟩ := qfo_es (E := E) hg (q := qs_ E q (11, 0)) hc rfl
  refine ⟨_, c, u, v, fun f => ?_⟩
  have hl : ∀ s, s ∈ (11, 0) :: es9_ j o l → s.1 < 13 := fun s hs => by
    rcases List.mem_cons.mp hs with h | h
    · subst h; decide
    · exact (es_lt hg s h).1
  exact qr_line ((11, 0) :: es9_ j o l) pre post q f hl
theorem qr_13 {S : List SP} {f a d : Nat} {q : QQ} (h : S.getD a (0, 0) = (13, d)) (ha : a < S.length) (had : a < d) : qr_ E S (f + 1) a q = if qte_ q = true then qr_ E S f (a + 1) q else qr_ E S f d q := by
  conv => lhs; unfold qr_
  rw [if_neg (by omega), h]
  by_cases z : qte_ q = true
  · rw [if_pos z, if_neg (fun y => y.elim (fun y => absurd (show (13 : Nat) = 14 from y) (by decide)) (fun y => by rw [z] at y; cases y.2))]
    rfl
  · rw [if_neg z, if_pos (Or.inr ⟨rfl, by simpa using z⟩), show max (a + 1) ((13, d) : SP).2 = d from Nat.max_eq_right had]
theorem qr_14 {S : List SP} {f a d : Nat} {q : QQ} (h : S.getD a (0, 0) = (14, d)) (ha : a < S.length) (had : a < d) : qr_ E S (f + 1) a q = qr_ E S f d q := by
  conv => lhs; unfold qr_
  rw [if_neg (by omega), h, if_pos (Or.inl rfl), show max (a + 1) ((14, d) : SP).2 = d from Nat.max_eq_right had]
theorem gd_at {S pre l : List SP} {s : SP} {a : Nat} (h : S = pre ++ s :: l) (ha : pre.length = a) : S.getD a (0, 0) = s ∧ a < S.length := by
  subst h ha
  exact ⟨gd_mid, by simp⟩
theorem rp_if {j : Nat} {o : ON} {l : List ON} (hg : ge9_ r j o l) {p : Nat} {u : List SP} {uo : List Nat} (hu : rp_ E (p + 2 + (es9_ j o l).length) u uo) : rp_ E p ((11, 0) :: (es9_ j o l ++ ((13, p + 2 + (es9_ j o l).length + u.length) :: u))) (if ev9_ E j o l = true then uo else []) := fun pre post q hp hc => by
  subst hp
  obtain ⟨e, he⟩ : ∃ e, e = es9_ j o l := ⟨_, rfl⟩
  obtain ⟨q1, c1, u1, t1, r1⟩ := qr_test (E := E) hg pre ((13, pre.length + 2 + (es9_ j o l).length + u.length) :: (u ++ post)) hc
  rw [← he] at r1 hu ⊢
  have eS : pre ++ (((11, 0) :: e) ++ ((13, pre.length + 2 + e.length + u.length) :: (u ++ post))) = pre ++ (((11, 0) :: (e ++ ((13, pre.length + 2 + e.length + u.length) :: u))) ++ post) := by simp
  rw [eS] at r1
  obtain ⟨S, hS⟩ : ∃ S, S = pre ++ (((11, 0) :: (e ++ ((13, pre.length + 2 + e.length + u.length) :: u))) ++ post) := ⟨_, rfl⟩
  rw [← hS] at r1 ⊢
  obtain ⟨g1, g2⟩ := gd_at (S := S) (pre := pre ++ (11, 0) :: e) (l := u ++ post) (s := (13, pre.length + 2 + e.length + u.length)) (a := pre.length + (e.length + 1)) (by rw [hS]; simp) (by simp)
  have hl : ((11, 0) :: (e ++ ((13, pre.length + 2 + e.length + u.length) :: u)) : List SP).length = e.length + u.length + 2 := by simp; omega
  by_cases z : ev9_ E j o l = true
  · rw [if_pos z]
    obtain ⟨q2, k2, l2, c2, u2, r2⟩ := hu (pre ++ ((11, 0) :: (e ++ [(13, pre.length + 2 + e.length + u.length)]))) post q1 (by simp; omega) c1
    have eS2 : pre ++ ((11, 0) :: (e ++ [(13, pre.length + 2 + e.length + u.length)])) ++ (u ++ post) = S := by rw [hS]; simp
    rw [eS2] at r2
    refine ⟨q2, k2 + 1 + (e.length + 1), by rw [hl]; omega, c2, by rw [u2, u1], fun f => ?_⟩
    rw [show f + (k2 + 1 + (e.length + 1)) = f + k2 + 1 + (e.length + 1) by omega, r1, qr_13 g1 g2 (by omega), if_pos (t1.trans z), show pre.length + (e.length + 1) + 1 = pre.length + 2 + e.length by omega, r2, hl]
    congr 1
    omega
  · rw [if_neg z]
    refine ⟨q1, 1 + (e.length + 1), by rw [hl]; omega, c1, by rw [u1, List.append_nil], fun f => ?_⟩
    rw [show f + (1 + (e.length + 1)) = f + 1 + (e.length + 1) by omega, r1, qr_13 g1 g2 (by omega), if_neg (fun y => z (t1.symm.trans y)), hl]
    congr 1
    omega
theorem rp_ie {j : Nat} {o : ON} {l : List ON} (hg : ge9_ r j o l) {p : Nat} {u v : List SP} {uo vo : List Nat} (hu : rp_ E (p + 2 + (es9_ j o l).length) u uo) (hv : rp_ E (p + 3 + (es9_ j o l).length + u.length) v vo) : rp_ E p ((11, 0) :: (es9_ j o l ++ ((13, p + 3 + (es9_ j o l).length + u.length) :: (u ++ ((14, p + 3 + (es9_ j o l).length + u.length + v.length) :: v))))) (if ev9_ E j o l = true then uo else vo) := fun pre post q hp hc => by
  subst hp
  obtain ⟨e, he⟩ : ∃ e, e = es9_ j o l := ⟨_, rfl⟩
  obtain ⟨A, hA⟩ : ∃ A, A = ((13, pre.length + 3 + (es9_ j o l).length + u.length) : SP) := ⟨_, rfl⟩
  obtain ⟨B, hB⟩ : ∃ B, B = ((14, pre.length + 3 + (es9_ j o l).length + u.length + v.length) : SP) := ⟨_, rfl⟩
  obtain ⟨q1, c1, u1, t1, r1⟩ := qr_test (E := E) hg pre (A :: (u ++ (B :: v) ++ post)) hc
  rw [← hA, ← hB]
  rw [← he] at r1 hu hv hA hB ⊢
  have eS : pre ++ (((11, 0) :: e) ++ (A :: (u ++ (B :: v) ++ post))) = pre ++ (((11, 0) :: (e ++ (A :: (u ++ (B :: v))))) ++ post) := by simp
  rw [eS] at r1
  obtain ⟨S, hS⟩ : ∃ S, S = pre ++ (((11, 0) :: (e ++ (A :: (u ++ (B :: v))))) ++ post) := ⟨_, rfl⟩
  rw [← hS] at r1 ⊢
  obtain ⟨g1, g2⟩ := gd_at (S := S) (pre := pre ++ (11, 0) :: e) (l := u ++ (B :: v) ++ post) (s := A) (a := pre.length + (e.length + 1)) (by rw [hS]; simp) (by simp)
  obtain ⟨g3, g4⟩ := gd_at (S := S) (pre := pre ++ (11, 0) :: (e ++ A :: u)) (l := v ++ post) (s := B) (a := pre.length + 2 + e.length + u.length) (by rw [hS]; simp) (by simp; omega)
  have hl : ((11, 0) :: (e ++ (A :: (u ++ (B :: v)))) : List SP).length = e.length + u.length + v.length + 3 := by simp; omega
  rw [hA] at g1
  rw [hB] at g3
  by_cases z : ev9_ E j o l = true
  · rw [if_pos z]
    obtain ⟨q2, k2, l2, c2, u2, r2⟩ := hu (pre ++ ((11, 0) :: (e ++ [A]))) ((B :: v) ++ post) q1 (by simp; omega) c1
    have eS2 : pre ++ ((11, 0) :: (e ++ [A])) ++ (u ++ ((B :: v) ++ post)) = S := by rw [hS]; simp
    rw [eS2] at r2
    refine ⟨q2, 1 + k2 + 1 + (e.length + 1), by rw [hl]; omega, c2, by rw [u2, u1], fun f => ?_⟩
    rw [show f + (1 + k2 + 1 + (e.length + 1)) = f + 1 + k2 + 1 + (e.length + 1) by omega, r1, qr_13 g1 g2 (by omega), if_pos (t1.trans z), show pre.length + (e.length + 1) + 1 = pre.length + 2 + e.length by omega, r2, qr_14 g3 g4 (by omega), hl]
    congr 1
    omega
  · rw [if_neg z]
    obtain ⟨q2, k2, l2, c2, u2, r2⟩ := hv (pre ++ ((11, 0) :: (e ++ (A :: (u ++ [B]))))) post q1 (by simp; omega) c1
    have eS2 : pre ++ ((11, 0) :: (e ++ (A :: (u ++ [B])))) ++ (v ++ post) = S := by rw [hS]; simp
    rw [eS2] at r2
    refine ⟨q2, k2 + 1 + (e.length + 1), by rw [hl]; omega, c2, by rw [u2, u1], fun f => ?_⟩
    rw [show f + (k2 + 1 + (e.length + 1)) = f + k2 + 1 + (e.length + 1) by omega, r1, qr_13 g1 g2 (by omega), if_neg (fun y => z (t1.symm.trans y)), r2, hl]
    congr 1
    omega
end QP
