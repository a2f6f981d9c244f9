/-! TWO TYPED HEAPS IN ONE MACHINE'S HEAP: the class's and the reference's; a contract over one of them holds over both. And the law's rows for its script. -/
/-- a sound typed heap: what has a kind is owned, what is owned has a kind and lies below -/
def wf_ (σ : TH) : Prop := (∀ a, kd_ σ a ≠ 0 → a ∈ ow_ σ) ∧ ∀ a ∈ ow_ σ, a < nx_ σ ∧ kd_ σ a ≠ 0
def sp_ (c m : TH) : Prop := ∀ a, kd_ c a ≠ 0 → kd_ m a = 0
def jn_ (c m : TH) : TH := (fun a => if kd_ c a = 0 then kd_ m a else kd_ c a, fun a => if kd_ c a = 0 then ln_ m a else ln_ c a, fun k a => if kd_ c a = 0 then fi_ m k a else fi_ c k a, fun k a => if kd_ c a = 0 then fr_ m k a else fr_ c k a, fun k a => if kd_ c a = 0 then fl_ m k a else fl_ c k a, fun a => if kd_ c a = 0 then ai_ m a else ai_ c a, fun a => if kd_ c a = 0 then ar_ m a else ar_ c a, fun a => if kd_ c a = 0 then al_ m a else al_ c a, ow_ c ++ ow_ m, nx_ c, sl_ c)
/-- the room that another has taken -/
def bm_ (m c : TH) : TH := (kd_ m, ln_ m, fi_ m, fr_ m, fl_ m, ai_ m, ar_ m, al_ m, ow_ m, nx_ c, sl_ c)
theorem hp_iff {D : va_G} {cy : Nat → ClassId} {σ : TH} {H : Heap} : hp_ D cy σ H ↔ (∀ a ∈ ow_ σ, va_at D clz (a, en_ cy σ a) H) ∧ (ow_ σ).Nodup ∧ H.size = nx_ σ ∧ ∀ a, kd_ σ a ≠ 0 → a ∈ ow_ σ := by
  unfold hp_ wl_ va_pl
  constructor
  · rintro ⟨h1, h2, h3, h4⟩
    refine ⟨fun a ha => ?_, ?_, h3, h4⟩
    · obtain ⟨i, hi⟩ := List.mem_iff_getElem?.mp ha
      exact h1 i (a, en_ cy σ a) (by rw [List.getElem?_map, hi]; rfl)
    · refine List.pairwise_iff_getElem.mpr (fun i j hi hj hij he => ?_)
      have e1 := List.getElem?_eq_getElem hi
      have e2 := List.getElem?_eq_getElem hj
      have := h2.1 i j ((ow_ σ)[i], en_ cy σ (ow_ σ)[i]) ((ow_ σ)[j], en_ cy σ (ow_ σ)[j]) (by rw [List.getElem?_map, e1]; rfl) (by rw [List.getElem?_map, e2]; rfl) he
      omega
  · rintro ⟨h1, h2, h3, h4⟩
    refine ⟨fun k q hq => ?_, ⟨fun i j p q hp hq e => ?_, fun _ _ _ => trivial⟩, h3, h4⟩
    · rw [List.getElem?_map] at hq
      obtain ⟨a, ha, rfl⟩ := Option.map_eq_some_iff.mp hq
      exact h1 a (List.mem_of_getElem? ha)
    · rw [List.getElem?_map] at hp hq
      obtain ⟨a, ha, rfl⟩ := Option.map_eq_some_iff.mp hp
      obtain ⟨b, hb, rfl⟩ := Option.map_eq_some_iff.mp hq
      have e' : a = b := e
      subst e'
      obtain ⟨hi, hi'⟩ := List.getElem?_eq_some_iff.mp ha
      obtain ⟨hj, hj'⟩ := List.getElem?_eq_some_iff.mp hb
      rcases Nat.lt_trichotomy i j with h | h | h
      · exact absurd (hi'.trans hj'.symm) (List.pairwise_iff_getElem.mp h2 i j hi hj h)
      · exact h
      · exact absurd (hj'.trans hi'.symm) (List.pairwise_iff_getElem.mp h2 j i hj hi h)
theorem en_jc {cy : Nat → ClassId} {c m : TH} {a : Nat} (h : kd_ c a ≠ 0) : en_ cy (jn_ c m) a = en_ cy c a :=
  en_same (if_neg h) (if_neg h) (fun _ => if_neg h) (fun _ => if_neg h) (fun _ => if_neg h) (if_neg h) (if_neg h) (if_neg h)
theorem en_jm {cy : Nat → ClassId} {c m : TH} {a : Nat} (h : kd_ c a = 0) : en_ cy (jn_ c m) a = en_ cy m a :=
  en_same (if_pos h) (if_pos h) (fun _ => if_pos h) (fun _ => if_pos h) (fun _ => if_pos h) (if_pos h) (if_pos h) (if_pos h)
theorem sp_m {c m : TH} (hs : sp_ c m) {a : Nat} (h : kd_ m a ≠ 0) : kd_ c a = 0 := by
  by_cases h1 : kd_ c a = 0
  · exact h1
  · exact absurd (hs a h1) h
theorem jn_hp {D : va_G} {cy : Nat → ClassId} {c m : TH} {H : Heap} (hc : wf_ c) (hm : wf_ m) (hs : sp_ c m) (hn : nx_ m = nx_ c) : hp_ D cy (jn_ c m) H ↔ hp_ D cy c H ∧ hp_ D cy m H := by
  rw [hp_iff, hp_iff, hp_iff]
  have eo : ow_ (jn_ c m) = ow_ c ++ ow_ m := rfl
  have en : nx_ (jn_ c m) = nx_ c := rfl
  rw [eo, en, List.nodup_append]
  constructor
  · rintro ⟨h1, ⟨h2, h3, -⟩, h4, -⟩
    refine ⟨⟨fun a ha => ?_, h2, h4, hc.1⟩, fun a ha => ?_, h3, by rw [hn]; exact h4, hm.1⟩
    · have := h1 a (List.mem_append_left _ ha)
      rw [en_jc (hc.2 a ha).2] at this
      exact this
    · have := h1 a (List.mem_append_right _ ha)
      rw [en_jm (sp_m hs (hm.2 a ha).2)] at this
      exact this
  · rintro ⟨⟨h1, h2, h3, -⟩, h4, h5, -, -⟩
    refine ⟨fun a ha => ?_, ⟨h2, h5, fun a ha b hb e => ?_⟩, h3, fun a ha => ?_⟩
    · rcases List.mem_append.mp ha with h | h
      · rw [en_jc (hc.2 a h).2]; exact h1 a h
      · rw [en_jm (sp_m hs (hm.2 a h).2)]; exact h4 a h
    · subst e
      exact (hm.2 _ hb).2 (hs _ (hc.2 _ ha).2)
    · by_cases h : kd_ c a = 0
      · have e : kd_ (jn_ c m) a = kd_ m a := if_pos h
        exact List.mem_append_right _ (hm.1 a (by rw [← e]; exact ha))
      · exact List.mem_append_left _ (hc.1 a h)
theorem aa_jc {c m : TH} (hc : wf_ c) : ∀ q, aa_ c q → aa_ (jn_ c m) q := fun q h => by
  rcases h with ⟨h1, h2⟩ | h
  · have k := (hc.2 q h1).2
    have e1 : kd_ (jn_ c m) q = kd_ c q := if_neg k
    have e2 : ln_ (jn_ c m) q = ln_ c q := if_neg k
    exact Or.inl ⟨List.mem_append_left _ h1, by rw [e1, e2]; exact h2⟩
  · exact Or.inr h
theorem aa_jm {c m : TH} (hm : wf_ m) (hs : sp_ c m) (hn : nx_ m = nx_ c) : ∀ q, aa_ m q → aa_ (jn_ c m) q := fun q h => by
  rcases h with ⟨h1, h2⟩ | h
  · have k := sp_m hs (hm.2 q h1).2
    have e1 : kd_ (jn_ c m) q = kd_ m q := if_pos k
    have e2 : ln_ (jn_ c m) q = ln_ m q := if_pos k
    exact Or.inl ⟨List.mem_append_right _ h1, by rw [e1, e2]; exact h2⟩
  · exact Or.inr (by rw [hn] at h; exact h)
theorem hp_bm {D : va_G} {cy : Nat → ClassId} {c m z : TH} {st t : State} (hm : wf_ m) (hn : nx_ m = nx_ c) (hx : ∀ a ∈ ow_ m, ¬ aa_ c a) (hz : hp_ D cy z t.heap) (h : hp_ D cy m st.heap) (hF : va_F (aa_ c) st t) : hp_ D cy (bm_ m z) t.heap := by
  obtain ⟨h1, h2, h3, h4⟩ := h
  have e : wl_ cy (bm_ m z) = wl_ cy m := rfl
  refine ⟨?_, by rw [e]; exact h2, hz.2.2.1, h4⟩
  rw [e]
  refine h1.kept (fun k q hq => ?_)
  have hq' : q.1 ∈ ow_ m := by
    unfold wl_ va_pl at hq
    rw [List.getElem?_map] at hq
    obtain ⟨a, ha, rfl⟩ := Option.map_eq_some_iff.mp hq
    exact List.mem_of_getElem? ha
  exact hF.2 q.1 (by rw [h3]; exact (hm.2 _ hq').1) (hx _ hq')
theorem nx_c {c m : TH} (hc : wf_ c) (hm : wf_ m) (hs : sp_ c m) (hn : nx_ m = nx_ c) : (∀ a ∈ ow_ m, ¬ aa_ c a) ∧ ∀ a ∈ ow_ c, ¬ aa_ m a := by
  refine ⟨fun a ha h => ?_, fun a ha h => ?_⟩
  · rcases h with h | h
    · exact (hm.2 a ha).2 (hs a (hc.2 a h.1).2)
    · have := (hm.2 a ha).1; omega
  · rcases h with h | h
    · exact (hm.2 a h.1).2 (hs a (hc.2 a ha).2)
    · have := (hc.2 a ha).1; omega
theorem wf_bm {m z : TH} (hm : wf_ m) (h : nx_ m ≤ nx_ z) : wf_ (bm_ m z) := ⟨hm.1, fun a ha => ⟨Nat.lt_of_lt_of_le (hm.2 a ha).1 h, (hm.2 a ha).2⟩⟩
theorem sp_z {c m z : TH} (hc : wf_ c) (hm : wf_ m) (hs : sp_ c m) (hn : nx_ m = nx_ c) (hz : wf_ z) (ht : tl_ c z) : sp_ z (bm_ m z) := fun a ha => by
  by_cases h : kd_ m a = 0
  · exact h
  · have h1 := (hm.2 a (hm.1 a h)).1
    rcases ht.2.2.2.1 a (hz.1 a ha) with h2 | h2
    · exact hs a (hc.2 a h2).2
    · omega
theorem sp_zm {c m z : TH} (hc : wf_ c) (hm : wf_ m) (hs : sp_ c m) (hn : nx_ m = nx_ c) (hz : wf_ z) (ht : tl_ m z) : sp_ (bm_ c z) z := fun a ha => by
  have ha' : kd_ c a ≠ 0 := ha
  have h1 := (hc.2 a (hc.1 a ha')).1
  by_cases h : kd_ z a = 0
  · exact h
  · rcases ht.2.2.2.1 a (hz.1 a h) with h2 | h2
    · exact absurd (hs a ha') (hm.2 a h2).2
    · omega
/-- a contract over the class's heap, the reference's beside it -/
theorem jn_c {l : Launch} {D : va_G} {cy : Nat → ClassId} {ka : Nat → Nat} {y : MethodName} {fr lo : Nat} {av : List Value} {rv : Option Value} {c m z : TH} (hc : wf_ c) (hm : wf_ m) (hs : sp_ c m) (hn : nx_ m = nx_ c) (hz : wf_ z) (h : ct_ l D cy ka y fr lo av c rv z) : ct_ l D cy ka y fr lo av (jn_ c m) rv (jn_ z (bm_ m z)) := by
  have ht := h.1
  have hsz := sp_z hc hm hs hn hz ht
  have hwb : wf_ (bm_ m z) := wf_bm hm (by rw [hn]; exact ht.1)
  refine ⟨⟨ht.1, ht.2.1, fun q hq => ?_, fun q hq => ?_, fun q hq => ?_⟩, ?_⟩
  · rcases List.mem_append.mp hq with h1 | h1
    · exact List.mem_append_left _ (ht.2.2.1 q h1)
    · exact List.mem_append_right _ h1
  · rcases List.mem_append.mp hq with h1 | h1
    · exact (ht.2.2.2.1 q h1).elim (fun h2 => Or.inl (List.mem_append_left _ h2)) Or.inr
    · exact Or.inl (List.mem_append_right _ h1)
  · by_cases h1 : kd_ c q = 0
    · have e1 : kd_ (jn_ c m) q = kd_ m q := if_pos h1
      have e2 : ln_ (jn_ c m) q = ln_ m q := if_pos h1
      rw [e1] at hq
      have h2 : kd_ z q = 0 := sp_m hsz (show kd_ (bm_ m z) q ≠ 0 from hq)
      rw [e1, e2]
      exact ⟨if_pos h2, if_pos h2⟩
    · have e1 : kd_ (jn_ c m) q = kd_ c q := if_neg h1
      have e2 : ln_ (jn_ c m) q = ln_ c q := if_neg h1
      have h2 := ht.2.2.2.2 q h1
      have h3 : kd_ z q ≠ 0 := by rw [h2.1]; exact h1
      rw [e1, e2]
      exact ⟨(if_neg h3).trans h2.1, (if_neg h3).trans h2.2⟩
  · refine MetFree.mono h.2 (fun a s hP => ?_) (fun _ _ _ _ _ q => q) (fun a s o t hP hQ => ?_)
    · obtain ⟨h1, h2, h3, h4⟩ := hP
      exact ⟨h1, ((jn_hp hc hm hs hn).mp h2).1, h3, ev_call h4 va_S.rf rfl (State.WarmedH.refl s) (aa_jc hc)⟩
    · obtain ⟨h1, h2, h3, h4⟩ := hP
      obtain ⟨⟨q1, q2, q3⟩, L, q4, q5⟩ := hQ
      have hm' := ((jn_hp hc hm hs hn).mp h2).2
      refine ⟨⟨q1, (jn_hp hz hwb hsz rfl).mpr ⟨q2, hp_bm hm hn (nx_c hc hm hs hn).1 q2 hm' q3⟩, q3.1, fun q w1 w2 => q3.2 q w1 (fun w3 => w2 (aa_jc hc q w3))⟩, L, q4, fun q hq => aa_jc hc _ (q5 q hq)⟩
/-- a contract over the reference's heap, the class's beside it -/
theorem jn_m {l : Launch} {D : va_G} {cy : Nat → ClassId} {ka : Nat → Nat} {y : MethodName} {fr lo : Nat} {av : List Value} {rv : Option Value} {c m z : TH} (hc : wf_ c) (hm : wf_ m) (hs : sp_ c m) (hn : nx_ m = nx_ c) (hsl : sl_ m = sl_ c) (hz : wf_ z) (h : ct_ l D cy ka y fr lo av m rv z) : ct_ l D cy ka y fr lo av (jn_ c m) rv (jn_ (bm_ c z) z) := by
  have ht := h.1
  have hsz := sp_zm hc hm hs hn hz ht
  have hwb : wf_ (bm_ c z) := wf_bm hc (by rw [← hn]; exact ht.1)
  have e8 : nx_ (jn_ c m) = nx_ m := hn.symm
  have e9 : sl_ (jn_ c m) = sl_ m := hsl.symm
  refine ⟨⟨by rw [e8]; exact ht.1, by rw [e9]; exact ht.2.1, fun q hq => ?_, fun q hq => ?_, fun q hq => ?_⟩, ?_⟩
  · rcases List.mem_append.mp hq with h1 | h1
    · exact List.mem_append_left _ h1
    · exact List.mem_append_right _ (ht.2.2.1 q h1)
  · rcases List.mem_append.mp hq with h1 | h1
    · exact Or.inl (List.mem_append_left _ h1)
    · exact (ht.2.2.2.1 q h1).elim (fun h2 => Or.inl (List.mem_append_right _ h2)) (fun h2 => Or.inr (by rw [e8]; exact h2))
  · by_cases h1 : kd_ c q = 0
    · have e1 : kd_ (jn_ c m) q = kd_ m q := if_pos h1
      have e2 : ln_ (jn_ c m) q = ln_ m q := if_pos h1
      rw [e1] at hq
      have h2 := ht.2.2.2.2 q hq
      have e3 : kd_ (jn_ (bm_ c z) z) q = kd_ z q := if_pos h1
      have e4 : ln_ (jn_ (bm_ c z) z) q = ln_ z q := if_pos h1
      rw [e1, e2, e3, e4]
      exact h2
    · have e1 : kd_ (jn_ c m) q = kd_ c q := if_neg h1
      have e2 : ln_ (jn_ c m) q = ln_ c q := if_neg h1
      have e3 : kd_ (jn_ (bm_ c z) z) q = kd_ c q := if_neg h1
      have e4 : ln_ (jn_ (bm_ c z) z) q = ln_ c q := if_neg h1
      rw [e1, e2, e3, e4]
      exact ⟨rfl, rfl⟩
  · have e5 : rm_ fr lo (jn_ c m) (jn_ (bm_ c z) z) = rm_ fr lo m z := by
      show ({ frames := fr, cells := nx_ z - nx_ c, slots := sl_ z - sl_ c, locals := lo } : Room) = { frames := fr, cells := nx_ z - nx_ m, slots := sl_ z - sl_ m, locals := lo }
      rw [hn, hsl]
    have e6 : nx_ (jn_ (bm_ c z) z) - nx_ (jn_ c m) = nx_ z - nx_ m := by rw [e8]; rfl
    have e7 : sl_ (jn_ (bm_ c z) z) - sl_ (jn_ c m) = sl_ z - sl_ m := by rw [e9]; rfl
    rw [e5, e6, e7]
    refine MetFree.mono h.2 (fun a s hP => ?_) (fun _ _ _ _ _ q => q) (fun a s o t hP hQ => ?_)
    · obtain ⟨h1, h2, h3, h4⟩ := hP
      exact ⟨h1, ((jn_hp hc hm hs hn).mp h2).2, h3, ev_call h4 va_S.rf rfl (State.WarmedH.refl s) (aa_jm hm hs hn)⟩
    · obtain ⟨h1, h2, h3, h4⟩ := hP
      obtain ⟨⟨q1, q2, q3⟩, L, q4, q5⟩ := hQ
      have hc' := ((jn_hp hc hm hs hn).mp h2).1
      refine ⟨⟨q1, (jn_hp hwb hz hsz rfl).mpr ⟨hp_bm hc hn.symm (nx_c hc hm hs hn).2 q2 hc' q3, q2⟩, q3.1, fun q w1 w2 => q3.2 q w1 (fun w3 => w2 (aa_jm hm hs hn q w3))⟩, L, q4, fun q hq => aa_jm hm hs hn _ (q5 q hq)⟩
/-- one heap as two: nothing in the second -/
def er_ (c : TH) : TH := (fun _ => 0, ln_ c, fi_ c, fr_ c, fl_ c, ai_ c, ar_ c, al_ c, [], nx_ c, sl_ c)
theorem jn_er (c : TH) : jn_ c (er_ c) = c := by
  have e1 : ∀ {α : Type} (f : Nat → α), (fun a => if kd_ c a = 0 then f a else f a) = f := fun f => funext fun a => by split <;> rfl
  have e2 : ∀ {α : Type} (f : Nat → Nat → α), (fun k a => if kd_ c a = 0 then f k a else f k a) = f := fun f => funext fun k => funext fun a => by split <;> rfl
  have e0 : (fun a => if kd_ c a = 0 then 0 else kd_ c a) = kd_ c := funext fun a => by split <;> simp_all
  show ((fun a => if kd_ c a = 0 then 0 else kd_ c a), (fun a => if kd_ c a = 0 then ln_ c a else ln_ c a), (fun k a => if kd_ c a = 0 then fi_ c k a else fi_ c k a), (fun k a => if kd_ c a = 0 then fr_ c k a else fr_ c k a), (fun k a => if kd_ c a = 0 then fl_ c k a else fl_ c k a), (fun a => if kd_ c a = 0 then ai_ c a else ai_ c a), (fun a => if kd_ c a = 0 then ar_ c a else ar_ c a), (fun a => if kd_ c a = 0 then al_ c a else al_ c a), ow_ c ++ [], nx_ c, sl_ c) = c
  rw [e0, e1, e2, e2, e2, e1, e1, e1, List.append_nil]
  rfl
theorem wf_er (c : TH) : wf_ (er_ c) := ⟨fun _ h => absurd rfl h, fun _ h => nomatch h⟩
theorem sp_er (c : TH) : sp_ c (er_ c) := fun _ _ => rfl
theorem wf_nw {σ : TH} (h : wf_ σ) {k n w : Nat} (hk : k ≠ 0) : wf_ (nw_ σ k n w) := by
  refine ⟨fun a ha => ?_, fun a ha => ?_⟩
  · by_cases e : a = nx_ σ
    · subst e; exact List.mem_append_right _ List.mem_cons_self
    · have e1 : kd_ (nw_ σ k n w) a = kd_ σ a := if_neg e
      exact List.mem_append_left _ (h.1 a (by rw [← e1]; exact ha))
  · rcases List.mem_append.mp ha with h1 | h1
    · have h2 := h.2 a h1
      have e1 : kd_ (nw_ σ k n w) a = kd_ σ a := if_neg (Nat.ne_of_lt h2.1)
      exact ⟨Nat.lt_succ_of_lt h2.1, by rw [e1]; exact h2.2⟩
    · rw [List.mem_singleton.mp h1]
      exact ⟨Nat.lt_succ_self _, by rw [kd_nw]; exact hk⟩
theorem wf_0 {σ : TH} (h : wf_ σ) {a : Nat} (ha : nx_ σ ≤ a) : kd_ σ a = 0 := by
  by_cases e : kd_ σ a = 0
  · exact e
  · have := (h.2 a (h.1 a e)).1; omega
/-- two typed heaps that say the same -/
def sm_ (σ τ : TH) : Prop := (∀ a, kd_ σ a = kd_ τ a) ∧ (∀ a, ln_ σ a = ln_ τ a) ∧ nx_ σ = nx_ τ ∧ sl_ σ = sl_ τ ∧ List.Perm (ow_ σ) (ow_ τ) ∧ ∀ (cy : Nat → ClassId) (a : Nat), en_ cy σ a = en_ cy τ a
theorem sm_hp {D : va_G} {cy : Nat → ClassId} {σ τ : TH} {H : Heap} (h : sm_ σ τ) (k : hp_ D cy σ H) : hp_ D cy τ H := by
  rw [hp_iff] at k ⊢
  obtain ⟨k1, k2, k3, k4⟩ := k
  exact ⟨fun a ha => by rw [← h.2.2.2.2.2 cy a]; exact k1 a (h.2.2.2.2.1.mem_iff.mpr ha), h.2.2.2.2.1.nodup_iff.mp k2, k3.trans h.2.2.1, fun a ha => h.2.2.2.2.1.mem_iff.mp (k4 a (by rw [h.1 a]; exact ha))⟩
theorem v_sm {l : Launch} {D : va_G} {cy : Nat → ClassId} {ka : Nat → Nat} {cc : ByteArray} {own : String} {maxL : Nat} {ret : Option FieldType} {nm : String} {fr lo : Nat} {Qf : QF} {σ0 z σ τ : TH} {pc : Nat} {L : List (Nat × Value)} {st : List Value} (h : sm_ σ τ) (k : v_ l D cy ka cc own maxL ret nm fr lo Qf σ0 z τ pc L st) : v_ l D cy ka cc own maxL ret nm fr lo Qf σ0 z σ pc L st := by
  obtain ⟨h1, h2, h3, h4, h5, h6⟩ := id h
  refine ⟨⟨by rw [h3]; exact k.1.1, by rw [h4]; exact k.1.2.1, fun q hq => k.1.2.2.1 q (h5.mem_iff.mp hq), fun q hq => ?_, fun q hq => ?_⟩, fun t p e s m args below meth c C' ls hl H locs hH hS => ?_⟩
  · rcases k.1.2.2.2.1 q hq with g | g
    · exact Or.inl (h5.mem_iff.mpr g)
    · exact Or.inr (by rw [h3]; exact g)
  · rw [h1] at hq
    have g := k.1.2.2.2.2 q hq
    rw [h1, h2]
    exact g
  · have t' : tl_ σ0 τ := ⟨by rw [← h3]; exact t.1, by rw [← h4]; exact t.2.1, fun q hq => h5.mem_iff.mp (t.2.2.1 q hq), fun q hq => t.2.2.2.1 q (h5.mem_iff.mpr hq), fun q hq => by
      have g := t.2.2.2.2 q hq
      rw [← h1, ← h2]
      exact g⟩
    have g := k.2 t' p e s m args below meth c C' ls hl H locs (sm_hp h hH) hS
    rw [h3, h4]
    exact g
/-- a cell made for the class: beside the reference's -/
theorem sm_nwc {c m : TH} (hc : wf_ c) (hn : nx_ m = nx_ c) {k n w : Nat} (hk : k ≠ 0) : sm_ (nw_ (jn_ c m) k n w) (jn_ (nw_ c k n w) (bm_ m (nw_ c k n w))) := by
  have hnew : kd_ (nw_ c k n w) (nx_ c) ≠ 0 := by rw [kd_nw]; exact hk
  have hold : ∀ a, a ≠ nx_ c → kd_ (nw_ c k n w) a = kd_ c a := fun a e => if_neg e
  have okd : ∀ a, kd_ (nw_ (jn_ c m) k n w) a = kd_ (jn_ (nw_ c k n w) (bm_ m (nw_ c k n w))) a := fun a => by
    by_cases e : a = nx_ c
    · subst e
      exact (if_pos rfl).trans ((if_neg hnew).trans (if_pos rfl)).symm
    · by_cases h1 : kd_ c a = 0
      · exact ((if_neg e).trans (if_pos h1)).trans (if_pos ((hold a e).trans h1)).symm
      · exact ((if_neg e).trans (if_neg h1)).trans ((if_neg (by rw [hold a e]; exact h1)).trans (hold a e)).symm
  have oln : ∀ a, ln_ (nw_ (jn_ c m) k n w) a = ln_ (jn_ (nw_ c k n w) (bm_ m (nw_ c k n w))) a := fun a => by
    by_cases e : a = nx_ c
    · subst e
      exact (if_pos rfl).trans ((if_neg hnew).trans (if_pos rfl)).symm
    · by_cases h1 : kd_ c a = 0
      · exact ((if_neg e).trans (if_pos h1)).trans (if_pos ((hold a e).trans h1)).symm
      · exact ((if_neg e).trans (if_neg h1)).trans ((if_neg (by rw [hold a e]; exact h1)).trans (if_neg e)).symm
  refine ⟨okd, oln, rfl, rfl, ?_, fun cy a => ?_⟩
  · show List.Perm ((ow_ c ++ ow_ m) ++ [nx_ c]) ((ow_ c ++ [nx_ c]) ++ ow_ m)
    rw [List.append_assoc, List.append_assoc]
    exact List.Perm.append_left _ List.perm_append_comm
  · by_cases e : a = nx_ c
    · subst e
      rw [en_jc hnew]
      refine en_same ?_ ?_ (fun _ => ?_) (fun _ => ?_) (fun _ => ?_) ?_ ?_ ?_ <;> first | exact (if_pos rfl).trans (if_pos rfl).symm | exact funext fun _ => (if_pos rfl).trans (if_pos rfl).symm
    · rw [en_nw (σ := jn_ c m) e]
      by_cases h1 : kd_ c a = 0
      · rw [en_jm h1, en_jm ((hold a e).trans h1)]
        rfl
      · rw [en_jc h1, en_jc (by rw [hold a e]; exact h1), en_nw e]
/-- a cell made for the reference -/
theorem sm_nwm {c m : TH} (hc : wf_ c) (hn : nx_ m = nx_ c) (hs : sl_ m = sl_ c) {k n w : Nat} : sm_ (nw_ (jn_ c m) k n w) (jn_ (bm_ c (nw_ m k n w)) (nw_ m k n w)) := by
  have h0 : kd_ c (nx_ c) = 0 := wf_0 hc (Nat.le_refl _)
  have okd : ∀ a, kd_ (nw_ (jn_ c m) k n w) a = kd_ (jn_ (bm_ c (nw_ m k n w)) (nw_ m k n w)) a := fun a => by
    by_cases e : a = nx_ c
    · subst e
      exact (if_pos rfl).trans ((if_pos h0).trans (if_pos hn.symm)).symm
    · have e' : a ≠ nx_ m := by rw [hn]; exact e
      by_cases h1 : kd_ c a = 0
      · exact ((if_neg e).trans (if_pos h1)).trans ((if_pos h1).trans (if_neg e')).symm
      · exact ((if_neg e).trans (if_neg h1)).trans (if_neg h1).symm
  have oln : ∀ a, ln_ (nw_ (jn_ c m) k n w) a = ln_ (jn_ (bm_ c (nw_ m k n w)) (nw_ m k n w)) a := fun a => by
    by_cases e : a = nx_ c
    · subst e
      exact (if_pos rfl).trans ((if_pos h0).trans (if_pos hn.symm)).symm
    · have e' : a ≠ nx_ m := by rw [hn]; exact e
      by_cases h1 : kd_ c a = 0
      · exact ((if_neg e).trans (if_pos h1)).trans ((if_pos h1).trans (if_neg e')).symm
      · exact ((if_neg e).trans (if_neg h1)).trans (if_neg h1).symm
  refine ⟨okd, oln, ?_, ?_, ?_, fun cy a => ?_⟩
  · show nx_ c + 1 = nx_ m + 1
    rw [hn]
  · show sl_ c + w = sl_ m + w
    rw [hs]
  · show List.Perm ((ow_ c ++ ow_ m) ++ [nx_ c]) (ow_ c ++ (ow_ m ++ [nx_ m]))
    rw [List.append_assoc, hn]
  · by_cases e : a = nx_ c
    · subst e
      rw [en_jm (c := bm_ c (nw_ m k n w)) h0]
      refine en_same ?_ ?_ (fun _ => ?_) (fun _ => ?_) (fun _ => ?_) ?_ ?_ ?_ <;> first | exact (if_pos rfl).trans (if_pos hn.symm).symm | exact funext fun _ => (if_pos rfl).trans (if_pos hn.symm).symm
    · have e' : a ≠ nx_ m := by rw [hn]; exact e
      rw [en_nw (σ := jn_ c m) e]
      by_cases h1 : kd_ c a = 0
      · rw [en_jm h1, en_jm (c := bm_ c (nw_ m k n w)) h1, en_nw e']
      · rw [en_jc h1, en_jc (c := bm_ c (nw_ m k n w)) h1]
        rfl
