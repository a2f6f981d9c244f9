/-! STAGE B, THE GROUND: reading through writes; objects by role and number (ghosts); small numbers. Written by wip/b/mk40.py. -/
theorem kd_si (σ : TH) (c a : Nat) (v : Int32) : kd_ (si_ σ c a v) = kd_ σ := rfl
theorem ln_si (σ : TH) (c a : Nat) (v : Int32) : ln_ (si_ σ c a v) = ln_ σ := rfl
theorem fi_si (σ : TH) (c a : Nat) (v : Int32) : fi_ (si_ σ c a v) = up2_ (fi_ σ) c a v := rfl
theorem fr_si (σ : TH) (c a : Nat) (v : Int32) : fr_ (si_ σ c a v) = fr_ σ := rfl
theorem fl_si (σ : TH) (c a : Nat) (v : Int32) : fl_ (si_ σ c a v) = fl_ σ := rfl
theorem ai_si (σ : TH) (c a : Nat) (v : Int32) : ai_ (si_ σ c a v) = ai_ σ := rfl
theorem ar_si (σ : TH) (c a : Nat) (v : Int32) : ar_ (si_ σ c a v) = ar_ σ := rfl
theorem al_si (σ : TH) (c a : Nat) (v : Int32) : al_ (si_ σ c a v) = al_ σ := rfl
theorem ow_si (σ : TH) (c a : Nat) (v : Int32) : ow_ (si_ σ c a v) = ow_ σ := rfl
theorem nx_si (σ : TH) (c a : Nat) (v : Int32) : nx_ (si_ σ c a v) = nx_ σ := rfl
theorem sl_si (σ : TH) (c a : Nat) (v : Int32) : sl_ (si_ σ c a v) = sl_ σ := rfl
theorem kd_sr (σ : TH) (c a : Nat) (v : Option Nat) : kd_ (sr_ σ c a v) = kd_ σ := rfl
theorem ln_sr (σ : TH) (c a : Nat) (v : Option Nat) : ln_ (sr_ σ c a v) = ln_ σ := rfl
theorem fi_sr (σ : TH) (c a : Nat) (v : Option Nat) : fi_ (sr_ σ c a v) = fi_ σ := rfl
theorem fr_sr (σ : TH) (c a : Nat) (v : Option Nat) : fr_ (sr_ σ c a v) = up2_ (fr_ σ) c a v := rfl
theorem fl_sr (σ : TH) (c a : Nat) (v : Option Nat) : fl_ (sr_ σ c a v) = fl_ σ := rfl
theorem ai_sr (σ : TH) (c a : Nat) (v : Option Nat) : ai_ (sr_ σ c a v) = ai_ σ := rfl
theorem ar_sr (σ : TH) (c a : Nat) (v : Option Nat) : ar_ (sr_ σ c a v) = ar_ σ := rfl
theorem al_sr (σ : TH) (c a : Nat) (v : Option Nat) : al_ (sr_ σ c a v) = al_ σ := rfl
theorem ow_sr (σ : TH) (c a : Nat) (v : Option Nat) : ow_ (sr_ σ c a v) = ow_ σ := rfl
theorem nx_sr (σ : TH) (c a : Nat) (v : Option Nat) : nx_ (sr_ σ c a v) = nx_ σ := rfl
theorem sl_sr (σ : TH) (c a : Nat) (v : Option Nat) : sl_ (sr_ σ c a v) = sl_ σ := rfl
theorem kd_so (σ : TH) (c a : Nat) (v : Int64) : kd_ (so_ σ c a v) = kd_ σ := rfl
theorem ln_so (σ : TH) (c a : Nat) (v : Int64) : ln_ (so_ σ c a v) = ln_ σ := rfl
theorem fi_so (σ : TH) (c a : Nat) (v : Int64) : fi_ (so_ σ c a v) = fi_ σ := rfl
theorem fr_so (σ : TH) (c a : Nat) (v : Int64) : fr_ (so_ σ c a v) = fr_ σ := rfl
theorem fl_so (σ : TH) (c a : Nat) (v : Int64) : fl_ (so_ σ c a v) = up2_ (fl_ σ) c a v := rfl
theorem ai_so (σ : TH) (c a : Nat) (v : Int64) : ai_ (so_ σ c a v) = ai_ σ := rfl
theorem ar_so (σ : TH) (c a : Nat) (v : Int64) : ar_ (so_ σ c a v) = ar_ σ := rfl
theorem al_so (σ : TH) (c a : Nat) (v : Int64) : al_ (so_ σ c a v) = al_ σ := rfl
theorem ow_so (σ : TH) (c a : Nat) (v : Int64) : ow_ (so_ σ c a v) = ow_ σ := rfl
theorem nx_so (σ : TH) (c a : Nat) (v : Int64) : nx_ (so_ σ c a v) = nx_ σ := rfl
theorem sl_so (σ : TH) (c a : Nat) (v : Int64) : sl_ (so_ σ c a v) = sl_ σ := rfl
theorem kd_sa (σ : TH) (a i : Nat) (v : Int32) : kd_ (sa_ σ a i v) = kd_ σ := rfl
theorem ln_sa (σ : TH) (a i : Nat) (v : Int32) : ln_ (sa_ σ a i v) = ln_ σ := rfl
theorem fi_sa (σ : TH) (a i : Nat) (v : Int32) : fi_ (sa_ σ a i v) = fi_ σ := rfl
theorem fr_sa (σ : TH) (a i : Nat) (v : Int32) : fr_ (sa_ σ a i v) = fr_ σ := rfl
theorem fl_sa (σ : TH) (a i : Nat) (v : Int32) : fl_ (sa_ σ a i v) = fl_ σ := rfl
theorem ai_sa (σ : TH) (a i : Nat) (v : Int32) : ai_ (sa_ σ a i v) = up2_ (ai_ σ) a i v := rfl
theorem ar_sa (σ : TH) (a i : Nat) (v : Int32) : ar_ (sa_ σ a i v) = ar_ σ := rfl
theorem al_sa (σ : TH) (a i : Nat) (v : Int32) : al_ (sa_ σ a i v) = al_ σ := rfl
theorem ow_sa (σ : TH) (a i : Nat) (v : Int32) : ow_ (sa_ σ a i v) = ow_ σ := rfl
theorem nx_sa (σ : TH) (a i : Nat) (v : Int32) : nx_ (sa_ σ a i v) = nx_ σ := rfl
theorem sl_sa (σ : TH) (a i : Nat) (v : Int32) : sl_ (sa_ σ a i v) = sl_ σ := rfl
theorem kd_sq (σ : TH) (a i : Nat) (v : Option Nat) : kd_ (sq_ σ a i v) = kd_ σ := rfl
theorem ln_sq (σ : TH) (a i : Nat) (v : Option Nat) : ln_ (sq_ σ a i v) = ln_ σ := rfl
theorem fi_sq (σ : TH) (a i : Nat) (v : Option Nat) : fi_ (sq_ σ a i v) = fi_ σ := rfl
theorem fr_sq (σ : TH) (a i : Nat) (v : Option Nat) : fr_ (sq_ σ a i v) = fr_ σ := rfl
theorem fl_sq (σ : TH) (a i : Nat) (v : Option Nat) : fl_ (sq_ σ a i v) = fl_ σ := rfl
theorem ai_sq (σ : TH) (a i : Nat) (v : Option Nat) : ai_ (sq_ σ a i v) = ai_ σ := rfl
theorem ar_sq (σ : TH) (a i : Nat) (v : Option Nat) : ar_ (sq_ σ a i v) = up2_ (ar_ σ) a i v := rfl
theorem al_sq (σ : TH) (a i : Nat) (v : Option Nat) : al_ (sq_ σ a i v) = al_ σ := rfl
theorem ow_sq (σ : TH) (a i : Nat) (v : Option Nat) : ow_ (sq_ σ a i v) = ow_ σ := rfl
theorem nx_sq (σ : TH) (a i : Nat) (v : Option Nat) : nx_ (sq_ σ a i v) = nx_ σ := rfl
theorem sl_sq (σ : TH) (a i : Nat) (v : Option Nat) : sl_ (sq_ σ a i v) = sl_ σ := rfl
theorem kd_sj (σ : TH) (a i : Nat) (v : Int64) : kd_ (sj_ σ a i v) = kd_ σ := rfl
theorem ln_sj (σ : TH) (a i : Nat) (v : Int64) : ln_ (sj_ σ a i v) = ln_ σ := rfl
theorem fi_sj (σ : TH) (a i : Nat) (v : Int64) : fi_ (sj_ σ a i v) = fi_ σ := rfl
theorem fr_sj (σ : TH) (a i : Nat) (v : Int64) : fr_ (sj_ σ a i v) = fr_ σ := rfl
theorem fl_sj (σ : TH) (a i : Nat) (v : Int64) : fl_ (sj_ σ a i v) = fl_ σ := rfl
theorem ai_sj (σ : TH) (a i : Nat) (v : Int64) : ai_ (sj_ σ a i v) = ai_ σ := rfl
theorem ar_sj (σ : TH) (a i : Nat) (v : Int64) : ar_ (sj_ σ a i v) = ar_ σ := rfl
theorem al_sj (σ : TH) (a i : Nat) (v : Int64) : al_ (sj_ σ a i v) = up2_ (al_ σ) a i v := rfl
theorem ow_sj (σ : TH) (a i : Nat) (v : Int64) : ow_ (sj_ σ a i v) = ow_ σ := rfl
theorem nx_sj (σ : TH) (a i : Nat) (v : Int64) : nx_ (sj_ σ a i v) = nx_ σ := rfl
theorem sl_sj (σ : TH) (a i : Nat) (v : Int64) : sl_ (sj_ σ a i v) = sl_ σ := rfl
theorem up2_e {α : Type} (f : Nat → Nat → α) (c a : Nat) (v : α) (c' a' : Nat) : up2_ f c a v c' a' = if c' = c ∧ a' = a then v else f c' a' := rfl
theorem up2_c {α : Type} {f : Nat → Nat → α} {c a c' : Nat} {v : α} (h : c' ≠ c) : up2_ f c a v c' = f c' := funext fun _ => if_neg (fun q => h q.1)
theorem up2_s {α : Type} {f : Nat → Nat → α} {c a : Nat} {v : α} : up2_ f c a v c a = v := if_pos ⟨rfl, rfl⟩
theorem up2_n {α : Type} {f : Nat → Nat → α} {c a a' : Nat} {v : α} (h : a' ≠ a) : up2_ f c a v c a' = f c a' := if_neg (fun q => h q.2)
theorem up2_row1 {f : Nat → Nat → Int32} {a i : Nat} {v : Int32} : up2_ f a i v a = upd (f a) i v := by
  funext j
  unfold up2_ upd
  by_cases h : j = i
  · simp [h]
  · simp [h]
/-- the ints of fields, or of arrays, all anew -/
def hf_ (σ : TH) (g : Nat → Nat → Int32) : TH := (kd_ σ, ln_ σ, g, fr_ σ, fl_ σ, ai_ σ, ar_ σ, al_ σ, ow_ σ, nx_ σ, sl_ σ)
def ha_ (σ : TH) (g : Nat → Nat → Int32) : TH := (kd_ σ, ln_ σ, fi_ σ, fr_ σ, fl_ σ, g, ar_ σ, al_ σ, ow_ σ, nx_ σ, sl_ σ)
def hr_ (σ : TH) (g : Nat → Nat → Option Nat) : TH := (kd_ σ, ln_ σ, fi_ σ, fr_ σ, fl_ σ, ai_ σ, g, al_ σ, ow_ σ, nx_ σ, sl_ σ)
theorem hf_self (σ : TH) : hf_ σ (fi_ σ) = σ := rfl
theorem ha_self (σ : TH) : ha_ σ (ai_ σ) = σ := rfl
theorem hr_self (σ : TH) : hr_ σ (ar_ σ) = σ := rfl
/-- GHOSTS: how many objects of each role, where each lies, what lies where -/
abbrev GH : Type := (Nat → Nat) × (Nat → Nat → Nat) × (Nat → Nat × Nat)
def gc_ (G : GH) : Nat → Nat := G.1
def ga_ (G : GH) : Nat → Nat → Nat := G.2.1
def gl_ (G : GH) : Nat → Nat × Nat := G.2.2
def sh_ (K LN : Nat → Nat) (σ : TH) (G : GH) : Prop := wf_ σ ∧ ∀ r i, i < gc_ G r → kd_ σ (ga_ G r i) = K r ∧ K r ≠ 0 ∧ (LN r ≠ 0 → ln_ σ (ga_ G r i) = LN r) ∧ gl_ G (ga_ G r i) = (r, i)
theorem sh_ne {K LN : Nat → Nat} {σ : TH} {G : GH} (h : sh_ K LN σ G) {r i s j : Nat} (hi : i < gc_ G r) (hj : j < gc_ G s) (hn : r ≠ s ∨ i ≠ j) : ga_ G r i ≠ ga_ G s j := fun e => by
  have h1 := (h.2 r i hi).2.2.2
  have h2 := (h.2 s j hj).2.2.2
  rw [e, h2] at h1
  have e1 := congrArg Prod.fst h1
  have e2 := congrArg Prod.snd h1
  exact hn.elim (fun q => q e1.symm) (fun q => q e2.symm)
theorem sh_lt {K LN : Nat → Nat} {σ : TH} {G : GH} (h : sh_ K LN σ G) {r i : Nat} (hi : i < gc_ G r) : ga_ G r i < nx_ σ := by
  obtain ⟨h1, h2, -⟩ := h.2 r i hi
  exact (h.1.2 _ (h.1.1 _ (by rw [h1]; exact h2))).1
/-- one more object of a role -/
def gn_ (G : GH) (r a : Nat) : GH := (fun s => if s = r then gc_ G r + 1 else gc_ G s, fun s i => if s = r ∧ i = gc_ G r then a else ga_ G s i, fun b => if b = a then (r, gc_ G r) else gl_ G b)
theorem sh_gn {K LN : Nat → Nat} {σ : TH} {G : GH} (h : sh_ K LN σ G) {r n w : Nat} (hk : K r ≠ 0) (hn : LN r ≠ 0 → n = LN r) : sh_ K LN (nw_ σ (K r) n w) (gn_ G r (nx_ σ)) := by
  refine ⟨wf_nw h.1 hk, fun s i hi => ?_⟩
  by_cases e : s = r ∧ i = gc_ G r
  · obtain ⟨rfl, rfl⟩ := e
    have e1 : ga_ (gn_ G s (nx_ σ)) s (gc_ G s) = nx_ σ := if_pos ⟨rfl, rfl⟩
    rw [e1]
    exact ⟨kd_nw _ _ _ _, hk, fun q => (ln_nw _ _ _ _).trans (hn q), if_pos rfl⟩
  · have hi' : i < gc_ G s := by
      have hq : i < if s = r then gc_ G r + 1 else gc_ G s := hi
      by_cases e2 : s = r
      · subst e2
        rw [if_pos rfl] at hq
        have : i ≠ gc_ G s := fun q => e ⟨rfl, q⟩
        omega
      · rw [if_neg e2] at hq; exact hq
    obtain ⟨h1, h2, h3, h4⟩ := h.2 s i hi'
    have hl := sh_lt h hi'
    have e1 : ga_ (gn_ G r (nx_ σ)) s i = ga_ G s i := if_neg e
    have hne : ga_ G s i ≠ nx_ σ := Nat.ne_of_lt hl
    rw [e1]
    exact ⟨(if_neg hne).trans h1, h2, fun q => (if_neg hne).trans (h3 q), (if_neg hne).trans h4⟩
/-- an object of a role made anew: the old one is left -/
def gx_ (G : GH) (r i a : Nat) : GH := (gc_ G, fun s j => if s = r ∧ j = i then a else ga_ G s j, fun b => if b = a then (r, i) else gl_ G b)
theorem sh_gx {K LN : Nat → Nat} {σ : TH} {G : GH} (h : sh_ K LN σ G) {r i n w : Nat} (hk : K r ≠ 0) (hn : LN r ≠ 0 → n = LN r) : sh_ K LN (nw_ σ (K r) n w) (gx_ G r i (nx_ σ)) := by
  refine ⟨wf_nw h.1 hk, fun s j hj => ?_⟩
  have hj' : j < gc_ G s := hj
  by_cases e : s = r ∧ j = i
  · obtain ⟨rfl, rfl⟩ := e
    have e1 : ga_ (gx_ G s j (nx_ σ)) s j = nx_ σ := if_pos ⟨rfl, rfl⟩
    rw [e1]
    exact ⟨kd_nw _ _ _ _, hk, fun q => (ln_nw _ _ _ _).trans (hn q), if_pos rfl⟩
  · obtain ⟨h1, h2, h3, h4⟩ := h.2 s j hj'
    have hl := sh_lt h hj'
    have e1 : ga_ (gx_ G r i (nx_ σ)) s j = ga_ G s j := if_neg e
    have hne : ga_ G s j ≠ nx_ σ := Nat.ne_of_lt hl
    rw [e1]
    exact ⟨(if_neg hne).trans h1, h2, fun q => (if_neg hne).trans (h3 q), (if_neg hne).trans h4⟩
/-- what a whole number says of a range -/
theorem rg_ (x : Int32) {n : Nat} (hn : n < 2 ^ 31) : (∃ k, k < n ∧ x = nI k) ∨ (x < 0 ∨ nI n ≤ x) := by
  by_cases h : x < 0
  · exact Or.inr (Or.inl h)
  · obtain ⟨j, hj, rfl⟩ := nI_of h
    by_cases h2 : j < n
    · exact Or.inl ⟨j, h2, rfl⟩
    · exact Or.inr (Or.inr (nI_le (by omega) hj))
def bi_ (q : Prop) [Decidable q] : Int32 := if q then 1 else 0
theorem bi_t {q : Prop} [Decidable q] (h : q) : bi_ q = 1 := if_pos h
theorem bi_f {q : Prop} [Decidable q] (h : ¬ q) : bi_ q = 0 := if_neg h
theorem bi_0 {q : Prop} [Decidable q] : bi_ q = 0 ↔ ¬ q := by
  unfold bi_
  by_cases h : q
  · simp [h]
  · simp [h]
theorem bi_01 {q : Prop} [Decidable q] : bi_ q = 0 ∨ bi_ q = 1 := by
  by_cases h : q
  · exact Or.inr (bi_t h)
  · exact Or.inl (bi_f h)
/-- A CELL'S CONTENTS -/
abbrev CE : Type := Nat × (Nat → Int32) × (Nat → Option Nat) × (Nat → Int64) × (Nat → Int32) × (Nat → Option Nat) × (Nat → Int64)
def ce_ (σ : TH) (a : Nat) : CE := (ln_ σ a, fun c => fi_ σ c a, fun c => fr_ σ c a, fun c => fl_ σ c a, ai_ σ a, ar_ σ a, al_ σ a)
/-- from σ to τ only the cells of T may have changed; none was lost; the new ones are owned -/
def fq_ (T : Nat → Prop) (σ τ : TH) : Prop := tl_ σ τ ∧ wf_ τ ∧ ∀ a, a < nx_ σ → ¬ T a → ce_ τ a = ce_ σ a
theorem fq_tr {T : Nat → Prop} {σ τ υ : TH} (h : fq_ T σ τ) (k : fq_ T τ υ) : fq_ T σ υ := ⟨tl_tr h.1 k.1, k.2.1, fun a ha hT => (k.2.2 a (Nat.lt_of_lt_of_le ha h.1.1) hT).trans (h.2.2 a ha hT)⟩
theorem fq_w {T U : Nat → Prop} {σ τ : TH} (h : fq_ T σ τ) (hTU : ∀ a, T a → U a) : fq_ U σ τ := ⟨h.1, h.2.1, fun a ha hT => h.2.2 a ha (fun q => hT (hTU a q))⟩
theorem fq_rf {T : Nat → Prop} {σ : TH} (h : wf_ σ) : fq_ T σ σ := ⟨tl_rf σ, h, fun _ _ _ => rfl⟩
theorem ce_si {σ : TH} {c a b : Nat} {v : Int32} (h : b ≠ a) : ce_ (si_ σ c a v) b = ce_ σ b := by
  unfold ce_
  have : (fun q => fi_ (si_ σ c a v) q b) = fun q => fi_ σ q b := funext fun q => up2_ne (fun z => h z.2)
  rw [this]
  rfl
theorem ce_sr {σ : TH} {c a b : Nat} {v : Option Nat} (h : b ≠ a) : ce_ (sr_ σ c a v) b = ce_ σ b := by
  unfold ce_
  have : (fun q => fr_ (sr_ σ c a v) q b) = fun q => fr_ σ q b := funext fun q => up2_ne (fun z => h z.2)
  rw [this]
  rfl
theorem ce_so {σ : TH} {c a b : Nat} {v : Int64} (h : b ≠ a) : ce_ (so_ σ c a v) b = ce_ σ b := by
  unfold ce_
  have : (fun q => fl_ (so_ σ c a v) q b) = fun q => fl_ σ q b := funext fun q => up2_ne (fun z => h z.2)
  rw [this]
  rfl
theorem ce_sa {σ : TH} {a i b : Nat} {v : Int32} (h : b ≠ a) : ce_ (sa_ σ a i v) b = ce_ σ b := by
  unfold ce_
  have : ai_ (sa_ σ a i v) b = ai_ σ b := up2_row h
  rw [this]
  rfl
theorem ce_sq {σ : TH} {a i b : Nat} {v : Option Nat} (h : b ≠ a) : ce_ (sq_ σ a i v) b = ce_ σ b := by
  unfold ce_
  have : ar_ (sq_ σ a i v) b = ar_ σ b := up2_row h
  rw [this]
  rfl
theorem ce_sj {σ : TH} {a i b : Nat} {v : Int64} (h : b ≠ a) : ce_ (sj_ σ a i v) b = ce_ σ b := by
  unfold ce_
  have : al_ (sj_ σ a i v) b = al_ σ b := up2_row h
  rw [this]
  rfl
theorem ce_nw {σ : TH} {k n w b : Nat} (h : b ≠ nx_ σ) : ce_ (nw_ σ k n w) b = ce_ σ b := by
  unfold ce_
  have e0 : ln_ (nw_ σ k n w) b = ln_ σ b := if_neg h
  have e1 : (fun q => fi_ (nw_ σ k n w) q b) = fun q => fi_ σ q b := funext fun q => if_neg h
  have e2 : (fun q => fr_ (nw_ σ k n w) q b) = fun q => fr_ σ q b := funext fun q => if_neg h
  have e3 : (fun q => fl_ (nw_ σ k n w) q b) = fun q => fl_ σ q b := funext fun q => if_neg h
  have e4 : ai_ (nw_ σ k n w) b = ai_ σ b := funext fun i => if_neg h
  have e5 : ar_ (nw_ σ k n w) b = ar_ σ b := funext fun i => if_neg h
  have e6 : al_ (nw_ σ k n w) b = al_ σ b := funext fun i => if_neg h
  rw [e0, e1, e2, e3, e4, e5, e6]
theorem fq_si {T : Nat → Prop} {σ : TH} {c a : Nat} {v : Int32} (h : wf_ σ) (ha : T a) : fq_ T σ (si_ σ c a v) := ⟨tl_si σ c a v, h, fun b _ hT => ce_si (fun e => hT (e ▸ ha))⟩
theorem fq_sr {T : Nat → Prop} {σ : TH} {c a : Nat} {v : Option Nat} (h : wf_ σ) (ha : T a) : fq_ T σ (sr_ σ c a v) := ⟨tl_sr σ c a v, h, fun b _ hT => ce_sr (fun e => hT (e ▸ ha))⟩
theorem fq_so {T : Nat → Prop} {σ : TH} {c a : Nat} {v : Int64} (h : wf_ σ) (ha : T a) : fq_ T σ (so_ σ c a v) := ⟨tl_so σ c a v, h, fun b _ hT => ce_so (fun e => hT (e ▸ ha))⟩
theorem fq_sa {T : Nat → Prop} {σ : TH} {a i : Nat} {v : Int32} (h : wf_ σ) (ha : T a) : fq_ T σ (sa_ σ a i v) := ⟨tl_sa σ a i v, h, fun b _ hT => ce_sa (fun e => hT (e ▸ ha))⟩
theorem fq_sq {T : Nat → Prop} {σ : TH} {a i : Nat} {v : Option Nat} (h : wf_ σ) (ha : T a) : fq_ T σ (sq_ σ a i v) := ⟨tl_sq σ a i v, h, fun b _ hT => ce_sq (fun e => hT (e ▸ ha))⟩
theorem fq_sj {T : Nat → Prop} {σ : TH} {a i : Nat} {v : Int64} (h : wf_ σ) (ha : T a) : fq_ T σ (sj_ σ a i v) := ⟨tl_sj σ a i v, h, fun b _ hT => ce_sj (fun e => hT (e ▸ ha))⟩
theorem fq_nw {T : Nat → Prop} {σ : TH} {k n w : Nat} (h : wf_ σ) (hk : k ≠ 0) : fq_ T σ (nw_ σ k n w) := ⟨tl_nw σ k n w (wf_0 h (Nat.le_refl _)), wf_nw h hk, fun b hb _ => ce_nw (Nat.ne_of_lt hb)⟩
