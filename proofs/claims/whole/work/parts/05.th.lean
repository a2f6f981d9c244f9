/-! THE TYPED HEAP: what the cells of the system hold, field by field, as functions of the address; the machine's heap is tied to it by rp_. -/
abbrev TH : Type := (Nat → Nat) × (Nat → Nat) × (Nat → Nat → Int32) × (Nat → Nat → Option Nat) × (Nat → Nat → Int64) × (Nat → Nat → Int32) × (Nat → Nat → Option Nat) × (Nat → Nat → Int64) × List Nat × Nat × Nat
def kd_ (σ : TH) : Nat → Nat := σ.1
def ln_ (σ : TH) : Nat → Nat := σ.2.1
def fi_ (σ : TH) : Nat → Nat → Int32 := σ.2.2.1
def fr_ (σ : TH) : Nat → Nat → Option Nat := σ.2.2.2.1
def fl_ (σ : TH) : Nat → Nat → Int64 := σ.2.2.2.2.1
def ai_ (σ : TH) : Nat → Nat → Int32 := σ.2.2.2.2.2.1
def ar_ (σ : TH) : Nat → Nat → Option Nat := σ.2.2.2.2.2.2.1
def al_ (σ : TH) : Nat → Nat → Int64 := σ.2.2.2.2.2.2.2.1
def ow_ (σ : TH) : List Nat := σ.2.2.2.2.2.2.2.2.1
def nx_ (σ : TH) : Nat := σ.2.2.2.2.2.2.2.2.2.1
def sl_ (σ : TH) : Nat := σ.2.2.2.2.2.2.2.2.2.2
def up2_ {α : Type} (f : Nat → Nat → α) (c a : Nat) (v : α) : Nat → Nat → α := fun c' a' => if c' = c ∧ a' = a then v else f c' a'
def rs1_ {α : Type} (f : Nat → Nat → α) (a : Nat) (v : α) : Nat → Nat → α := fun c' a' => if a' = a then v else f c' a'
def rs0_ {α : Type} (f : Nat → Nat → α) (a : Nat) (v : α) : Nat → Nat → α := fun a' i => if a' = a then v else f a' i
def up1_ {α : Type} (f : Nat → α) (a : Nat) (v : α) : Nat → α := fun a' => if a' = a then v else f a'
/-- a field of whole numbers is written -/
def si_ (σ : TH) (c a : Nat) (v : Int32) : TH := (kd_ σ, ln_ σ, up2_ (fi_ σ) c a v, fr_ σ, fl_ σ, ai_ σ, ar_ σ, al_ σ, ow_ σ, nx_ σ, sl_ σ)
def sr_ (σ : TH) (c a : Nat) (v : Option Nat) : TH := (kd_ σ, ln_ σ, fi_ σ, up2_ (fr_ σ) c a v, fl_ σ, ai_ σ, ar_ σ, al_ σ, ow_ σ, nx_ σ, sl_ σ)
def so_ (σ : TH) (c a : Nat) (v : Int64) : TH := (kd_ σ, ln_ σ, fi_ σ, fr_ σ, up2_ (fl_ σ) c a v, ai_ σ, ar_ σ, al_ σ, ow_ σ, nx_ σ, sl_ σ)
/-- a place of an array is written -/
def sa_ (σ : TH) (a i : Nat) (v : Int32) : TH := (kd_ σ, ln_ σ, fi_ σ, fr_ σ, fl_ σ, up2_ (ai_ σ) a i v, ar_ σ, al_ σ, ow_ σ, nx_ σ, sl_ σ)
def sq_ (σ : TH) (a i : Nat) (v : Option Nat) : TH := (kd_ σ, ln_ σ, fi_ σ, fr_ σ, fl_ σ, ai_ σ, up2_ (ar_ σ) a i v, al_ σ, ow_ σ, nx_ σ, sl_ σ)
def sj_ (σ : TH) (a i : Nat) (v : Int64) : TH := (kd_ σ, ln_ σ, fi_ σ, fr_ σ, fl_ σ, ai_ σ, ar_ σ, up2_ (al_ σ) a i v, ow_ σ, nx_ σ, sl_ σ)
/-- a cell is made: of kind k, n places (an array), w slots -/
def nw_ (σ : TH) (k n w : Nat) : TH := (up1_ (kd_ σ) (nx_ σ) k, up1_ (ln_ σ) (nx_ σ) n, rs1_ (fi_ σ) (nx_ σ) 0, rs1_ (fr_ σ) (nx_ σ) none, rs1_ (fl_ σ) (nx_ σ) 0, rs0_ (ai_ σ) (nx_ σ) 0, rs0_ (ar_ σ) (nx_ σ) none, rs0_ (al_ σ) (nx_ σ) 0, ow_ σ ++ [nx_ σ], nx_ σ + 1, sl_ σ + w)
def fv_ (σ : TH) (c a j : Nat) : Value := match ft_ c j with
  | 0 => .int (fi_ σ (100 * c + j) a)
  | 1 => va_rf (fr_ σ (100 * c + j) a)
  | _ => .long (fl_ σ (100 * c + j) a)
def fs_ (σ : TH) (c a : Nat) : List Value := (List.range (fn_ c)).map (fv_ σ c a)
/-- a cell's picture: kinds 1 .. 17 the classes, 20 int[], 21 byte[], 22 boolean[], 23 long[], 24 and on arrays of references -/
def en_ (cy : Nat → ClassId) (σ : TH) (a : Nat) : va_E :=
  if kd_ σ a < 20 then .inr (kd_ σ a - 1, fs_ σ (kd_ σ a - 1) a)
  else if kd_ σ a < 23 then .inl (cy (kd_ σ a), ln_ σ a, .inl (ai_ σ a))
  else if kd_ σ a < 24 then .inl (cy (kd_ σ a), ln_ σ a, .inr (.inl (al_ σ a)))
  else .inl (cy (kd_ σ a), ln_ σ a, .inr (.inr (.inr (.inr (ar_ σ a)))))
def tyz (cy : Nat → ClassId) : List (ClassId × FieldType) := [(cy 20, .int), (cy 21, .byte), (cy 22, .boolean), (cy 23, .long), (cy 24, .object "java/lang/Object"), (cy 25, .object RX8), (cy 26, .object RX9), (cy 27, .object RX13), (cy 28, .object RX12)]
def wl_ (cy : Nat → ClassId) (σ : TH) : va_W := va_pl (ow_ σ) (en_ cy σ)
/-- what may be changed from σ on: its cells (an empty array of objects aside), and those to come -/
def aa_ (σ : TH) : Nat → Prop := fun q => (q ∈ ow_ σ ∧ ¬ (kd_ σ q = 24 ∧ ln_ σ q = 0)) ∨ nx_ σ ≤ q
/-- the machine's heap H holds σ -/
def hp_ (D : va_G) (cy : Nat → ClassId) (σ : TH) (H : Heap) : Prop :=
  va_P D clz (wl_ cy σ) H ∧ va_D (fun _ => True) (wl_ cy σ) ∧ H.size = nx_ σ ∧ ∀ a, kd_ σ a ≠ 0 → a ∈ ow_ σ
/-- from σ to τ nothing is lost: cells stay, their kinds and lengths too -/
def tl_ (σ τ : TH) : Prop := nx_ σ ≤ nx_ τ ∧ sl_ σ ≤ sl_ τ ∧ (∀ q ∈ ow_ σ, q ∈ ow_ τ) ∧ (∀ q ∈ ow_ τ, q ∈ ow_ σ ∨ nx_ σ ≤ q) ∧ ∀ q, kd_ σ q ≠ 0 → kd_ τ q = kd_ σ q ∧ ln_ τ q = ln_ σ q
theorem tl_rf (σ : TH) : tl_ σ σ := ⟨Nat.le_refl _, Nat.le_refl _, fun _ h => h, fun _ h => Or.inl h, fun _ _ => ⟨rfl, rfl⟩⟩
theorem tl_tr {a b c : TH} (h : tl_ a b) (k : tl_ b c) : tl_ a c :=
  ⟨Nat.le_trans h.1 k.1, Nat.le_trans h.2.1 k.2.1, fun q hq => k.2.2.1 q (h.2.2.1 q hq), fun q hq => (k.2.2.2.1 q hq).elim (h.2.2.2.1 q) (fun z => Or.inr (Nat.le_trans h.1 z)), fun q hq => by
    have h1 := h.2.2.2.2 q hq
    have h2 := k.2.2.2.2 q (by rw [h1.1]; exact hq)
    exact ⟨h2.1.trans h1.1, h2.2.trans h1.2⟩⟩
theorem aa_tl {σ τ : TH} (h : tl_ σ τ) : ∀ q, aa_ τ q → aa_ σ q := fun q hq => by
  rcases hq with ⟨h1, h2⟩ | h1
  · rcases h.2.2.2.1 q h1 with h3 | h3
    · refine Or.inl ⟨h3, fun h4 => h2 ?_⟩
      have h5 := h.2.2.2.2 q (by rw [h4.1]; decide)
      exact ⟨h5.1.trans h4.1, h5.2.trans h4.2⟩
    · exact Or.inr h3
  · exact Or.inr (Nat.le_trans h.1 h1)
theorem tl_si (σ : TH) (c a : Nat) (v : Int32) : tl_ σ (si_ σ c a v) := tl_rf σ
theorem tl_sr (σ : TH) (c a : Nat) (v : Option Nat) : tl_ σ (sr_ σ c a v) := tl_rf σ
theorem tl_so (σ : TH) (c a : Nat) (v : Int64) : tl_ σ (so_ σ c a v) := tl_rf σ
theorem tl_sa (σ : TH) (a i : Nat) (v : Int32) : tl_ σ (sa_ σ a i v) := tl_rf σ
theorem tl_sq (σ : TH) (a i : Nat) (v : Option Nat) : tl_ σ (sq_ σ a i v) := tl_rf σ
theorem tl_sj (σ : TH) (a i : Nat) (v : Int64) : tl_ σ (sj_ σ a i v) := tl_rf σ
theorem tl_nw (σ : TH) (k n w : Nat) (h : kd_ σ (nx_ σ) = 0) : tl_ σ (nw_ σ k n w) := by
  refine ⟨Nat.le_succ _, Nat.le_add_right _ _, fun q hq => List.mem_append_left _ hq, fun q hq => ?_, fun q hq => ?_⟩
  · rcases List.mem_append.mp hq with h1 | h1
    · exact Or.inl h1
    · exact Or.inr (by rw [List.mem_singleton.mp h1]; exact Nat.le_refl _)
  · have hne : q ≠ nx_ σ := fun e => hq (by rw [e]; exact h)
    exact ⟨if_neg hne, if_neg hne⟩
/-- the pictures behind a write -/
theorem fs_at {σ : TH} {c a j : Nat} (hj : j < fn_ c) : (fs_ σ c a)[j]? = some (fv_ σ c a j) := by
  simp [fs_, hj]
theorem fs_set {σ τ : TH} {c a j : Nat} {v : Value} (hv : fv_ τ c a j = v) (ho : ∀ i, i ≠ j → fv_ τ c a i = fv_ σ c a i) : (fs_ σ c a).set j v = fs_ τ c a := by
  apply List.ext_getElem?
  intro i
  by_cases hi : i = j
  · subst hi
    by_cases hl : i < fn_ c
    · rw [List.getElem?_set_self (by simp [fs_, hl]), fs_at hl, hv]
    · rw [List.getElem?_eq_none (by simp [fs_]; omega), List.getElem?_eq_none (by simp [fs_]; omega)]
  · rw [List.getElem?_set_ne (Ne.symm hi)]
    by_cases hl : i < fn_ c
    · rw [fs_at hl, fs_at hl, ho i hi]
    · rw [List.getElem?_eq_none (by simp [fs_]; omega), List.getElem?_eq_none (by simp [fs_]; omega)]
theorem en_obj {cy : Nat → ClassId} {σ : TH} {a c : Nat} (h : kd_ σ a = c + 1) (hc : c < 19) : en_ cy σ a = .inr (c, fs_ σ c a) := by
  unfold en_
  rw [h, if_pos (by omega), Nat.add_sub_cancel]
theorem en_int {cy : Nat → ClassId} {σ : TH} {a k : Nat} (h : kd_ σ a = k) (h1 : ¬ k < 20) (h2 : k < 23) : en_ cy σ a = .inl (cy k, ln_ σ a, .inl (ai_ σ a)) := by
  unfold en_
  rw [h, if_neg h1, if_pos h2]
theorem en_long {cy : Nat → ClassId} {σ : TH} {a : Nat} (h : kd_ σ a = 23) : en_ cy σ a = .inl (cy 23, ln_ σ a, .inr (.inl (al_ σ a))) := by
  unfold en_
  rw [h, if_neg (by decide), if_neg (by decide), if_pos (by decide)]
theorem en_ref {cy : Nat → ClassId} {σ : TH} {a k : Nat} (h : kd_ σ a = k) (h1 : ¬ k < 24) : en_ cy σ a = .inl (cy k, ln_ σ a, .inr (.inr (.inr (.inr (ar_ σ a))))) := by
  unfold en_
  rw [h, if_neg (by omega), if_neg (by omega), if_neg h1]
/-- two typed heaps that show the same at an address -/
theorem en_same {cy : Nat → ClassId} {σ τ : TH} {b : Nat} (hk : kd_ τ b = kd_ σ b) (hn : ln_ τ b = ln_ σ b) (h1 : ∀ c, fi_ τ c b = fi_ σ c b) (h2 : ∀ c, fr_ τ c b = fr_ σ c b) (h3 : ∀ c, fl_ τ c b = fl_ σ c b) (h4 : ai_ τ b = ai_ σ b) (h5 : ar_ τ b = ar_ σ b) (h6 : al_ τ b = al_ σ b) : en_ cy τ b = en_ cy σ b := by
  have hf : ∀ c, fs_ τ c b = fs_ σ c b := fun c => by
    unfold fs_
    congr 1
    funext j
    unfold fv_
    rw [h1, h2, h3]
  unfold en_
  rw [hk, hn, h4, h5, h6, hf]
theorem up2_ne {α : Type} {f : Nat → Nat → α} {c a : Nat} {v : α} {c' a' : Nat} (h : ¬ (c' = c ∧ a' = a)) : up2_ f c a v c' a' = f c' a' := if_neg h
theorem up2_eq {α : Type} {f : Nat → Nat → α} {c a : Nat} {v : α} : up2_ f c a v c a = v := if_pos ⟨rfl, rfl⟩
theorem en_si {cy : Nat → ClassId} {σ : TH} {a c j : Nat} {v : Int32} (h : kd_ σ a = c + 1) (hc : c < 19) (ht : ft_ c j = 0) (b : Nat) : va_up (en_ cy σ) a (.inr (c, (fs_ σ c a).set j (.int v))) b = en_ cy (si_ σ (100 * c + j) a v) b := by
  by_cases hb : b = a
  · subst hb
    rw [en_obj (σ := si_ σ (100 * c + j) b v) h hc, fs_set (τ := si_ σ (100 * c + j) b v)]
    · simp [va_up]
    · unfold fv_; rw [ht]; exact congrArg Value.int up2_eq
    · intro i hi
      unfold fv_
      have e1 : fi_ (si_ σ (100 * c + j) b v) (100 * c + i) b = fi_ σ (100 * c + i) b := up2_ne (fun q => hi (by omega))
      rw [e1]; rfl
  · rw [en_same (τ := si_ σ (100 * c + j) a v) (σ := σ) rfl rfl (fun c' => up2_ne (fun q => hb q.2)) (fun _ => rfl) (fun _ => rfl) rfl rfl rfl]
    simp [va_up, hb]
theorem en_sr {cy : Nat → ClassId} {σ : TH} {a c j : Nat} {v : Option Nat} (h : kd_ σ a = c + 1) (hc : c < 19) (ht : ft_ c j = 1) (b : Nat) : va_up (en_ cy σ) a (.inr (c, (fs_ σ c a).set j (va_rf v))) b = en_ cy (sr_ σ (100 * c + j) a v) b := by
  by_cases hb : b = a
  · subst hb
    rw [en_obj (σ := sr_ σ (100 * c + j) b v) h hc, fs_set (τ := sr_ σ (100 * c + j) b v)]
    · simp [va_up]
    · unfold fv_; rw [ht]; exact congrArg va_rf up2_eq
    · intro i hi
      unfold fv_
      have e1 : fr_ (sr_ σ (100 * c + j) b v) (100 * c + i) b = fr_ σ (100 * c + i) b := up2_ne (fun q => hi (by omega))
      rw [e1]; rfl
  · rw [en_same (τ := sr_ σ (100 * c + j) a v) (σ := σ) rfl rfl (fun _ => rfl) (fun c' => up2_ne (fun q => hb q.2)) (fun _ => rfl) rfl rfl rfl]
    simp [va_up, hb]
theorem en_so {cy : Nat → ClassId} {σ : TH} {a c j : Nat} {v : Int64} (h : kd_ σ a = c + 1) (hc : c < 19) (ht : ft_ c j = 2) (b : Nat) : va_up (en_ cy σ) a (.inr (c, (fs_ σ c a).set j (.long v))) b = en_ cy (so_ σ (100 * c + j) a v) b := by
  by_cases hb : b = a
  · subst hb
    rw [en_obj (σ := so_ σ (100 * c + j) b v) h hc, fs_set (τ := so_ σ (100 * c + j) b v)]
    · simp [va_up]
    · unfold fv_; rw [ht]; exact congrArg Value.long up2_eq
    · intro i hi
      unfold fv_
      have e1 : fl_ (so_ σ (100 * c + j) b v) (100 * c + i) b = fl_ σ (100 * c + i) b := up2_ne (fun q => hi (by omega))
      rw [e1]; rfl
  · rw [en_same (τ := so_ σ (100 * c + j) a v) (σ := σ) rfl rfl (fun _ => rfl) (fun _ => rfl) (fun c' => up2_ne (fun q => hb q.2)) rfl rfl rfl]
    simp [va_up, hb]
theorem up2_row {α : Type} {f : Nat → Nat → α} {a i b : Nat} {v : α} (h : b ≠ a) : up2_ f a i v b = f b := by
  funext j
  exact if_neg (fun q => h q.1)
theorem en_sa {cy : Nat → ClassId} {σ : TH} {a i k : Nat} {v : Int32} (h : kd_ σ a = k) (h1 : ¬ k < 20) (h2 : k < 23) (b : Nat) : va_up (en_ cy σ) a (.inl (cy k, ln_ σ a, .inl (upd (ai_ σ a) i v))) b = en_ cy (sa_ σ a i v) b := by
  by_cases hb : b = a
  · subst hb
    rw [en_int (σ := sa_ σ b i v) h h1 h2]
    have e1 : ai_ (sa_ σ b i v) b = upd (ai_ σ b) i v := by
      funext j
      by_cases hj : j = i
      · subst hj; simp [ai_, sa_, up2_, upd]
      · simp [ai_, sa_, up2_, upd, hj]
    rw [e1]
    simp [va_up]; rfl
  · rw [en_same (τ := sa_ σ a i v) (σ := σ) rfl rfl (fun _ => rfl) (fun _ => rfl) (fun _ => rfl) (up2_row hb) rfl rfl]
    simp [va_up, hb]
