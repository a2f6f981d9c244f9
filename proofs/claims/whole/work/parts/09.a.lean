/-! ARRAYS and NEW over the typed heap. -/
theorem hp_store {D : va_G} {cy : Nat → ClassId} {σ τ : TH} {H H1 : Heap} {a k q0 : Nat} {e : va_E} (hH : hp_ D cy σ H) (hk : kd_ σ a = k + 1) (hq : (wl_ cy σ)[q0]? = some (a, en_ cy σ a)) (ho : ow_ τ = ow_ σ) (hkk : kd_ τ = kd_ σ) (hnx : nx_ τ = nx_ σ) (he : ∀ b, va_up (en_ cy σ) a e b = en_ cy τ b) (hat : va_at D clz (a, e) H1) (z : H1.size = H.size) (oq : ∀ q : Nat, q ≠ a → H1[q]? = H[q]?) : hp_ D cy τ H1 := by
  have hset := hp_set hH hk hq ho he
  have h1 := hH.1.set hH.2.1 hq hat oq
  have h2 := hH.2.1.set (e := e) hq
  rw [hset] at h1 h2
  exact ⟨h1, h2, by rw [z, hnx]; exact hH.2.2.1, fun b hb => by rw [ho]; exact hH.2.2.2 b (by rw [← hkk]; exact hb)⟩
theorem aa_arr {D : va_G} {cy : Nat → ClassId} {σ : TH} {H : Heap} {a k : Nat} {i : Int32} (hH : hp_ D cy σ H) (hk : kd_ σ a = k + 1) (hin : ¬ (i < 0 ∨ ln_ σ a ≤ i.toNatClampNeg)) : aa_ σ a :=
  Or.inl ⟨hH.2.2.2 a (by rw [hk]; exact Nat.succ_ne_zero _), fun q => hin (Or.inr (by rw [q.2]; exact Nat.zero_le _))⟩
theorem en_sj {cy : Nat → ClassId} {σ : TH} {a i : Nat} {v : Int64} (h : kd_ σ a = 23) (b : Nat) : va_up (en_ cy σ) a (.inl (cy 23, ln_ σ a, .inr (.inl (vp_updL (al_ σ a) i v)))) b = en_ cy (sj_ σ a i v) b := by
  by_cases hb : b = a
  · subst hb
    rw [en_long (σ := sj_ σ b i v) h]
    have e1 : al_ (sj_ σ b i v) b = vp_updL (al_ σ b) i v := by
      funext j
      by_cases hj : j = i
      · subst hj; simp [al_, sj_, up2_, vp_updL]
      · simp [al_, sj_, up2_, vp_updL, hj]
    rw [e1]
    simp [va_up]; rfl
  · rw [en_same (τ := sj_ σ a i v) (σ := σ) rfl rfl (fun _ => rfl) (fun _ => rfl) (fun _ => rfl) rfl rfl (up2_row hb)]
    simp [va_up, hb]
theorem en_sq {cy : Nat → ClassId} {σ : TH} {a i k : Nat} {v : Option Nat} (h : kd_ σ a = k) (h1 : ¬ k < 24) (b : Nat) : va_up (en_ cy σ) a (.inl (cy k, ln_ σ a, .inr (.inr (.inr (.inr (va_up (ar_ σ a) i v)))))) b = en_ cy (sq_ σ a i v) b := by
  by_cases hb : b = a
  · subst hb
    rw [en_ref (σ := sq_ σ b i v) h h1]
    have e1 : ar_ (sq_ σ b i v) b = va_up (ar_ σ b) i v := by
      funext j
      by_cases hj : j = i
      · subst hj; simp [ar_, sq_, up2_, va_up]
      · simp [ar_, sq_, up2_, va_up, hj]
    rw [e1]
    simp [va_up]; rfl
  · rw [en_same (τ := sq_ σ a i v) (σ := σ) rfl rfl (fun _ => rfl) (fun _ => rfl) (fun _ => rfl) rfl (up2_row hb) rfl]
    simp [va_up, hb]
section V9
variable {l : Launch} {D : va_G} {cy : Nat → ClassId} {ka : Nat → Nat} {cc : ByteArray} {own : String} {maxL : Nat} {ret : Option FieldType} {nm : String} {fr lo : Nat} {Qf : QF} {σ0 z σ : TH} {pc : Nat} {L : List (Nat × Value)} {rest : List Value}
variable {a : Nat} {i x : Int32} {α : Type} {u : α}
theorem v_alen {f : Int32 → Option α} (kk t0 : Nat) (ty : FieldType) (hk : kd_ σ a = kk + 1) (h20 : 20 ≤ kk + 1) (ht : (tyz cy)[t0]? = some (cy (kk + 1), ty)) (hf : lt_ (Int32.ofNat (ln_ σ a)) f = some u) (hd : decode cc pc = .ok (.arraylength, 1)) (k : ∀ x, f x = some u → v_ l D cy ka cc own maxL ret nm fr lo Qf σ0 z σ (pc + 1) L (.int x :: rest)) : v_ l D cy ka cc own maxL ret nm fr lo Qf σ0 z σ pc L (va_rf (some a) :: rest) := by
  have k := k _ hf
  refine ⟨k.1, fun t p e s m args below meth c C' ls hl H locs hH hS => ?_⟩
  obtain ⟨q0, hq⟩ := hp_at hH hk
  have kq := k.2 t p e s m args below meth c C' ls hl H locs hH hS
  by_cases h1 : kk + 1 < 23
  · rw [en_int hk (by omega) h1] at hq
    exact va_alen C'.1.1 C'.1.2.1 C'.2.2.2.2.1 hH.1 q0 t0 hq ht rfl hd kq
  · by_cases h2 : kk + 1 = 23
    · rw [en_long (by rw [hk, h2]), ← h2] at hq
      exact va_alen C'.1.1 C'.1.2.1 C'.2.2.2.2.1 hH.1 q0 t0 hq ht rfl hd kq
    · rw [en_ref hk (by omega)] at hq
      exact va_alen C'.1.1 C'.1.2.1 C'.2.2.2.2.1 hH.1 q0 t0 hq ht rfl hd kq
theorem v_iald {f : Int32 → Option α} (hk : kd_ σ a = 20) (hf : gt_ (¬ (i < 0 ∨ ln_ σ a ≤ i.toNatClampNeg)) (lt_ (ai_ σ a i.toNatClampNeg) f) = some u) (hd : decode cc pc = .ok (.iaload, 1)) (k : ∀ x, f x = some u → v_ l D cy ka cc own maxL ret nm fr lo Qf σ0 z σ (pc + 1) L (.int x :: rest)) : v_ l D cy ka cc own maxL ret nm fr lo Qf σ0 z σ pc L (.int i :: va_rf (some a) :: rest) := by
  have k := k _ (gt_of hf).2
  refine ⟨k.1, fun t p e s m args below meth c C' ls hl H locs hH hS => ?_⟩
  obtain ⟨q0, hq⟩ := hp_at hH hk
  rw [en_int hk (by decide) (by decide)] at hq
  exact va_iald C'.1.1 C'.1.2.1 C'.2.2.2.2.1 hH.1 q0 0 hq rfl (gt_of hf).1 hd (k.2 t p e s m args below meth c C' ls hl H locs hH hS)
theorem v_bald {f : Int32 → Option α} (hk : kd_ σ a = 21) (hf : gt_ (¬ (i < 0 ∨ ln_ σ a ≤ i.toNatClampNeg)) (lt_ (ai_ σ a i.toNatClampNeg) f) = some u) (hd : decode cc pc = .ok (.baload, 1)) (k : ∀ x, f x = some u → v_ l D cy ka cc own maxL ret nm fr lo Qf σ0 z σ (pc + 1) L (.int x :: rest)) : v_ l D cy ka cc own maxL ret nm fr lo Qf σ0 z σ pc L (.int i :: va_rf (some a) :: rest) := by
  have k := k _ (gt_of hf).2
  refine ⟨k.1, fun t p e s m args below meth c C' ls hl H locs hH hS => ?_⟩
  obtain ⟨q0, hq⟩ := hp_at hH hk
  rw [en_int hk (by decide) (by decide)] at hq
  exact va_bald C'.1.1 C'.1.2.1 C'.2.2.2.2.1 hH.1 q0 1 hq rfl (gt_of hf).1 hd (k.2 t p e s m args below meth c C' ls hl H locs hH hS)
theorem v_zald {f : Int32 → Option α} (hk : kd_ σ a = 22) (hf : gt_ (¬ (i < 0 ∨ ln_ σ a ≤ i.toNatClampNeg)) (lt_ (ai_ σ a i.toNatClampNeg) f) = some u) (hd : decode cc pc = .ok (.baload, 1)) (k : ∀ x, f x = some u → v_ l D cy ka cc own maxL ret nm fr lo Qf σ0 z σ (pc + 1) L (.int x :: rest)) : v_ l D cy ka cc own maxL ret nm fr lo Qf σ0 z σ pc L (.int i :: va_rf (some a) :: rest) := by
  have k := k _ (gt_of hf).2
  refine ⟨k.1, fun t p e s m args below meth c C' ls hl H locs hH hS => ?_⟩
  obtain ⟨q0, hq⟩ := hp_at hH hk
  rw [en_int hk (by decide) (by decide)] at hq
  exact va_zald C'.1.1 C'.1.2.1 C'.2.2.2.2.1 hH.1 q0 2 hq rfl (gt_of hf).1 hd (k.2 t p e s m args below meth c C' ls hl H locs hH hS)
theorem v_lald {f : Int64 → Option α} (hk : kd_ σ a = 23) (hf : gt_ (¬ (i < 0 ∨ ln_ σ a ≤ i.toNatClampNeg)) (lt_ (al_ σ a i.toNatClampNeg) f) = some u) (hd : decode cc pc = .ok (.laload, 1)) (k : ∀ x, f x = some u → v_ l D cy ka cc own maxL ret nm fr lo Qf σ0 z σ (pc + 1) L (.long x :: rest)) : v_ l D cy ka cc own maxL ret nm fr lo Qf σ0 z σ pc L (.int i :: va_rf (some a) :: rest) := by
  have k := k _ (gt_of hf).2
  refine ⟨k.1, fun t p e s m args below meth c C' ls hl H locs hH hS => ?_⟩
  obtain ⟨q0, hq⟩ := hp_at hH hk
  rw [en_long hk] at hq
  exact va_lald C'.1.1 C'.1.2.1 C'.2.2.2.2.1 hH.1 q0 3 hq rfl (gt_of hf).1 hd (k.2 t p e s m args below meth c C' ls hl H locs hH hS)
theorem v_aald {f : Option Nat → Option α} (kk t0 : Nat) (Cn : String) (hk : kd_ σ a = kk + 1) (h24 : 24 ≤ kk + 1) (ht : (tyz cy)[t0]? = some (cy (kk + 1), .object Cn)) (hf : gt_ (¬ (i < 0 ∨ ln_ σ a ≤ i.toNatClampNeg)) (lt_ (ar_ σ a i.toNatClampNeg) f) = some u) (hd : decode cc pc = .ok (.aaload, 1)) (k : ∀ x, f x = some u → v_ l D cy ka cc own maxL ret nm fr lo Qf σ0 z σ (pc + 1) L (va_rf x :: rest)) : v_ l D cy ka cc own maxL ret nm fr lo Qf σ0 z σ pc L (.int i :: va_rf (some a) :: rest) := by
  have k := k _ (gt_of hf).2
  refine ⟨k.1, fun t p e s m args below meth c C' ls hl H locs hH hS => ?_⟩
  obtain ⟨q0, hq⟩ := hp_at hH hk
  rw [en_ref hk (by omega)] at hq
  exact va_aldq C'.1.1 C'.1.2.1 C'.2.2.2.2.1 hH.1 q0 t0 hq ht (gt_of hf).1 hd (k.2 t p e s m args below meth c C' ls hl H locs hH hS)
theorem v_iast {f : Option α} (hk : kd_ σ a = 20) (hf : gt_ (¬ (i < 0 ∨ ln_ σ a ≤ i.toNatClampNeg)) f = some u) (hd : decode cc pc = .ok (.iastore, 1)) (k : f = some u → v_ l D cy ka cc own maxL ret nm fr lo Qf σ0 z (sa_ σ a i.toNatClampNeg x) (pc + 1) L rest) : v_ l D cy ka cc own maxL ret nm fr lo Qf σ0 z σ pc L (.int x :: .int i :: va_rf (some a) :: rest) := by
  have k := k (gt_of hf).2
  have hin := (gt_of hf).1
  refine ⟨tl_tr (tl_sa _ _ _ _) k.1, fun t p e s m args below meth c C' ls hl H locs hH hS => ?_⟩
  obtain ⟨q0, hq⟩ := hp_at hH hk
  have hq' := hq
  rw [en_int hk (by decide) (by decide)] at hq'
  refine W.iast C'.1.1 C'.1.2.1 (hH.1 q0 _ hq') ((C'.2.2.2.2.1.2 0 _ rfl).1 (ln_ σ a) (fun j => .int (ai_ σ a j))) (fun q => by cases q) (by show ¬ (i < 0 ∨ (arrV _ _ _).slots.size ≤ _); rw [arrV_size]; exact hin) rfl rfl hd fun H1 e9 z9 oq => ?_
  refine k.2 (tl_tr t (tl_sa _ _ _ _)) p e s m args below meth c C' ls hl H1 _ (hp_store hH hk hq rfl rfl rfl (en_sa hk (by decide) (by decide)) ?_ z9 oq) (hS.put z9 oq (aa_tl t a (aa_arr hH hk hin)))
  show H1[a]? = some (vp_cell _ _)
  rw [e9, vp_cell_i, vp_cell_i, arrV_store]
  congr 2
  funext q
  by_cases hq : q = i.toNatClampNeg
  · subst hq
    simp [updV, upd]
  · simp [updV, upd, hq]
theorem v_bast {f : Option α} (hk : kd_ σ a = 21) (hf : gt_ (¬ (i < 0 ∨ ln_ σ a ≤ i.toNatClampNeg)) f = some u) (hd : decode cc pc = .ok (.bastore, 1)) (k : f = some u → v_ l D cy ka cc own maxL ret nm fr lo Qf σ0 z (sa_ σ a i.toNatClampNeg (vp_nar .byte x)) (pc + 1) L rest) : v_ l D cy ka cc own maxL ret nm fr lo Qf σ0 z σ pc L (.int x :: .int i :: va_rf (some a) :: rest) := by
  have k := k (gt_of hf).2
  have hin := (gt_of hf).1
  refine ⟨tl_tr (tl_sa _ _ _ _) k.1, fun t p e s m args below meth c C' ls hl H locs hH hS => ?_⟩
  obtain ⟨q0, hq⟩ := hp_at hH hk
  have hq' := hq
  rw [en_int hk (by decide) (by decide)] at hq'
  refine W.bast C'.1.1 C'.1.2.1 (hH.1 q0 _ hq') ((C'.2.2.2.2.1.2 1 _ rfl).1 (ln_ σ a) (fun j => .int (ai_ σ a j))) (fun q => by cases q) (by show ¬ (i < 0 ∨ (arrV _ _ _).slots.size ≤ _); rw [arrV_size]; exact hin) rfl rfl hd fun H1 e9 z9 oq => ?_
  refine k.2 (tl_tr t (tl_sa _ _ _ _)) p e s m args below meth c C' ls hl H1 _ (hp_store hH hk hq rfl rfl rfl (en_sa hk (by decide) (by decide)) ?_ z9 oq) (hS.put z9 oq (aa_tl t a (aa_arr hH hk hin)))
  show H1[a]? = some (vp_cell _ _)
  rw [e9, vp_cell_i, vp_cell_i, arrV_store]
  congr 2
  funext q
  by_cases hq : q = i.toNatClampNeg
  · subst hq
    simp [updV, upd, vp_nar]
    try rfl
  · simp [updV, upd, hq]
theorem v_zast {f : Option α} (hk : kd_ σ a = 22) (hf : gt_ (¬ (i < 0 ∨ ln_ σ a ≤ i.toNatClampNeg)) f = some u) (hd : decode cc pc = .ok (.bastore, 1)) (k : f = some u → v_ l D cy ka cc own maxL ret nm fr lo Qf σ0 z (sa_ σ a i.toNatClampNeg (vp_nar .boolean x)) (pc + 1) L rest) : v_ l D cy ka cc own maxL ret nm fr lo Qf σ0 z σ pc L (.int x :: .int i :: va_rf (some a) :: rest) := by
  have k := k (gt_of hf).2
  have hin := (gt_of hf).1
  refine ⟨tl_tr (tl_sa _ _ _ _) k.1, fun t p e s m args below meth c C' ls hl H locs hH hS => ?_⟩
  obtain ⟨q0, hq⟩ := hp_at hH hk
  have hq' := hq
  rw [en_int hk (by decide) (by decide)] at hq'
  refine W.zast C'.1.1 C'.1.2.1 (hH.1 q0 _ hq') ((C'.2.2.2.2.1.2 2 _ rfl).1 (ln_ σ a) (fun j => .int (ai_ σ a j))) (fun q => by cases q) (by show ¬ (i < 0 ∨ (arrV _ _ _).slots.size ≤ _); rw [arrV_size]; exact hin) rfl rfl hd fun H1 e9 z9 oq => ?_
  refine k.2 (tl_tr t (tl_sa _ _ _ _)) p e s m args below meth c C' ls hl H1 _ (hp_store hH hk hq rfl rfl rfl (en_sa hk (by decide) (by decide)) ?_ z9 oq) (hS.put z9 oq (aa_tl t a (aa_arr hH hk hin)))
  show H1[a]? = some (vp_cell _ _)
  rw [e9, vp_cell_i, vp_cell_i, arrV_store]
  congr 2
  funext q
  by_cases hq : q = i.toNatClampNeg
  · subst hq
    simp [updV, upd, vp_nar]
    try rfl
  · simp [updV, upd, hq]
theorem v_last {f : Option α} {y : Int64} (hk : kd_ σ a = 23) (hf : gt_ (¬ (i < 0 ∨ ln_ σ a ≤ i.toNatClampNeg)) f = some u) (hd : decode cc pc = .ok (.lastore, 1)) (k : f = some u → v_ l D cy ka cc own maxL ret nm fr lo Qf σ0 z (sj_ σ a i.toNatClampNeg y) (pc + 1) L rest) : v_ l D cy ka cc own maxL ret nm fr lo Qf σ0 z σ pc L (.long y :: .int i :: va_rf (some a) :: rest) := by
  have k := k (gt_of hf).2
  have hin := (gt_of hf).1
  refine ⟨tl_tr (tl_sj _ _ _ _) k.1, fun t p e s m args below meth c C' ls hl H locs hH hS => ?_⟩
  obtain ⟨q0, hq⟩ := hp_at hH hk
  have hq' := hq
  rw [en_long hk] at hq'
  refine W.last C'.1.1 C'.1.2.1 (hH.1 q0 _ hq') ((C'.2.2.2.2.1.2 3 _ rfl).1 (ln_ σ a) (fun j => .long (al_ σ a j))) (fun q => by cases q) (by show ¬ (i < 0 ∨ (arrV _ _ _).slots.size ≤ _); rw [arrV_size]; exact hin) rfl rfl hd fun H1 e9 z9 oq => ?_
  refine k.2 (tl_tr t (tl_sj _ _ _ _)) p e s m args below meth c C' ls hl H1 _ (hp_store hH hk hq rfl rfl rfl (en_sj hk) ?_ z9 oq) (hS.put z9 oq (aa_tl t a (aa_arr hH hk hin)))
  show H1[a]? = some (vp_cell _ _)
  rw [e9, vp_cell_l, vp_cell_l, arrV_store]
  congr 2
  funext q
  by_cases hq : q = i.toNatClampNeg
  · subst hq
    simp [updV, vp_updL]
  · simp [updV, vp_updL, hq]
/-- a place of an array of references becomes null -/
theorem v_aastN {f : Option α} (kk t0 : Nat) (Cn : String) (hk : kd_ σ a = kk + 1) (h24 : 24 ≤ kk + 1) (ht : (tyz cy)[t0]? = some (cy (kk + 1), .object Cn)) (hf : gt_ (¬ (i < 0 ∨ ln_ σ a ≤ i.toNatClampNeg)) f = some u) (hd : decode cc pc = .ok (.aastore, 1)) (k : f = some u → v_ l D cy ka cc own maxL ret nm fr lo Qf σ0 z (sq_ σ a i.toNatClampNeg none) (pc + 1) L rest) : v_ l D cy ka cc own maxL ret nm fr lo Qf σ0 z σ pc L (va_rf none :: .int i :: va_rf (some a) :: rest) := by
  have k := k (gt_of hf).2
  have hin := (gt_of hf).1
  refine ⟨tl_tr (tl_sq _ _ _ _) k.1, fun t p e s m args below meth c C' ls hl H locs hH hS => ?_⟩
  obtain ⟨q0, hq⟩ := hp_at hH hk
  have hq' := hq
  rw [en_ref hk (by omega)] at hq'
  refine va_WaastN (C := Cn) C'.1.1 C'.1.2.1 (hH.1 q0 _ hq') ((C'.2.2.2.2.1.2 t0 _ ht).1 (ln_ σ a) (fun j => va_rf (ar_ σ a j))) (fun h => by cases h) (by show ¬ (i < 0 ∨ (arrV _ _ _).slots.size ≤ _); rw [arrV_size]; exact hin) rfl rfl hd fun H1 e9 z9 oq => ?_
  refine k.2 (tl_tr t (tl_sq _ _ _ _)) p e s m args below meth c C' ls hl H1 _ (hp_store hH hk hq rfl rfl rfl (en_sq hk (by omega)) ?_ z9 oq) (hS.put z9 oq (aa_tl t a (aa_arr hH hk hin)))
  show H1[a]? = some (vp_cell _ _)
  rw [e9, vp_cell_q, vp_cell_q, arrV_store]
  congr 2
  funext q
  by_cases hq : q = i.toNatClampNeg
  · subst hq
    simp [updV, va_up, va_rf]
  · simp [updV, va_up, hq]
/-- a place of an array of references becomes an object of a class that may be cast to its kind -/
theorem v_aast {f : Option α} {v ci : Nat} {C : String} {T : u_T} {N : Nat} {ty : Nat → FieldType} (cb : cb_ ci C T N ty) (hkv : kd_ σ v = ci + 1) (kk t0 : Nat) (Cn : String) (hk : kd_ σ a = kk + 1) (h24 : 24 ≤ kk + 1) (ht : (tyz cy)[t0]? = some (cy (kk + 1), .object Cn)) (hca : C = Cn ∨ Cond.castable C Cn ∈ NWL) (hf : gt_ (¬ (i < 0 ∨ ln_ σ a ≤ i.toNatClampNeg)) f = some u) (hd : decode cc pc = .ok (.aastore, 1)) (k : f = some u → v_ l D cy ka cc own maxL ret nm fr lo Qf σ0 z (sq_ σ a i.toNatClampNeg (some v)) (pc + 1) L rest) : v_ l D cy ka cc own maxL ret nm fr lo Qf σ0 z σ pc L (va_rf (some v) :: .int i :: va_rf (some a) :: rest) := by
  have k := k (gt_of hf).2
  have hin := (gt_of hf).1
  refine ⟨tl_tr (tl_sq _ _ _ _) k.1, fun t p e s m args below meth c C' ls hl H locs hH hS => ?_⟩
  obtain ⟨q0, hq⟩ := hp_at hH hk
  obtain ⟨qk, hqk⟩ := hp_at hH hkv
  rw [en_obj hkv cb.2.2.1] at hqk
  have hq' := hq
  rw [en_ref hk (by omega)] at hq'
  have hlt : i.toNatClampNeg < ln_ σ a := Nat.not_le.mp fun q => hin (Or.inr q)
  have h0 : ¬ i < 0 := fun q => hin (Or.inl q)
  obtain ⟨r', hr', cellV, g1, g2, g3, -⟩ := hH.1 qk _ hqk
  have hcls := (C'.2.2.2.2.1.1 ci _ cb.1).2
  obtain ⟨kA, comp, k1, k2, k3, -⟩ := (C'.2.2.2.2.1.2 t0 _ ht).2
  obtain ⟨kE, hkE, -⟩ := Vm.findClass_spec k3
  obtain ⟨kC, hkC, -⟩ := hcls.2
  have tail : ∀ (H1 : Heap), H1[a]? = some ((vp_cell (cy (kk + 1)) (ln_ σ a, .inr (.inr (.inr (.inr (ar_ σ a)))))).setSlot i.toNatClampNeg (.ref v)) → H1.size = H.size → (∀ q : Nat, q ≠ a → H1[q]? = H[q]?) → W p l e (rm_ fr lo σ0 z) s m args below meth c H1 (locs ++ [⟨a, i.toNatClampNeg⟩]) (nx_ σ - nx_ σ0) (sl_ σ - sl_ σ0) (Qf below args s) (F0 m (pc + 1) ls rest) := by
    intro H1 e9 z9 oq
    refine k.2 (tl_tr t (tl_sq _ _ _ _)) p e s m args below meth c C' ls hl H1 _ (hp_store hH hk hq rfl rfl rfl (en_sq hk (by omega)) ?_ z9 oq) (hS.put z9 oq (aa_tl t a (aa_arr hH hk hin)))
    show H1[a]? = some (vp_cell _ _)
    rw [e9, vp_cell_q, vp_cell_q, arrV_store]
    congr 2
    funext q
    by_cases hq : q = i.toNatClampNeg
    · subst hq
      simp [updV, va_up, va_rf]
    · simp [updV, va_up, hq]
  rcases hca with hca | hca
  · have hcomp : comp = D.1 ci := Option.some.inj (k3.symm.trans (by rw [← hca]; exact hcls.1))
    subst hcomp
    exact W.aast C'.1.1 C'.1.2.1 (hH.1 q0 _ hq') (fun q h => by cases h) (fun h => by cases h) k1 k2 rfl hkC ⟨h0, by show _ < (arrV _ _ _).slots.size; rw [arrV_size]; exact hlt⟩ g1 (fun q h => by rw [g3] at h; cases h) (by rw [g2]; exact hkC) (by rw [g2]; exact va_assign hcls) rfl rfl hd fun H1 e9 z9 oq => tail H1 e9 z9 oq
  · obtain ⟨c0, t1, f1, f2, f3⟩ := Cond.castable_spec (va_Nw.use (A := args) rfl (C'.2.2.2.2.2.2.1 _ hca))
    cases hcls.1.symm.trans f1
    cases k3.symm.trans f2
    exact W.aast C'.1.1 C'.1.2.1 (hH.1 q0 _ hq') (fun q h => by cases h) (fun h => by cases h) k1 k2 rfl hkE ⟨h0, by show _ < (arrV _ _ _).slots.size; rw [arrV_size]; exact hlt⟩ g1 (fun q h => by rw [g3] at h; cases h) (by rw [g2]; exact hkC) (by rw [g2]; exact f3) rfl rfl hd fun H1 e9 z9 oq => tail H1 e9 z9 oq
end V9
