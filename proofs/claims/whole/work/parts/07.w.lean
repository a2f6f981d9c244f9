/-! ROWS over the typed heap: fields, returns, calls. -/
/-- how a field is linked: its own, an inherited one under its heir's name, a nest mate's -/
def lk_ (own : String) (index : Nat) (ref : String) (T : u_T) (j : Nat) : Prop :=
  (Cond.fieldLink own index ref (T j).2.1 (T j).2.2.1 ∈ TBL ∧ ((T j).1 = ref ∨ Cond.sameField ref (T j).1 (T j).2.1 (T j).2.2.1 ∈ TBL)) ∨ ∃ host, Cond.fieldLinkNest own index ref (T j).2.1 (T j).2.2.1 host ∈ NWL ∧ (T j).1 = ref
theorem lk_n {own ref : String} {index : Nat} {T : u_T} {j : Nat} (h : Cond.fieldLink own index ref (T j).2.1 (T j).2.2.1 ∈ TBL) (hr : (T j).1 = ref) : lk_ own index ref T j := Or.inl ⟨h, Or.inl hr⟩
theorem lk_h {own ref : String} {index : Nat} {T : u_T} {j : Nat} (h : Cond.fieldLink own index ref (T j).2.1 (T j).2.2.1 ∈ TBL) (hr : Cond.sameField ref (T j).1 (T j).2.1 (T j).2.2.1 ∈ TBL) : lk_ own index ref T j := Or.inl ⟨h, Or.inr hr⟩
theorem lk_N {own ref host : String} {index : Nat} {T : u_T} {j : Nat} (h : Cond.fieldLinkNest own index ref (T j).2.1 (T j).2.2.1 host ∈ NWL) (hr : (T j).1 = ref) : lk_ own index ref T j := Or.inr ⟨host, h, hr⟩
theorem lk_same {ref : String} {T : u_T} {j : Nat} {args : Array Value} {s : State} (ht : ∀ w ∈ TBL, w.before args s = true) (h : (T j).1 = ref ∨ Cond.sameField ref (T j).1 (T j).2.1 (T j).2.2.1 ∈ TBL) (x : ClassId × Class × Nat × Field) (hx : s.fieldFound? (T j).1 (T j).2.1 (T j).2.2.1 = some x) : s.fieldFound? ref (T j).2.1 (T j).2.2.1 = some x := by
  rcases h with h | h
  · rw [← h]; exact hx
  · exact u_same (ht _ h) x hx
/-- a kind that is known stays known -/
theorem tk_ {σ τ : TH} {a k : Nat} (h : tl_ σ τ) (hk : kd_ σ a = k + 1) : kd_ τ a = k + 1 := ((h.2.2.2.2 a (by rw [hk]; exact Nat.succ_ne_zero _)).1).trans hk
theorem hp_at {D : va_G} {cy : Nat → ClassId} {σ : TH} {H : Heap} {a k : Nat} (h : hp_ D cy σ H) (hk : kd_ σ a = k + 1) : ∃ q0 : Nat, (wl_ cy σ)[q0]? = some (a, en_ cy σ a) := va_pl_get (X := []) (f := en_ cy σ) (h.2.2.2 a (by rw [hk]; exact Nat.succ_ne_zero _))
theorem hp_set {D : va_G} {cy : Nat → ClassId} {σ τ : TH} {H : Heap} {a k q0 : Nat} {e : va_E} (h : hp_ D cy σ H) (hk : kd_ σ a = k + 1) (hq : (wl_ cy σ)[q0]? = some (a, en_ cy σ a)) (ho : ow_ τ = ow_ σ) (he : ∀ b, va_up (en_ cy σ) a e b = en_ cy τ b) : (wl_ cy σ).set q0 (a, e) = wl_ cy τ := by
  have h1 := va_pl_set (X := []) (e := e) h.2.1 (h.2.2.2 a (by rw [hk]; exact Nat.succ_ne_zero _)) hq
  have h2 : (wl_ cy σ).set q0 (a, e) = va_pl (ow_ σ) (va_up (en_ cy σ) a e) := h1
  rw [h2]
  unfold wl_
  rw [ho]
  exact va_pl_congr he
section V7
variable {l : Launch} {D : va_G} {cy : Nat → ClassId} {ka : Nat → Nat} {cc : ByteArray} {own : String} {maxL : Nat} {ret : Option FieldType} {nm : String} {fr lo : Nat} {Qf : QF} {σ0 z σ : TH} {pc : Nat} {L : List (Nat × Value)} {rest : List Value} {rv : Option Value}
theorem v_get {ci a index : Nat} {C ref : String} {T : u_T} {N : Nat} {ty : Nat → FieldType} {v : Value} (cb : cb_ ci C T N ty) (hk : kd_ σ a = ci + 1) (j : Nat) (hj : j < N) (hw : lk_ own index ref T j) (hv : fv_ σ ci a j = v) (hd : decode cc pc = .ok (.getfield index, 3)) (k : v_ l D cy ka cc own maxL ret nm fr lo Qf σ0 z σ (pc + 3) L (v :: rest)) : v_ l D cy ka cc own maxL ret nm fr lo Qf σ0 z σ pc L (va_rf (some a) :: rest) := by
  refine ⟨k.1, fun t p e s m args below meth c C' ls hl H locs hH hS => ?_⟩
  obtain ⟨q0, hq⟩ := hp_at hH hk
  rw [en_obj hk cb.2.2.1] at hq
  have kq := k.2 t p e s m args below meth c C' ls hl H locs hH hS
  have hv' : (fs_ σ ci a)[j]? = some v := by rw [fs_at (by rw [cb.2.1]; exact hj), hv]
  rcases hw with ⟨hw, hr⟩ | ⟨host, hw, hr⟩
  · exact va_get (D := D) (ci := ci) C'.1.1 C'.1.2.1 C'.1.2.2.2.2 cb.2.2.2.1 C'.1.2.2.2.1 C'.2.2.2.2.1 hH.1 q0 hq cb.1 j hj (C'.1.2.2.2.2 _ hw) (lk_same C'.1.2.2.2.2 hr) hv' hd kq
  · exact va_getN (D := D) (ci := ci) C'.1.1 C'.1.2.1 C'.1.2.2.2.2 cb.2.2.2.1 C'.1.2.2.2.1 C'.2.2.2.2.1 hH.1 q0 hq cb.1 j hj (va_Nw.use rfl (C'.2.2.2.2.2.2.1 _ hw)) (fun x h => hr ▸ h) hv' hd kq
theorem v_geti {ci a index : Nat} {C ref : String} {T : u_T} {N : Nat} {ty : Nat → FieldType} {α : Type} {f : Int32 → Option α} {u : α} (cb : cb_ ci C T N ty) (hk : kd_ σ a = ci + 1) (j cj : Nat) (hcj : 100 * ci + j = cj) (hj : j < N) (ht : ft_ ci j = 0) (hw : lk_ own index ref T j) (hf : lt_ (fi_ σ cj a) f = some u) (hd : decode cc pc = .ok (.getfield index, 3)) (k : ∀ x, f x = some u → v_ l D cy ka cc own maxL ret nm fr lo Qf σ0 z σ (pc + 3) L (.int x :: rest)) : v_ l D cy ka cc own maxL ret nm fr lo Qf σ0 z σ pc L (va_rf (some a) :: rest) :=
  v_get cb hk j hj hw (by unfold fv_; rw [ht, hcj]; rfl) hd (k _ hf)
theorem v_getr {ci a index : Nat} {C ref : String} {T : u_T} {N : Nat} {ty : Nat → FieldType} {α : Type} {f : Option Nat → Option α} {u : α} (cb : cb_ ci C T N ty) (hk : kd_ σ a = ci + 1) (j cj : Nat) (hcj : 100 * ci + j = cj) (hj : j < N) (ht : ft_ ci j = 1) (hw : lk_ own index ref T j) (hf : lt_ (fr_ σ cj a) f = some u) (hd : decode cc pc = .ok (.getfield index, 3)) (k : ∀ x, f x = some u → v_ l D cy ka cc own maxL ret nm fr lo Qf σ0 z σ (pc + 3) L (va_rf x :: rest)) : v_ l D cy ka cc own maxL ret nm fr lo Qf σ0 z σ pc L (va_rf (some a) :: rest) :=
  v_get cb hk j hj hw (by unfold fv_; rw [ht, hcj]; rfl) hd (k _ hf)
theorem v_getl {ci a index : Nat} {C ref : String} {T : u_T} {N : Nat} {ty : Nat → FieldType} {α : Type} {f : Int64 → Option α} {u : α} (cb : cb_ ci C T N ty) (hk : kd_ σ a = ci + 1) (j cj : Nat) (hcj : 100 * ci + j = cj) (hj : j < N) (ht : ft_ ci j = 2) (hw : lk_ own index ref T j) (hf : lt_ (fl_ σ cj a) f = some u) (hd : decode cc pc = .ok (.getfield index, 3)) (k : ∀ x, f x = some u → v_ l D cy ka cc own maxL ret nm fr lo Qf σ0 z σ (pc + 3) L (.long x :: rest)) : v_ l D cy ka cc own maxL ret nm fr lo Qf σ0 z σ pc L (va_rf (some a) :: rest) :=
  v_get cb hk j hj hw (by unfold fv_; rw [ht, hcj]; rfl) hd (k _ hf)
theorem v_put {ci a index : Nat} {C ref : String} {T : u_T} {N : Nat} {ty : Nat → FieldType} {v : Value} {τ : TH} (cb : cb_ ci C T N ty) (hk : kd_ σ a = ci + 1) (j : Nat) (hj : j < N) (hw : lk_ own index ref T j) (hfin : (T j).2.2.2 = false ∨ ((T j).2.2.2 = true ∧ nm = "<init>" ∧ ref = own ∧ (T j).1 = ref ∧ Cond.fieldLink own index ref (T j).2.1 (T j).2.2.1 ∈ TBL)) (hn : narrow (ty j) v = v) (hfit : fits (ty j) v = true) (ho : ow_ τ = ow_ σ) (hkk : kd_ τ = kd_ σ) (hnx : nx_ τ = nx_ σ) (hsl : sl_ τ = sl_ σ) (htl : tl_ σ τ) (he : ∀ b, va_up (en_ cy σ) a (.inr (ci, (fs_ σ ci a).set j v)) b = en_ cy τ b) (hd : decode cc pc = .ok (.putfield index, 3)) (k : v_ l D cy ka cc own maxL ret nm fr lo Qf σ0 z τ (pc + 3) L rest) : v_ l D cy ka cc own maxL ret nm fr lo Qf σ0 z σ pc L (v :: va_rf (some a) :: rest) := by
  refine ⟨tl_tr htl k.1, fun t p e s m args below meth c C' ls hl H locs hH hS => ?_⟩
  obtain ⟨q0, hq⟩ := hp_at hH hk
  have hset := hp_set hH hk hq ho he
  rw [en_obj hk cb.2.2.1] at hq
  have hlen : j < (fs_ σ ci a).length := by simp [fs_, cb.2.1]; exact hj
  have kk : ∀ (H1 : Heap) (locs1 : List Loc), va_P D clz ((wl_ cy σ).set q0 (a, .inr (ci, (fs_ σ ci a).set j v))) H1 → va_D (fun _ => True) ((wl_ cy σ).set q0 (a, .inr (ci, (fs_ σ ci a).set j v))) → va_S (aa_ σ0) s.heap H1 locs1 → H1.size = H.size → W p l e (rm_ fr lo σ0 z) s m args below meth c H1 locs1 (nx_ σ - nx_ σ0) (sl_ σ - sl_ σ0) (Qf below args s) (F0 m (pc + 3) ls rest) := by
    intro H1 locs1 h1 h2 h3 h4
    rw [hset] at h1 h2
    have q := k.2 (tl_tr t htl) p e s m args below meth c C' ls hl H1 locs1 ⟨h1, h2, by rw [h4, hnx]; exact hH.2.2.1, fun b hb => by rw [ho]; exact hH.2.2.2 b (by rw [← hkk]; exact hb)⟩ h3
    rw [hnx, hsl] at q
    exact q
  have haa : aa_ σ a := Or.inl ⟨hH.2.2.2 a (by rw [hk]; exact Nat.succ_ne_zero _), fun q => by have := cb.2.2.1; omega⟩
  have hty := cb.2.2.2.2.1 j hj
  have hap := va_apart (own := own) C'.1.2.2.2.2 cb.2.2.2.1 ty cb.2.2.2.2.1 cb.2.2.2.2.2 C'.2.2.2.2.1 cb.1
  obtain ⟨r, h1, cell, q1, q2, q3, q4⟩ := hH.1 q0 _ hq
  have hr' : r = (C, T, N) := Option.some.inj (h1.symm.trans cb.1)
  subst hr'
  obtain ⟨hSl, hfc, kC, hkC, hkind⟩ := C'.2.2.2.2.1.1 ci _ cb.1
  obtain ⟨cf, kf, fi, f, hi, hsl'⟩ := hSl j hj
  have hlay := C'.1.2.2.2.2 _ (cb.2.2.2.1 _ (u_in_lay hj))
  unfold u_lay at hlay
  have hst := (u_facts hfc hkC (u_lays C'.1.2.2.2.2 cb.2.2.2.1 hj) hi).1
  rcases hfin with hfin | ⟨hfin, hini, hrf, hrr, hw⟩
  · rw [if_neg (by rw [hfin]; decide)] at hlay
    have h6 := u_store hfc hkC hkind hlay hi hty hn hfit
    have tail : ∀ H' : Heap, H'[a]? = some (cell.setSlot f.slot v) → H'.size = H.size → (∀ q, q ≠ a → H'[q]? = H[q]?) → W p l e (rm_ fr lo σ0 z) s m args below meth c H' (locs ++ [⟨a, f.slot⟩]) (nx_ σ - nx_ σ0) (sl_ σ - sl_ σ0) (Qf below args s) (F0 m (pc + 3) ls rest) := by
      intro H' e1 e2 e3
      rw [hsl'] at e1 ⊢
      exact kk H' _ (hH.1.set hH.2.1 hq ⟨_, cb.1, t_OB.to (V := updV (vp_V (fs_ σ ci a)) j v) ⟨_, e1, q2, q3, t_set q4 hap hj v⟩ (fun i _ => vp_updV_set hlen v i)⟩ e3) (hH.2.1.set hq) (hS.put e2 e3 (aa_tl t a haa)) e2
    rcases hw with ⟨hw, hr⟩ | ⟨host, hw, hr⟩
    · exact W.putK C'.1.1 C'.1.2.1 (f := f) ⟨C'.1.2.2.2.1, C'.1.2.2.2.2 _ hw, ⟨_, _, _, lk_same C'.1.2.2.2.2 hr _ hi⟩, hst⟩ (by rw [q2]; exact h6) q1 q3 (by rw [hsl']; exact k2_hasslot (q4 j hj)) rfl rfl hd tail
    · exact va_WputK C'.1.1 C'.1.2.1 (f := f) C'.1.2.2.2.1 (va_Nw.use rfl (C'.2.2.2.2.2.2.1 _ hw)) (by rw [← hr]; exact hi) hst (by rw [q2]; exact h6) q1 q3 (by rw [hsl']; exact k2_hasslot (q4 j hj)) rfl rfl hd tail
  · have hi' : s.fieldFound? ref (T j).2.1 (T j).2.2.1 = some (cf, kf, fi, f) := by rw [← hrr]; exact hi
    rw [if_pos hfin] at hlay
    have hcf : m.cls = cf := by
      obtain ⟨_, _, c', _, _, _, -, -, hf', -, -, -, hown2, -⟩ := Cond.laysFinal_spec hlay
      have e1 : c' = cf := by have := hi.symm.trans hf'; simp at this; exact this.1.symm
      rw [hrr, hrf] at hown2
      rw [← e1]; exact Option.some.inj (C'.1.2.2.2.1.symm.trans hown2)
    have h6 := u_fits hfc hkC hkind (Or.inr hlay) hi hty hn hfit
    refine W.putFinK C'.1.1 C'.1.2.1 C'.1.2.2.2.1 (C'.1.2.2.2.2 _ hw) hi' hst hcf (C'.2.2.2.1.1.trans hini) (by rw [q2]; exact h6) q1 q3 (by rw [hsl']; exact k2_hasslot (q4 j hj)) rfl rfl hd fun H' e1 e2 e3 => ?_
    rw [hsl'] at e1 ⊢
    exact kk H' _ (hH.1.set hH.2.1 hq ⟨_, cb.1, t_OB.to (V := updV (vp_V (fs_ σ ci a)) j v) ⟨_, e1, q2, q3, t_set q4 hap hj v⟩ (fun i _ => vp_updV_set hlen v i)⟩ e3) (hH.2.1.set hq) (hS.put e2 e3 (aa_tl t a haa)) e2
theorem v_puti {ci a index : Nat} {C ref : String} {T : u_T} {N : Nat} {ty : Nat → FieldType} {x : Int32} (cb : cb_ ci C T N ty) (hk : kd_ σ a = ci + 1) (j cj : Nat) (hcj : 100 * ci + j = cj) (hj : j < N) (ht : ft_ ci j = 0) (hw : lk_ own index ref T j) (hfin : (T j).2.2.2 = false ∨ ((T j).2.2.2 = true ∧ nm = "<init>" ∧ ref = own ∧ (T j).1 = ref ∧ Cond.fieldLink own index ref (T j).2.1 (T j).2.2.1 ∈ TBL)) (hn : narrow (ty j) (.int x) = .int x) (hfit : fits (ty j) (.int x) = true) (hd : decode cc pc = .ok (.putfield index, 3)) (k : v_ l D cy ka cc own maxL ret nm fr lo Qf σ0 z (si_ σ cj a x) (pc + 3) L rest) : v_ l D cy ka cc own maxL ret nm fr lo Qf σ0 z σ pc L (.int x :: va_rf (some a) :: rest) := by
  subst hcj
  exact v_put (τ := si_ σ (100 * ci + j) a x) cb hk j hj hw hfin hn hfit rfl rfl rfl rfl (tl_si _ _ _ _) (en_si hk cb.2.2.1 ht) hd k
theorem v_putr {ci a index : Nat} {C ref : String} {T : u_T} {N : Nat} {ty : Nat → FieldType} {x : Option Nat} (cb : cb_ ci C T N ty) (hk : kd_ σ a = ci + 1) (j cj : Nat) (hcj : 100 * ci + j = cj) (hj : j < N) (ht : ft_ ci j = 1) (hw : lk_ own index ref T j) (hfin : (T j).2.2.2 = false ∨ ((T j).2.2.2 = true ∧ nm = "<init>" ∧ ref = own ∧ (T j).1 = ref ∧ Cond.fieldLink own index ref (T j).2.1 (T j).2.2.1 ∈ TBL)) (hn : narrow (ty j) (va_rf x) = va_rf x) (hfit : fits (ty j) (va_rf x) = true) (hd : decode cc pc = .ok (.putfield index, 3)) (k : v_ l D cy ka cc own maxL ret nm fr lo Qf σ0 z (sr_ σ cj a x) (pc + 3) L rest) : v_ l D cy ka cc own maxL ret nm fr lo Qf σ0 z σ pc L (va_rf x :: va_rf (some a) :: rest) := by
  subst hcj
  exact v_put (τ := sr_ σ (100 * ci + j) a x) cb hk j hj hw hfin hn hfit rfl rfl rfl rfl (tl_sr _ _ _ _) (en_sr hk cb.2.2.1 ht) hd k
theorem v_putl {ci a index : Nat} {C ref : String} {T : u_T} {N : Nat} {ty : Nat → FieldType} {x : Int64} (cb : cb_ ci C T N ty) (hk : kd_ σ a = ci + 1) (j cj : Nat) (hcj : 100 * ci + j = cj) (hj : j < N) (ht : ft_ ci j = 2) (hw : lk_ own index ref T j) (hfin : (T j).2.2.2 = false ∨ ((T j).2.2.2 = true ∧ nm = "<init>" ∧ ref = own ∧ (T j).1 = ref ∧ Cond.fieldLink own index ref (T j).2.1 (T j).2.2.1 ∈ TBL)) (hn : narrow (ty j) (.long x) = .long x) (hfit : fits (ty j) (.long x) = true) (hd : decode cc pc = .ok (.putfield index, 3)) (k : v_ l D cy ka cc own maxL ret nm fr lo Qf σ0 z (so_ σ cj a x) (pc + 3) L rest) : v_ l D cy ka cc own maxL ret nm fr lo Qf σ0 z σ pc L (.long x :: va_rf (some a) :: rest) := by
  subst hcj
  exact v_put (τ := so_ σ (100 * ci + j) a x) cb hk j hj hw hfin hn hfit rfl rfl rfl rfl (tl_so _ _ _ _) (en_so hk cb.2.2.1 ht) hd k
end V7
section V7R
variable {l : Launch} {D : va_G} {cy : Nat → ClassId} {ka : Nat → Nat} {cc : ByteArray} {own : String} {maxL : Nat} {nm : String} {fr lo : Nat} {σ0 z σ : TH} {pc : Nat} {L : List (Nat × Value)}
theorem v_iret {x r : Int32} (hf : some (x, σ) = some (r, z)) (hd : decode cc pc = .ok (.ireturn, 1)) : v_ l D cy ka cc own maxL (some .int) nm fr lo (qf_ D cy σ0 z (some (.int r))) σ0 z σ pc L [.int x] := by
  cases hf
  exact ⟨tl_rf _, fun t p e s m args below meth c C ls hl H locs hH hS => W.iret C.1.1 C.1.2.1 C.2.1 (fun t' ht hW => ⟨rfl, by rw [ht]; exact hH, hS.F ht⟩) hS.2.2 hd C.2.2.1⟩
theorem v_zret {x r : Int32} {ty : FieldType} (hf : some (x, σ) = some (r, z)) (hn : narrow ty (.int x) = .int x) (hd : decode cc pc = .ok (.ireturn, 1)) : v_ l D cy ka cc own maxL (some ty) nm fr lo (qf_ D cy σ0 z (some (.int r))) σ0 z σ pc L [.int x] := by
  cases hf
  exact ⟨tl_rf _, fun t p e s m args below meth c C ls hl H locs hH hS => W.zret C.1.1 C.1.2.1 C.2.1 hn (fun t' ht hW => ⟨rfl, by rw [ht]; exact hH, hS.F ht⟩) hS.2.2 hd C.2.2.1⟩
theorem v_aret {x r : Option Nat} {rt : FieldType} (hf : some (x, σ) = some (r, z)) (hrt : (∃ n, rt = .object n) ∨ ∃ t, rt = .array t) (hd : decode cc pc = .ok (.areturn, 1)) : v_ l D cy ka cc own maxL (some rt) nm fr lo (qf_ D cy σ0 z (some (va_rf r))) σ0 z σ pc L [va_rf x] := by
  cases hf
  exact ⟨tl_rf _, fun t p e s m args below meth c C ls hl H locs hH hS => W.aret C.1.1 C.1.2.1 C.2.1 hrt (by cases x with | none => exact Or.inl rfl | some a => exact Or.inr ⟨a, rfl⟩) (fun t' ht hW => ⟨rfl, by rw [ht]; exact hH, hS.F ht⟩) hS.2.2 hd C.2.2.1⟩
theorem v_vret {r : Unit} (hf : some ((), σ) = some (r, z)) (hd : decode cc pc = .ok (.return_, 1)) : v_ l D cy ka cc own maxL none nm fr lo (qf_ D cy σ0 z none) σ0 z σ pc L [] := by
  cases hf
  exact ⟨tl_rf _, fun t p e s m args below meth c C ls hl H locs hH hS => W.vret C.1.1 C.1.2.1 C.2.1 (fun t' ht hW => ⟨rfl, by rw [ht]; exact hH, hS.F ht⟩) hS.2.2 hd C.2.2.1⟩
end V7R
