/-! NEW over the typed heap. -/
theorem en_nw {cy : Nat → ClassId} {σ : TH} {k n w b : Nat} (h : b ≠ nx_ σ) : en_ cy (nw_ σ k n w) b = en_ cy σ b := by
  refine en_same (if_neg h) (if_neg h) (fun c => if_neg h) (fun c => if_neg h) (fun c => if_neg h) ?_ ?_ ?_
  · funext i; exact if_neg h
  · funext i; exact if_neg h
  · funext i; exact if_neg h
theorem kd_nw (σ : TH) (k n w : Nat) : kd_ (nw_ σ k n w) (nx_ σ) = k := if_pos rfl
theorem ln_nw (σ : TH) (k n w : Nat) : ln_ (nw_ σ k n w) (nx_ σ) = n := if_pos rfl
theorem hp_lt {D : va_G} {cy : Nat → ClassId} {σ : TH} {H : Heap} (h : hp_ D cy σ H) {b : Nat} (hb : b ∈ ow_ σ) : b < nx_ σ := by
  have h1 : (b, en_ cy σ b) ∈ wl_ cy σ := List.mem_map.mpr ⟨b, hb, rfl⟩
  obtain ⟨i, hi⟩ := List.getElem?_of_mem h1
  rw [← h.2.2.1]
  exact (h.1 i _ hi).lt
theorem wl_nw {D : va_G} {cy : Nat → ClassId} {σ : TH} {H : Heap} (h : hp_ D cy σ H) (k n w : Nat) : wl_ cy (nw_ σ k n w) = wl_ cy σ ++ [(nx_ σ, en_ cy (nw_ σ k n w) (nx_ σ))] := by
  show (ow_ σ ++ [nx_ σ]).map _ = _
  rw [List.map_append]
  have e1 : (ow_ σ).map (fun b => (b, en_ cy (nw_ σ k n w) b)) = wl_ cy σ := List.map_congr_left fun b hb => by rw [en_nw (Nat.ne_of_lt (hp_lt h hb))]
  rw [e1]
  rfl
theorem hp_nw {D : va_G} {cy : Nat → ClassId} {σ : TH} {H H1 : Heap} {k n w : Nat} {e : va_E} (h : hp_ D cy σ H) (he : en_ cy (nw_ σ k n w) (nx_ σ) = e) (hat : va_at D clz (nx_ σ, e) H1) (z : H1.size = H.size + 1) (o : ∀ q : Nat, q < H.size → H1[q]? = H[q]?) : hp_ D cy (nw_ σ k n w) H1 := by
  have hk : ∀ (i : Nat) (x : Nat × va_E), (wl_ cy σ)[i]? = some x → H1[x.1]? = H[x.1]? := fun i x hx => o x.1 ((h.1 i x hx).lt)
  refine ⟨?_, ?_, ?_, fun b hb => ?_⟩
  · rw [wl_nw h, he]
    refine (h.1.kept hk).app (fun i x hx => ?_)
    have hz : i < 1 := (List.getElem?_eq_some_iff.mp hx).1
    rw [show i = 0 by omega] at hx
    cases hx
    exact hat
  · rw [wl_nw h]
    exact h.2.1.push h.1 h.2.2.1.symm trivial
  · rw [z, h.2.2.1]; rfl
  · by_cases hq : b = nx_ σ
    · subst hq; exact List.mem_append_right _ List.mem_cons_self
    · exact List.mem_append_left _ (h.2.2.2 b (fun q => hb (by rw [← q]; exact if_neg hq)))
section V10
variable {l : Launch} {D : va_G} {cy : Nat → ClassId} {ka : Nat → Nat} {cc : ByteArray} {own : String} {maxL : Nat} {ret : Option FieldType} {nm : String} {fr lo : Nat} {Qf : QF} {σ0 z σ : TH} {pc : Nat} {L : List (Nat × Value)} {rest : List Value}
variable {α : Type} {u : α}
theorem sS_new {s : State} {H H1 : Heap} {locs : List Loc} {A : Nat → Prop} (hS : va_S A s.heap H locs) (z : H1.size = H.size + 1) (o : ∀ q : Nat, q < H.size → H1[q]? = H[q]?) : va_S A s.heap H1 locs :=
  ⟨Nat.le_trans hS.1 (by omega), fun x h1 h2 => (o x (Nat.lt_of_lt_of_le h1 hS.1)).trans (hS.2.1 x h1 h2), hS.2.2⟩
theorem v_new {ci index : Nat} {C : String} {T : u_T} {N : Nat} {ty : Nat → FieldType} {f : Nat → Option α} (cb : cb_ ci C T N ty) (hdf : ∀ j, j < N → defaultValue (ty j) = dv_ (ft_ ci j)) (hcl : Cond.classLink own index C ∈ TBL) (hinst : Cond.instantiable C N ∈ TBL) (hini : Cond.initialized C ∈ TBL) (k0 : Nat) (hk0 : ci + 1 = k0) (hf : gt_ (kd_ σ (nx_ σ) = 0) (lt_ (nx_ σ) f) = some u) (hd : decode cc pc = .ok (.new index, 3))
    (k : ∀ q, kd_ (nw_ σ k0 0 N) q = k0 → f q = some u → v_ l D cy ka cc own maxL ret nm fr lo Qf σ0 z (nw_ σ k0 0 N) (pc + 3) L (va_rf (some q) :: rest)) : v_ l D cy ka cc own maxL ret nm fr lo Qf σ0 z σ pc L rest := by
  subst hk0
  have hg := gt_of hf
  have k := k (nx_ σ) (kd_nw σ _ _ _) hg.2
  have htl := tl_nw σ (ci + 1) 0 N hg.1
  refine ⟨tl_tr htl k.1, fun t p e s m args below meth c C' ls hl H locs hH hS => ?_⟩
  have h1 := t.1; have h2 := t.2.1; have h3 := k.1.1; have h4 := k.1.2.1
  have e3 : nx_ (nw_ σ (ci + 1) 0 N) = nx_ σ + 1 := rfl
  have e4 : sl_ (nw_ σ (ci + 1) 0 N) = sl_ σ + N := rfl
  have hKn := C'.2.2.2.2.1.1 ci _ cb.1
  refine W.newcK C'.1.1 C'.1.2.1 C'.1.2.2.2.1 (C'.1.2.2.2.2 _ hcl) (C'.1.2.2.2.2 _ hinst) (C'.1.2.2.2.2 _ hini) rfl hd (by show _ ≤ nx_ z - nx_ σ0; omega) (by show _ ≤ sl_ z - sl_ σ0; omega) hKn.2.1 rfl fun H1 kC hkC e1 z1 o1 => ?_
  have hh : hp_ D cy (nw_ σ (ci + 1) 0 N) H1 := by
    refine hp_nw hH (en_obj (kd_nw σ _ _ _) cb.2.2.1) ⟨_, cb.1, ?_⟩ z1 o1
    show t_OB (nx_ σ) _ _ _ _ _
    rw [← hH.2.2.1]
    refine (u_born ty C'.1.2.2.2.2 cb.2.2.2.1 hKn hkC e1 cb.2.2.2.2.1).to (fun j hj => ?_)
    rw [hdf j hj]
    unfold vp_V
    rw [List.getD_eq_getElem?_getD, fs_at (by rw [cb.2.1]; exact hj)]
    show dv_ (ft_ ci j) = fv_ _ ci H.size j
    rw [hH.2.2.1]
    have q1 : fi_ (nw_ σ (ci + 1) 0 N) (100 * ci + j) (nx_ σ) = 0 := if_pos rfl
    have q2 : fr_ (nw_ σ (ci + 1) 0 N) (100 * ci + j) (nx_ σ) = none := if_pos rfl
    have q3 : fl_ (nw_ σ (ci + 1) 0 N) (100 * ci + j) (nx_ σ) = 0 := if_pos rfl
    unfold fv_ dv_
    rw [q1, q2, q3]
    split <;> simp_all [va_rf]
  have q := k.2 (tl_tr t htl) p e s m args below meth c C' ls hl H1 locs hh (sS_new hS z1 o1)
  rw [e3, e4] at q
  rw [show nx_ σ - nx_ σ0 + 1 = nx_ σ + 1 - nx_ σ0 by omega, show sl_ σ - sl_ σ0 + N = sl_ σ + N - sl_ σ0 by omega]
  show W p l e _ s m args below meth c H1 locs _ _ _ (F0 m (pc + 3) ls (.ref H.size :: rest))
  rw [hH.2.2.1]
  exact q
/-- an array of numbers -/
theorem v_newa {n : Int32} {atype : ArrayType} {f : Nat → Option α} (k0 t0 : Nat) (ty : FieldType) (hty : newarray.typeOf atype = ty) (ht : (tyz cy)[t0]? = some (cy k0, ty)) (hent : ∀ (N : Nat) (τ : TH), kd_ τ (nx_ σ) = k0 → ln_ τ (nx_ σ) = N → (∀ i, ai_ τ (nx_ σ) i = 0) → (∀ i, al_ τ (nx_ σ) i = 0) → ∃ a0 : vp_A, en_ cy τ (nx_ σ) = .inl (cy k0, a0) ∧ vp_cell (cy k0) a0 = arrV (cy k0) N (fun _ => defaultValue ty)) (hcb : componentBytes ty ≤ 8) (harr : Cond.arrayClass ty ∈ TBL) (hra : ∀ U c9, va_RA U c9 ty → U.vm.findClass ("[" ++ ty.toString) = some c9)
    (hf : gt_ (¬ n < 0 ∧ n.toNatClampNeg ≤ 100000 ∧ kd_ σ (nx_ σ) = 0) (lt_ (nx_ σ) f) = some u) (hd : decode cc pc = .ok (.newarray atype, 2))
    (k : ∀ q, kd_ (nw_ σ k0 n.toNatClampNeg n.toNatClampNeg) q = k0 → f q = some u → v_ l D cy ka cc own maxL ret nm fr lo Qf σ0 z (nw_ σ k0 n.toNatClampNeg n.toNatClampNeg) (pc + 2) L (va_rf (some q) :: rest)) : v_ l D cy ka cc own maxL ret nm fr lo Qf σ0 z σ pc L (.int n :: rest) := by
  subst hty
  obtain ⟨⟨hn, hN, hg⟩, hf⟩ := gt_of hf
  have k := k (nx_ σ) (kd_nw σ _ _ _) hf
  have htl := tl_nw σ k0 n.toNatClampNeg n.toNatClampNeg hg
  refine ⟨tl_tr htl k.1, fun t p e s m args below meth c C' ls hl H locs hH hS => ?_⟩
  have h1 := t.1; have h2 := t.2.1; have h3 := k.1.1; have h4 := k.1.2.1
  have e3 : nx_ (nw_ σ k0 n.toNatClampNeg n.toNatClampNeg) = nx_ σ + 1 := rfl
  have e4 : sl_ (nw_ σ k0 n.toNatClampNeg n.toNatClampNeg) = sl_ σ + n.toNatClampNeg := rfl
  have hb9 : n.toNatClampNeg * componentBytes (newarray.typeOf atype) ≤ 536870912 := Nat.le_trans (Nat.mul_le_mul hN hcb) (by decide)
  refine va_newaK C'.1.1 C'.1.2.1 (C'.1.2.2.2.2 _ harr) rfl hd rfl hn rfl hb9 (by show _ ≤ nx_ z - nx_ σ0; omega) (by show _ ≤ sl_ z - sl_ σ0; omega) rfl fun H1 cA e1 z1 o1 hAr hNm => ?_
  have hcA : cA = cy k0 := Option.some.inj (hNm.symm.trans (hra s _ (C'.2.2.2.2.1.2 t0 _ ht).2))
  subst hcA
  obtain ⟨a0, ha0, hc0⟩ := hent n.toNatClampNeg (nw_ σ k0 n.toNatClampNeg n.toNatClampNeg) (kd_nw σ _ _ _) (ln_nw σ _ _ _) (fun i => if_pos rfl) (fun i => if_pos rfl)
  have hh : hp_ D cy (nw_ σ k0 n.toNatClampNeg n.toNatClampNeg) H1 := by
    refine hp_nw hH ha0 ?_ z1 o1
    show H1[nx_ σ]? = some (vp_cell _ _)
    rw [← hH.2.2.1, hc0]
    exact e1
  have q := k.2 (tl_tr t htl) p e s m args below meth c C' ls hl H1 locs hh (sS_new hS z1 o1)
  rw [e3, e4] at q
  rw [show nx_ σ - nx_ σ0 + 1 = nx_ σ + 1 - nx_ σ0 by omega, show sl_ σ - sl_ σ0 + n.toNatClampNeg = sl_ σ + n.toNatClampNeg - sl_ σ0 by omega]
  show W p l e _ s m args below meth c H1 locs _ _ _ (F0 m (pc + 2) ls (.ref H.size :: rest))
  rw [hH.2.2.1]
  exact q
theorem v_newaI {n : Int32} {f : Nat → Option α} (harr : Cond.arrayClass .int ∈ TBL) (hf : gt_ (¬ n < 0 ∧ n.toNatClampNeg ≤ 100000 ∧ kd_ σ (nx_ σ) = 0) (lt_ (nx_ σ) f) = some u) (hd : decode cc pc = .ok (.newarray .int, 2))
    (k : ∀ q, kd_ (nw_ σ 20 n.toNatClampNeg n.toNatClampNeg) q = 20 → f q = some u → v_ l D cy ka cc own maxL ret nm fr lo Qf σ0 z (nw_ σ 20 n.toNatClampNeg n.toNatClampNeg) (pc + 2) L (va_rf (some q) :: rest)) : v_ l D cy ka cc own maxL ret nm fr lo Qf σ0 z σ pc L (.int n :: rest) :=
  v_newa 20 0 .int rfl rfl (fun N τ h1 h2 h3 _ => ⟨_, en_int h1 (by decide) (by decide), by rw [vp_cell_i, h2]; congr 1; funext j; rw [h3]; rfl⟩) (by decide) harr (fun U c9 h => h) hf hd k
theorem v_newaB {n : Int32} {f : Nat → Option α} (harr : Cond.arrayClass .byte ∈ TBL) (hf : gt_ (¬ n < 0 ∧ n.toNatClampNeg ≤ 100000 ∧ kd_ σ (nx_ σ) = 0) (lt_ (nx_ σ) f) = some u) (hd : decode cc pc = .ok (.newarray .byte, 2))
    (k : ∀ q, kd_ (nw_ σ 21 n.toNatClampNeg n.toNatClampNeg) q = 21 → f q = some u → v_ l D cy ka cc own maxL ret nm fr lo Qf σ0 z (nw_ σ 21 n.toNatClampNeg n.toNatClampNeg) (pc + 2) L (va_rf (some q) :: rest)) : v_ l D cy ka cc own maxL ret nm fr lo Qf σ0 z σ pc L (.int n :: rest) :=
  v_newa 21 1 .byte rfl rfl (fun N τ h1 h2 h3 _ => ⟨_, en_int h1 (by decide) (by decide), by rw [vp_cell_i, h2]; congr 1; funext j; rw [h3]; rfl⟩) (by decide) harr (fun U c9 h => h) hf hd k
theorem v_newaZ {n : Int32} {f : Nat → Option α} (harr : Cond.arrayClass .boolean ∈ TBL) (hf : gt_ (¬ n < 0 ∧ n.toNatClampNeg ≤ 100000 ∧ kd_ σ (nx_ σ) = 0) (lt_ (nx_ σ) f) = some u) (hd : decode cc pc = .ok (.newarray .boolean, 2))
    (k : ∀ q, kd_ (nw_ σ 22 n.toNatClampNeg n.toNatClampNeg) q = 22 → f q = some u → v_ l D cy ka cc own maxL ret nm fr lo Qf σ0 z (nw_ σ 22 n.toNatClampNeg n.toNatClampNeg) (pc + 2) L (va_rf (some q) :: rest)) : v_ l D cy ka cc own maxL ret nm fr lo Qf σ0 z σ pc L (.int n :: rest) :=
  v_newa 22 2 .boolean rfl rfl (fun N τ h1 h2 h3 _ => ⟨_, en_int h1 (by decide) (by decide), by rw [vp_cell_i, h2]; congr 1; funext j; rw [h3]; rfl⟩) (by decide) harr (fun U c9 h => h) hf hd k
theorem v_newaL {n : Int32} {f : Nat → Option α} (harr : Cond.arrayClass .long ∈ TBL) (hf : gt_ (¬ n < 0 ∧ n.toNatClampNeg ≤ 100000 ∧ kd_ σ (nx_ σ) = 0) (lt_ (nx_ σ) f) = some u) (hd : decode cc pc = .ok (.newarray .long, 2))
    (k : ∀ q, kd_ (nw_ σ 23 n.toNatClampNeg n.toNatClampNeg) q = 23 → f q = some u → v_ l D cy ka cc own maxL ret nm fr lo Qf σ0 z (nw_ σ 23 n.toNatClampNeg n.toNatClampNeg) (pc + 2) L (va_rf (some q) :: rest)) : v_ l D cy ka cc own maxL ret nm fr lo Qf σ0 z σ pc L (.int n :: rest) :=
  v_newa 23 3 .long rfl rfl (fun N τ h1 h2 _ h4 => ⟨_, en_long h1, by rw [vp_cell_l, h2]; congr 1; funext j; rw [h4]; rfl⟩) (by decide) harr (fun U c9 h => h) hf hd k
/-- an array of references -/
theorem v_anew {n : Int32} {index : Nat} {f : Nat → Option α} (k0 t0 : Nat) (Cn : String) (ht : (tyz cy)[t0]? = some (cy k0, .object Cn)) (h24 : 24 ≤ k0) (hcl : Cond.classLink own index Cn ∈ TBL) (hao : Cn ∈ AOL)
    (hf : gt_ (¬ n < 0 ∧ n.toNatClampNeg ≤ 100000 ∧ kd_ σ (nx_ σ) = 0) (lt_ (nx_ σ) f) = some u) (hd : decode cc pc = .ok (.anewarray index, 3))
    (k : ∀ q, kd_ (nw_ σ k0 n.toNatClampNeg n.toNatClampNeg) q = k0 → f q = some u → v_ l D cy ka cc own maxL ret nm fr lo Qf σ0 z (nw_ σ k0 n.toNatClampNeg n.toNatClampNeg) (pc + 3) L (va_rf (some q) :: rest)) : v_ l D cy ka cc own maxL ret nm fr lo Qf σ0 z σ pc L (.int n :: rest) := by
  obtain ⟨⟨hn, hN, hg⟩, hf⟩ := gt_of hf
  have k := k (nx_ σ) (kd_nw σ _ _ _) hf
  have htl := tl_nw σ k0 n.toNatClampNeg n.toNatClampNeg hg
  refine ⟨tl_tr htl k.1, fun t p e s m args below meth c C' ls hl H locs hH hS => ?_⟩
  have h1 := t.1; have h2 := t.2.1; have h3 := k.1.1; have h4 := k.1.2.1
  have e3 : nx_ (nw_ σ k0 n.toNatClampNeg n.toNatClampNeg) = nx_ σ + 1 := rfl
  have e4 : sl_ (nw_ σ k0 n.toNatClampNeg n.toNatClampNeg) = sl_ σ + n.toNatClampNeg := rfl
  have hb9 : n.toNatClampNeg * 4 ≤ 536870912 := Nat.le_trans (Nat.mul_le_mul hN (Nat.le_refl 4)) (by decide)
  refine W.anew C'.1.1 C'.1.2.1 C'.1.2.2.2.1 (C'.1.2.2.2.2 _ hcl) (va_AO.use (C'.2.2.2.2.2.2.2.2.2.2.2.2.2.2.2.2 _ hao)) rfl hd rfl hn hb9 (by show _ ≤ nx_ z - nx_ σ0; omega) (by show _ ≤ sl_ z - sl_ σ0; omega) fun cA kA comp f1 f2 f3 f4 => ?_
  obtain ⟨kA', comp', g1, g2, g3, g4⟩ := (C'.2.2.2.2.1.2 t0 _ ht).2
  have hcA : cA = cy k0 := Option.some.inj (f1.symm.trans g4)
  subst hcA
  generalize hH1 : H.push ({ cls := cy k0, slots := Array.replicate n.toNatClampNeg .null, vm := .none } : Cell) = H1
  have z1 : H1.size = H.size + 1 := by rw [← hH1, Array.size_push]
  have e1 : H1[H.size]? = some (arrV (cy k0) n.toNatClampNeg (fun _ => .null)) := by rw [← hH1, Array.getElem?_push_size, ← arrV_new]
  have o1 : ∀ q : Nat, q < H.size → H1[q]? = H[q]? := fun q hq => by rw [← hH1, Array.getElem?_push, if_neg (Nat.ne_of_lt hq)]
  have hh : hp_ D cy (nw_ σ k0 n.toNatClampNeg n.toNatClampNeg) H1 := by
    refine hp_nw hH (en_ref (kd_nw σ _ _ _) (by omega)) ?_ z1 o1
    show H1[nx_ σ]? = some (vp_cell _ _)
    have q1 : ar_ (nw_ σ k0 n.toNatClampNeg n.toNatClampNeg) (nx_ σ) = fun _ => none := by funext i; exact if_pos rfl
    rw [← hH.2.2.1, vp_cell_q, hH.2.2.1, ln_nw, q1, ← hH.2.2.1]
    exact e1
  have q := k.2 (tl_tr t htl) p e s m args below meth c C' ls hl H1 locs hh (sS_new hS z1 o1)
  rw [e3, e4] at q
  rw [show nx_ σ - nx_ σ0 + 1 = nx_ σ + 1 - nx_ σ0 by omega, show sl_ σ - sl_ σ0 + n.toNatClampNeg = sl_ σ + n.toNatClampNeg - sl_ σ0 by omega]
  show W p l e _ s m args below meth c H1 locs _ _ _ (F0 m (pc + 3) ls (.ref H.size :: rest))
  rw [hH.2.2.1]
  exact q
end V10
