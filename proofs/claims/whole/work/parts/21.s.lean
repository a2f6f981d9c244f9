/-! ROWS of the JDK's lists and copies. Written by wip/gen/mk21.py. -/
theorem kw_acn : Cond.native arraycopyName ∈ TBL := kT_ 392 (by decide +kernel) (by decide +kernel)
theorem kw_acs : Cond.static arraycopyName ∈ TBL := kT_ 391 (by decide +kernel) (by decide +kernel)
theorem kw_aci : Cond.initialized "java/lang/System" ∈ TBL := kT_ 17 (by decide +kernel) (by decide +kernel)
theorem cbx_ (ci : Nat) (h : ci < 17) : ∃ (C : String) (T : u_T) (N : Nat) (ty : Nat → FieldType), cb_ ci C T N ty ∧ Cond.castable C "java/lang/Object" ∈ NWL := by
  match ci, h with
  | 0, _ => exact ⟨_, _, _, _, cb_0, kw_2300⟩
  | 1, _ => exact ⟨_, _, _, _, cb_1, kw_2303⟩
  | 2, _ => exact ⟨_, _, _, _, cb_2, kw_2312⟩
  | 3, _ => exact ⟨_, _, _, _, cb_3, kw_2307⟩
  | 4, _ => exact ⟨_, _, _, _, cb_4, kw_2310⟩
  | 5, _ => exact ⟨_, _, _, _, cb_5, kw_2302⟩
  | 6, _ => exact ⟨_, _, _, _, cb_6, kw_2311⟩
  | 7, _ => exact ⟨_, _, _, _, cb_7, kw_2301⟩
  | 8, _ => exact ⟨_, _, _, _, cb_8, kw_2309⟩
  | 9, _ => exact ⟨_, _, _, _, cb_9, kw_2295⟩
  | 10, _ => exact ⟨_, _, _, _, cb_10, kw_2296⟩
  | 11, _ => exact ⟨_, _, _, _, cb_11, kw_2306⟩
  | 12, _ => exact ⟨_, _, _, _, cb_12, kw_2299⟩
  | 13, _ => exact ⟨_, _, _, _, cb_13, kw_2298⟩
  | 14, _ => exact ⟨_, _, _, _, cb_14, kw_2297⟩
  | 15, _ => exact ⟨_, _, _, _, cb_15, kw_2305⟩
  | 16, _ => exact ⟨_, _, _, _, cb_16, kw_2304⟩
  | n + 17, h => exact absurd h (by omega)
/-- references are copied -/
def sc_ (σ : TH) (s0 d0 sp dp n : Nat) : TH := (kd_ σ, ln_ σ, fi_ σ, fr_ σ, fl_ σ, ai_ σ, (fun a i => if a = d0 then va_cpy (ar_ σ s0) (ar_ σ d0) sp dp n i else ar_ σ a i), al_ σ, ow_ σ, nx_ σ, sl_ σ)
/-- ints are copied -/
def sy_ (σ : TH) (s0 d0 sp dp n : Nat) : TH := (kd_ σ, ln_ σ, fi_ σ, fr_ σ, fl_ σ, (fun a i => if a = d0 then va_cpy (ai_ σ s0) (ai_ σ d0) sp dp n i else ai_ σ a i), ar_ σ, al_ σ, ow_ σ, nx_ σ, sl_ σ)
theorem tl_sc (σ : TH) (s0 d0 sp dp n : Nat) : tl_ σ (sc_ σ s0 d0 sp dp n) := tl_rf σ
theorem tl_sy (σ : TH) (s0 d0 sp dp n : Nat) : tl_ σ (sy_ σ s0 d0 sp dp n) := tl_rf σ
theorem en_sc {cy : Nat → ClassId} {σ : TH} {s0 d0 sp dp n k : Nat} (h : kd_ σ d0 = k) (h1 : ¬ k < 24) (b : Nat) : va_up (en_ cy σ) d0 (.inl (cy k, ln_ σ d0, .inr (.inr (.inr (.inr (va_cpy (ar_ σ s0) (ar_ σ d0) sp dp n)))))) b = en_ cy (sc_ σ s0 d0 sp dp n) b := by
  by_cases hb : b = d0
  · subst hb
    rw [en_ref (σ := sc_ σ s0 b sp dp n) h h1]
    have e1 : ar_ (sc_ σ s0 b sp dp n) b = va_cpy (ar_ σ s0) (ar_ σ b) sp dp n := by funext j; exact if_pos rfl
    rw [e1]
    simp [va_up]; rfl
  · rw [en_same (τ := sc_ σ s0 d0 sp dp n) (σ := σ) rfl rfl (fun _ => rfl) (fun _ => rfl) (fun _ => rfl) rfl (by funext j; exact if_neg hb) rfl]
    simp [va_up, hb]
theorem en_sy {cy : Nat → ClassId} {σ : TH} {s0 d0 sp dp n k : Nat} (h : kd_ σ d0 = k) (h1 : ¬ k < 20) (h2 : k < 23) (b : Nat) : va_up (en_ cy σ) d0 (.inl (cy k, ln_ σ d0, .inl (va_cpy (ai_ σ s0) (ai_ σ d0) sp dp n))) b = en_ cy (sy_ σ s0 d0 sp dp n) b := by
  by_cases hb : b = d0
  · subst hb
    rw [en_int (σ := sy_ σ s0 b sp dp n) h h1 h2]
    have e1 : ai_ (sy_ σ s0 b sp dp n) b = va_cpy (ai_ σ s0) (ai_ σ b) sp dp n := by funext j; exact if_pos rfl
    rw [e1]
    simp [va_up]; rfl
  · rw [en_same (τ := sy_ σ s0 d0 sp dp n) (σ := σ) rfl rfl (fun _ => rfl) (fun _ => rfl) (fun _ => rfl) (by funext j; exact if_neg hb) rfl rfl]
    simp [va_up, hb]
theorem nn9_ (z : Int32) (hz : ¬ z < 0) : z.toInt = (z.toNatClampNeg : Int) := by
  have hz0 : (0 : Int) ≤ z.toInt := by
    have := Int32.not_lt.mp hz
    simpa using Int32.le_iff_toInt_le.mp this
  show z.toInt = ((z.toInt.toNat : Nat) : Int)
  omega
section V21
variable {l : Launch} {D : va_G} {cy : Nat → ClassId} {ka : Nat → Nat} {cc : ByteArray} {own : String} {maxL : Nat} {ret : Option FieldType} {nm : String} {fr lo : Nat} {Qf : QF} {σ0 z σ : TH} {pc : Nat} {L : List (Nat × Value)} {rest st : List Value}
variable {a : Nat} {i x : Int32} {α : Type} {u : α}
theorem v_lcmp {x y : Int64} (hd : decode cc pc = .ok (.lcmp, 1)) (k : v_ l D cy ka cc own maxL ret nm fr lo Qf σ0 z σ (pc + 1) L (.int (lg_cmp x y) :: rest)) : v_ l D cy ka cc own maxL ret nm fr lo Qf σ0 z σ pc L (.long y :: .long x :: rest) := v_op (fun hx hb k => W.lcmp hx hb hd k) k
theorem v_cast {r : Option Nat} {ci index : Nat} {C : String} {T : u_T} {N : Nat} {ty : Nat → FieldType} {f : Option α} (cb : cb_ ci C T N ty) (K : Nat) (hK : ci + 1 = K) (hcl : Cond.classLink own index C ∈ TBL) (hf : gt_ (Option.elim r K (kd_ σ) = K) f = some u) (hd : decode cc pc = .ok (.checkcast index, 3)) (k : f = some u → v_ l D cy ka cc own maxL ret nm fr lo Qf σ0 z σ (pc + 3) L (va_rf r :: rest)) : v_ l D cy ka cc own maxL ret nm fr lo Qf σ0 z σ pc L (va_rf r :: rest) := by
  obtain ⟨hk, hf⟩ := gt_of hf
  have k := k hf
  refine ⟨k.1, fun t p e s m args below meth c C' ls hl H locs hH hS => ?_⟩
  have kq := k.2 t p e s m args below meth c C' ls hl H locs hH hS
  cases r with
  | none => exact lv_castN C'.1.1 C'.1.2.1 hd kq
  | some a =>
    have hk : kd_ σ a = ci + 1 := by rw [hK]; exact hk
    obtain ⟨q0, hq⟩ := hp_at hH hk
    rw [en_obj hk cb.2.2.1] at hq
    exact va_castS C'.1.1 C'.1.2.1 C'.1.2.2.2.1 (C'.1.2.2.2.2 _ hcl) (C'.2.2.2.2.1.1 ci _ cb.1).2 (va_recv C'.2.2.2.2.1 hH.1 cb.1 hq) hd kq
/-- ArrayList's empty array -/
theorem v_getsE {index : Nat} (hw : Cond.fieldLink own index "java/util/ArrayList" "DEFAULTCAPACITY_EMPTY_ELEMENTDATA" "[Ljava/lang/Object;" ∈ TBL) (hd : decode cc pc = .ok (.getstatic index, 3)) (k : v_ l D cy ka cc own maxL ret nm fr lo Qf σ0 z σ (pc + 3) L (va_rf (some (ka 200)) :: rest)) : v_ l D cy ka cc own maxL ret nm fr lo Qf σ0 z σ pc L rest := by
  refine ⟨k.1, fun t p e s m args below meth c C' ls hl H locs hH hS => ?_⟩
  exact va_gets C'.1.1 C'.1.2.1 C'.2.2.2.2.2.2.2.2.2.2.1.1 hS C'.1.2.2.2.1 (C'.1.2.2.2.2 _ hw) (fun _ h => h) hd (k.2 t p e s m args below meth c C' ls hl H locs hH hS)
/-- any object into an array of Objects -/
theorem v_aastO {f : TH → Option α} {v : Nat} (hk : kd_ σ a = 24) (hf : gt_ (0 < kd_ σ v ∧ kd_ σ v < 18) (gt_ (¬ (i < 0 ∨ ln_ σ a ≤ i.toNatClampNeg)) (lt_ (sq_ σ a i.toNatClampNeg (some v)) f)) = some u) (hd : decode cc pc = .ok (.aastore, 1)) (k : ∀ τ, tl_ σ τ → f τ = some u → v_ l D cy ka cc own maxL ret nm fr lo Qf σ0 z τ (pc + 1) L rest) : v_ l D cy ka cc own maxL ret nm fr lo Qf σ0 z σ pc L (va_rf (some v) :: .int i :: va_rf (some a) :: rest) := by
  obtain ⟨⟨h1, h2⟩, hf⟩ := gt_of hf
  obtain ⟨ci, hci⟩ : ∃ ci, kd_ σ v = ci + 1 := ⟨kd_ σ v - 1, by omega⟩
  obtain ⟨C, T, N, ty, cb, hca⟩ := cbx_ ci (by omega)
  exact v_aast2 cb hci 23 4 "java/lang/Object" hk (by decide) rfl (Or.inr hca) hf hd k
theorem any_ {s : State} {args : Array Value} {H : Heap} {v : Nat} (ht : ∀ w ∈ NWL, va_Nw w s) (hK : va_K D clz (tyz cy) s) (hH : hp_ D cy σ H) (h1 : 0 < kd_ σ v) (h2 : kd_ σ v < 18) : va_Any "java/lang/Object" s H v := by
  obtain ⟨ci, hci⟩ : ∃ ci, kd_ σ v = ci + 1 := ⟨kd_ σ v - 1, by omega⟩
  obtain ⟨C, T, N, ty, cb, hca⟩ := cbx_ ci (by omega)
  obtain ⟨q0, hq⟩ := hp_at hH hci
  rw [en_obj hci cb.2.2.1] at hq
  refine va_rAny hK hH.1 hq cb.1 (fun comp c0 g1 g2 => ?_)
  obtain ⟨c1, t1, f1, f2, f3⟩ := Cond.castable_spec (va_Nw.use (A := #[]) rfl (ht _ hca))
  cases g2.symm.trans f1
  cases g1.symm.trans f2
  exact f3
/-- System.arraycopy between arrays of Objects -/
theorem v_acpq {s0 d0 : Nat} {sp dp n : Int32} {index : Nat} {f : TH → Option α} (hw : Cond.methodLink own index arraycopyName ∈ TBL) (hk0 : kd_ σ s0 = 24) (hk1 : kd_ σ d0 = 24)
    (hf : gt_ (¬ sp < 0 ∧ ¬ dp < 0 ∧ ¬ n < 0 ∧ sp.toNatClampNeg + n.toNatClampNeg ≤ ln_ σ s0 ∧ dp.toNatClampNeg + n.toNatClampNeg ≤ ln_ σ d0 ∧ 0 < ln_ σ d0 ∧ ∀ i, i < n.toNatClampNeg → Option.elim (ar_ σ s0 (sp.toNatClampNeg + i)) 1 (kd_ σ) ≠ 0 ∧ Option.elim (ar_ σ s0 (sp.toNatClampNeg + i)) 1 (kd_ σ) < 18) (lt_ (sc_ σ s0 d0 sp.toNatClampNeg dp.toNatClampNeg n.toNatClampNeg) f) = some u)
    (hfr : 1 ≤ fr) (hlo : 8 + (nativeFrameWords "java/lang/System" "arraycopy" 5 + 11) ≤ lo) (hc : (rest.map fun v => v.category).sum ≤ 8) (hd : decode cc pc = .ok (.invokestatic index, 3)) (k : ∀ τ, tl_ σ τ → f τ = some u → v_ l D cy ka cc own maxL ret nm fr lo Qf σ0 z τ (pc + 3) L rest) : v_ l D cy ka cc own maxL ret nm fr lo Qf σ0 z σ pc L (.int n :: .int dp :: va_rf (some d0) :: .int sp :: va_rf (some s0) :: rest) := by
  obtain ⟨⟨h1, h2, h3, h4, h5, h6, hel⟩, hf⟩ := gt_of hf
  have k := k _ (tl_sc _ _ _ _ _ _) hf
  refine ⟨tl_tr (tl_sc _ _ _ _ _ _) k.1, fun t p e s m args below meth c C' ls hl H locs hH hS => ?_⟩
  obtain ⟨q0, hq0⟩ := hp_at hH hk0
  obtain ⟨q1, hq1⟩ := hp_at hH hk1
  have hq1' := hq1
  rw [en_ref hk0 (by decide)] at hq0
  rw [en_ref hk1 (by decide)] at hq1'
  intro Ts hT X
  have hc0 : H[s0]? = some (vp_cell (cy 24) (ln_ σ s0, .inr (.inr (.inr (.inr (ar_ σ s0)))))) := hH.1 q0 _ hq0
  have hc1 : H[d0]? = some (vp_cell (cy 24) (ln_ σ d0, .inr (.inr (.inr (.inr (ar_ σ d0)))))) := hH.1 q1 _ hq1'
  obtain ⟨-, k0, hkk0', cm0, hkk0⟩ := (C'.2.2.2.2.1.2 4 _ rfl).1 (ln_ σ s0) (fun j => va_rf (ar_ σ s0 j))
  obtain ⟨-, k1, hkk1', cm1, hkk1⟩ := (C'.2.2.2.2.1.2 4 _ rfl).1 (ln_ σ d0) (fun j => va_rf (ar_ σ d0 j))
  obtain ⟨vm', X', step⟩ := X.arraycopy C'.1.1 C'.1.2.2.2.1 (C'.1.2.2.2.2 _ hw) (C'.1.2.2.2.2 _ kw_acn) (C'.1.2.2.2.2 _ kw_acs) (C'.1.2.2.2.2 _ kw_aci) (src := s0) (dst := d0) (cs := vp_cell (cy 24) (ln_ σ s0, .inr (.inr (.inr (.inr (ar_ σ s0)))))) (cd := vp_cell (cy 24) (ln_ σ d0, .inr (.inr (.inr (.inr (ar_ σ d0)))))) (srcPos := sp) (destPos := dp) (n := n) (by rw [hT]; exact hc0) (by rw [hT]; exact hc1)
    (fun _ h => by cases h) (fun _ h => by cases h) (fun h => by cases h) (fun h => by cases h) hkk0' hkk1' hkk0 hkk1 rfl h1 h2 h3
    (by rw [nn9_ sp h1, nn9_ n h3]; show ¬ _ > ((arrV (cy 24) (ln_ σ s0) (fun j => va_rf (ar_ σ s0 j))).slots.size : Int); rw [arrV_size]; omega)
    (by rw [nn9_ dp h2, nn9_ n h3]; show ¬ _ > ((arrV (cy 24) (ln_ σ d0) (fun j => va_rf (ar_ σ d0 j))).slots.size : Int); rw [arrV_size]; omega)
    (fun vm₁ hal i hi => by
      have e9 : (vp_cell (cy 24) (ln_ σ s0, .inr (.inr (.inr (.inr (ar_ σ s0)))))).slots.getD (sp.toNatClampNeg + i) .null = va_rf (ar_ σ s0 (sp.toNatClampNeg + i)) := by
        show (arrV (cy 24) (ln_ σ s0) (fun j => va_rf (ar_ σ s0 j))).slots.getD _ _ = _
        rw [Array.getD_eq_getD_getElem?, arrV_read _ _ (by omega)]
        rfl
      rw [e9]
      have hy0 := hel i hi
      cases hy : ar_ σ s0 (sp.toNatClampNeg + i) with
      | none => exact ⟨rfl, trivial⟩
      | some y =>
        rw [hy] at hy0
        obtain ⟨cellV, g1, g2, ⟨kC, hkC⟩, hasg⟩ := any_ (args := args) C'.2.2.2.2.2.2.1 C'.2.2.2.2.1 hH (Nat.pos_of_ne_zero hy0.1) hy0.2
        obtain ⟨kA, comp, r1, r2, r3, -⟩ := (C'.2.2.2.2.1.2 4 _ rfl).2
        cases hkk1'.symm.trans r1
        cases hkk1.symm.trans r2
        obtain ⟨kE, hkE, -⟩ := Vm.findClass_spec r3
        obtain ⟨kC', hkC', -⟩ := hal.2.2 _ _ hkC
        obtain ⟨kE', hkE', -⟩ := hal.2.2 _ _ hkE
        refine ⟨rfl, cellV, (show Ts.heap[y]? = some cellV by rw [hT]; exact g1), (fun q h => by rw [h] at g2; cases g2), ⟨kC', hkC'⟩, ?_, ?_⟩
        · exact ⟨kE', hkE'⟩
        · show vm₁.assignable _ _ = true
          rw [hal.assignable]
          exact hasg _ r3)
    (g := F0 m pc ls (.int n :: .int dp :: .ref d0 :: .int sp :: .ref s0 :: rest)) rfl (by rw [C'.1.2.2.1]; exact hl.1) (rest := rest) rfl (by rw [C'.1.2.1]; exact hd) hfr (by show 2 * 0 + _ + _ ≤ lo; omega)
  have e1 : copied (vp_cell (cy 24) (ln_ σ s0, .inr (.inr (.inr (.inr (ar_ σ s0)))))) (vp_cell (cy 24) (ln_ σ d0, .inr (.inr (.inr (.inr (ar_ σ d0)))))) sp dp n = vp_cell (cy 24) (ln_ σ d0, .inr (.inr (.inr (.inr (va_cpy (ar_ σ s0) (ar_ σ d0) sp.toNatClampNeg dp.toNatClampNeg n.toNatClampNeg))))) := by
    rw [vp_cell_q, vp_cell_q, vp_cell_q]
    exact va_copied (fun z => va_rf z) (cy 24) (cy 24) (ar_ σ s0) (ar_ σ d0) h4
  rw [e1] at X' step
  have hl9 : d0 < H.size := (Array.getElem?_eq_some_iff.mp hc1).1
  have hheap : ((Ts.setVm vm').setCell d0 (vp_cell (cy 24) (ln_ σ d0, .inr (.inr (.inr (.inr (va_cpy (ar_ σ s0) (ar_ σ d0) sp.toNatClampNeg dp.toNatClampNeg n.toNatClampNeg))))))).heap = H.setIfInBounds d0 (vp_cell (cy 24) (ln_ σ d0, .inr (.inr (.inr (.inr (va_cpy (ar_ σ s0) (ar_ σ d0) sp.toNatClampNeg dp.toNatClampNeg n.toNatClampNeg)))))) := by rw [← hT]; rfl
  have oq : ∀ q : Nat, q ≠ d0 → (H.setIfInBounds d0 (vp_cell (cy 24) (ln_ σ d0, .inr (.inr (.inr (.inr (va_cpy (ar_ σ s0) (ar_ σ d0) sp.toNatClampNeg dp.toNatClampNeg n.toNatClampNeg)))))))[q]? = H[q]? := fun q hq => by simp [Array.getElem?_setIfInBounds, Ne.symm hq]
  have haa : aa_ σ0 d0 := aa_tl t d0 (Or.inl ⟨hH.2.2.2 d0 (by rw [hk1]; decide), fun q => by omega⟩)
  obtain ⟨t2, a1, b1⟩ := k.2 (tl_tr t (tl_sc _ _ _ _ _ _)) p e s m args below meth c C' ls hl _ _ (hp_store hH hk1 hq1 rfl rfl rfl (en_sc hk1 (by decide)) (show (H.setIfInBounds d0 _)[d0]? = some _ by simp [Array.getElem?_setIfInBounds, hl9]) (by simp) oq) ⟨by simp; exact hS.1, fun q g1 g2 => by
      rw [oq q (fun e => g2 (by rw [e]; exact haa))]
      exact hS.2.1 q g1 g2, fun q hq => by
      rcases List.mem_append.mp hq with h | h
      · exact hS.2.2 q h
      · obtain ⟨z, -, hz⟩ := List.mem_map.mp h
        rw [← hz]
        exact haa⟩ _ hheap X'
  exact ⟨t2, step t2 a1, b1⟩
end V21
