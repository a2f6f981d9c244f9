/-! ROWS of class objects, Strings, copies of ints. Written by wip/gen/mk21t.py. -/
theorem kw_gcd : Cond.declares (⟨"java/lang/Object", "getClass", "()Ljava/lang/Class;"⟩ : MethodName) ∈ NWL := kN_ 2317 (by decide +kernel) (by decide +kernel)
theorem kw_gcn : Cond.native (⟨"java/lang/Object", "getClass", "()Ljava/lang/Class;"⟩ : MethodName) ∈ TBL := kT_ 380 (by decide +kernel) (by decide +kernel)
theorem kw_gci : Cond.instanceMethod (⟨"java/lang/Object", "getClass", "()Ljava/lang/Class;"⟩ : MethodName) ∈ TBL := kT_ 360 (by decide +kernel) (by decide +kernel)
theorem kw_gcs : Cond.selects "[Ljava/lang/Object;" (⟨"java/lang/Object", "getClass", "()Ljava/lang/Class;"⟩ : MethodName) (⟨"java/lang/Object", "getClass", "()Ljava/lang/Class;"⟩ : MethodName) ∈ TBL := kT_ 2316 (by decide +kernel) (by decide +kernel)
section V21T
variable {l : Launch} {D : va_G} {cy : Nat → ClassId} {ka : Nat → Nat} {cc : ByteArray} {own : String} {maxL : Nat} {ret : Option FieldType} {nm : String} {fr lo : Nat} {Qf : QF} {σ0 z σ τ : TH} {pc : Nat} {L : List (Nat × Value)} {rest st : List Value} {rv : Option Value}
variable {a w9 : Nat} {i x : Int32} {α : Type} {u : α}
theorem v_ldcM {index : Nat} (hw : Cond.classLink own index "[Ljava/lang/Object;" ∈ TBL) (hd : decode cc pc = .ok (.ldc index, 2)) (k : v_ l D cy ka cc own maxL ret nm fr lo Qf σ0 z σ (pc + 2) L (va_rf (some (ka 201)) :: rest)) : v_ l D cy ka cc own maxL ret nm fr lo Qf σ0 z σ pc L rest :=
  ⟨k.1, fun t p e s m args below meth c C' ls hl H locs hH hS => va_ldcM C'.1.1 C'.1.2.1 C'.1.2.2.2.1 (C'.1.2.2.2.2 _ hw) C'.2.2.2.2.2.2.2.2.2.2.2.2.2.2.1 hd (k.2 t p e s m args below meth c C' ls hl H locs hH hS)⟩
theorem v_getC {index : Nat} (hw : Cond.methodLink own index (⟨"java/lang/Object", "getClass", "()Ljava/lang/Class;"⟩ : MethodName) ∈ TBL) (hk : kd_ σ a = 24) (hfr : 1 ≤ fr) (hlo : 22 ≤ lo) (hc : (rest.map fun v => v.category).sum ≤ 8) (hd : decode cc pc = .ok (.invokevirtual index, 3)) (k : v_ l D cy ka cc own maxL ret nm fr lo Qf σ0 z σ (pc + 3) L (va_rf (some (ka 201)) :: rest)) : v_ l D cy ka cc own maxL ret nm fr lo Qf σ0 z σ pc L (va_rf (some a) :: rest) := by
  refine ⟨k.1, fun t p e s m args below meth c C' ls hl H locs hH hS => ?_⟩
  obtain ⟨q0, hq⟩ := hp_at hH hk
  rw [en_ref hk (by decide)] at hq
  obtain ⟨kA, comp, r1, r2, r3, r4⟩ := (C'.2.2.2.2.1.2 4 _ rfl).2
  exact va_getC C'.1.1 C'.1.2.1 (by rw [C'.1.2.2.1]; exact hl.1.symm) C'.1.2.2.2.1 (C'.1.2.2.2.2 _ hw) (va_Nw.use rfl (C'.2.2.2.2.2.2.1 _ kw_gcd)) (C'.1.2.2.2.2 _ kw_gcs) (C'.1.2.2.2.2 _ kw_gci) (C'.1.2.2.2.2 _ kw_gcn) C'.2.2.2.2.2.2.2.2.2.2.2.2.2.2.1 ⟨_, hH.1 q0 _ hq, rfl, r4⟩ hfr (by show _ ≤ lo; omega) hd (k.2 t p e s m args below meth c C' ls hl H locs hH hS)
/-- a String constant -/
theorem v_ldcS {index n : Nat} {tx : String} (hw : (own, index, tx, n) ∈ SRL) (hd : decode cc pc = .ok (.ldc index, 2)) (k : v_ l D cy ka cc own maxL ret nm fr lo Qf σ0 z σ (pc + 2) L (va_rf (some (ka n)) :: rest)) : v_ l D cy ka cc own maxL ret nm fr lo Qf σ0 z σ pc L rest :=
  ⟨k.1, fun t p e s m args below meth c C' ls hl H locs hH hS => va_ldcS C'.1.1 C'.1.2.1 C'.1.2.2.2.1 (C'.2.2.2.2.2.2.2.1 _ hw) hd (k.2 t p e s m args below meth c C' ls hl H locs hH hS)⟩
theorem v_ldcwS {index n : Nat} {tx : String} (hw : (own, index, tx, n) ∈ SRL) (hd : decode cc pc = .ok (.ldc_w index, 3)) (k : v_ l D cy ka cc own maxL ret nm fr lo Qf σ0 z σ (pc + 3) L (va_rf (some (ka n)) :: rest)) : v_ l D cy ka cc own maxL ret nm fr lo Qf σ0 z σ pc L rest := by
  refine ⟨k.1, fun t p e s m args below meth c C' ls hl H locs hH hS => ?_⟩
  intro T hT X
  obtain ⟨t2, a1, b1⟩ := k.2 t p e s m args below meth c C' ls hl H locs hH hS T hT X
  have hZ := C'.2.2.2.2.2.2.2.1 _ hw
  exact ⟨t2, X.ldcStringW C'.1.1 C'.1.2.2.2.1 (text := tx) (a := ka n) hZ.1 hZ.2 (g := F0 m pc ls rest) rfl (by rw [C'.1.2.1]; exact hd) t2 a1, b1⟩
/-- of a String constant: its bytes, its coder -/
theorem v_sval {index : Nat} (h18 : w9 < 18) (hw : Cond.fieldLink own index "java/lang/String" "value" "[B" ∈ TBL) (hd : decode cc pc = .ok (.getfield index, 3)) (k : v_ l D cy ka cc own maxL ret nm fr lo Qf σ0 z σ (pc + 3) L (va_rf (some (ka (100 + w9))) :: rest)) : v_ l D cy ka cc own maxL ret nm fr lo Qf σ0 z σ pc L (va_rf (some (ka w9)) :: rest) :=
  ⟨k.1, fun t p e s m args below meth c C' ls hl H locs hH hS => vk_getf C'.1.1 C'.1.2.1 (C'.2.2.2.2.2.2.2.2.1.1 w9 h18).2.2.1 hS C'.1.2.2.2.1 (C'.1.2.2.2.2 _ hw) (fun _ h => h) hd (k.2 t p e s m args below meth c C' ls hl H locs hH hS)⟩
theorem v_scod {index : Nat} (h18 : w9 < 18) (hw : Cond.fieldLink own index "java/lang/String" "coder" "B" ∈ TBL) (hd : decode cc pc = .ok (.getfield index, 3)) (k : v_ l D cy ka cc own maxL ret nm fr lo Qf σ0 z σ (pc + 3) L (.int 0 :: rest)) : v_ l D cy ka cc own maxL ret nm fr lo Qf σ0 z σ pc L (va_rf (some (ka w9)) :: rest) :=
  ⟨k.1, fun t p e s m args below meth c C' ls hl H locs hH hS => vk_getf C'.1.1 C'.1.2.1 (C'.2.2.2.2.2.2.2.2.1.1 w9 h18).2.1 hS C'.1.2.2.2.1 (C'.1.2.2.2.2 _ hw) (fun _ h => h) hd (k.2 t p e s m args below meth c C' ls hl H locs hH hS)⟩
theorem v_slen (h18 : w9 < 18) (hd : decode cc pc = .ok (.arraylength, 1)) (k : v_ l D cy ka cc own maxL ret nm fr lo Qf σ0 z σ (pc + 1) L (.int (Int32.ofNat (stl_.getD w9 0)) :: rest)) : v_ l D cy ka cc own maxL ret nm fr lo Qf σ0 z σ pc L (va_rf (some (ka (100 + w9))) :: rest) := by
  refine ⟨k.1, fun t p e s m args below meth c C' ls hl H locs hH hS => ?_⟩
  obtain ⟨cell, h1, h2, h3, h4, h5, h6⟩ := (C'.2.2.2.2.2.2.2.2.1.1 w9 h18).2.2.2.kept hS.2.1
  exact W.alen C'.1.1 C'.1.2.1 h1 h2 h5 rfl rfl hd (k.2 t p e s m args below meth c C' ls hl H locs hH hS)
theorem v_sbald {f : Option α} (h18 : w9 < 18) (hf : gt_ (¬ (i < 0 ∨ stl_.getD w9 0 ≤ i.toNatClampNeg)) f = some u) (hd : decode cc pc = .ok (.baload, 1)) (k : f = some u → v_ l D cy ka cc own maxL ret nm fr lo Qf σ0 z σ (pc + 1) L (.int ((stb_.getD w9 []).getD i.toNatClampNeg 0) :: rest)) : v_ l D cy ka cc own maxL ret nm fr lo Qf σ0 z σ pc L (.int i :: va_rf (some (ka (100 + w9))) :: rest) := by
  have k := k (gt_of hf).2
  refine ⟨k.1, fun t p e s m args below meth c C' ls hl H locs hH hS => ?_⟩
  exact va_tb C'.1.1 C'.1.2.1 (C'.2.2.2.2.2.2.2.2.1.1 w9 h18).2.2.2 hS (gt_of hf).1 rfl hd (k.2 t p e s m args below meth c C' ls hl H locs hH hS)
theorem v_getsC {index : Nat} (hw : Cond.fieldLink own index "java/lang/String" "COMPACT_STRINGS" "Z" ∈ TBL) (hd : decode cc pc = .ok (.getstatic index, 3)) (k : v_ l D cy ka cc own maxL ret nm fr lo Qf σ0 z σ (pc + 3) L (.int 1 :: rest)) : v_ l D cy ka cc own maxL ret nm fr lo Qf σ0 z σ pc L rest :=
  ⟨k.1, fun t p e s m args below meth c C' ls hl H locs hH hS => va_gets C'.1.1 C'.1.2.1 C'.2.2.2.2.2.2.2.2.2.1 hS C'.1.2.2.2.1 (C'.1.2.2.2.2 _ hw) (fun _ h => h) hd (k.2 t p e s m args below meth c C' ls hl H locs hH hS)⟩
theorem v_getsF {index : Nat} (hw : Cond.fieldLink own index "jdk/internal/util/Preconditions" "SIOOBE_FORMATTER" "Ljava/util/function/BiFunction;" ∈ TBL) (hd : decode cc pc = .ok (.getstatic index, 3)) (k : ∀ r, v_ l D cy ka cc own maxL ret nm fr lo Qf σ0 z σ (pc + 3) L (va_rf r :: rest)) : v_ l D cy ka cc own maxL ret nm fr lo Qf σ0 z σ pc L rest := by
  refine ⟨(k none).1, fun t p e s m args below meth c C' ls hl H locs hH hS => ?_⟩
  rcases C'.2.2.2.2.2.2.2.2.2.2.2.1 with h | ⟨q, h⟩
  · exact va_gets C'.1.1 C'.1.2.1 h hS C'.1.2.2.2.1 (C'.1.2.2.2.2 _ hw) (fun _ h => h) hd ((k none).2 t p e s m args below meth c C' ls hl H locs hH hS)
  · exact va_gets C'.1.1 C'.1.2.1 h hS C'.1.2.2.2.1 (C'.1.2.2.2.2 _ hw) (fun _ h => h) hd ((k (some q)).2 t p e s m args below meth c C' ls hl H locs hH hS)
/-- a method of a String constant -/
theorem v_callVS {y : MethodName} {bytes : ByteArray} {mL n index fr2 lo2 : Nat} {rt : Option FieldType} {As : List Value} (h18 : w9 < 18) (hM : ct_ l D cy ka y fr2 lo2 (va_rf (some (ka w9)) :: As) σ rv τ) (yb : yb_ y bytes mL rt n) (hw : Cond.methodLink own index y ∈ TBL) (hi : Cond.instanceMethod y ∈ TBL) (hs : Cond.selects "java/lang/String" y y ∈ TBL) (hn : As.length = n) (hR : fr2 + 1 ≤ fr ∧ 8 + (mL + 11) + lo2 ≤ lo) (hst : st = As.reverse ++ va_rf (some (ka w9)) :: rest) (hc : (rest.map fun v => v.category).sum ≤ 8) (hd : decode cc pc = .ok (.invokevirtual index, 3)) (k : v_ l D cy ka cc own maxL ret nm fr lo Qf σ0 z τ (pc + 3) L (rv.toList ++ rest)) : v_ l D cy ka cc own maxL ret nm fr lo Qf σ0 z σ pc L st := by
  refine v_behind hM.1 (fun t p e s m args below meth c C' ls hl H locs hH hS hr => ⟨(Value.ref (ka w9) :: As).toArray, ?_⟩) k
  exact va_runV (As := As) (rest := rest) C'.1 hM.2 ⟨yb_B yb hw C'.1.2.2.2.2 hR, C'.1.2.2.2.2 _ hi, C'.1.2.2.2.2 _ hs⟩ ⟨pw_blind, vk_recv C'.2.2.2.2.2.2.2.2.1 h18 hS, fun U hU hW => ⟨rfl, pw_at C'.2.2.2.2.1 C'.2.2.2.2.2.2 t hH hS hU hW⟩⟩ rfl hn hl.1 hst (lv_room hc) hd hr
/-- System.arraycopy between arrays of ints -/
theorem v_acpi {s0 d0 : Nat} {sp dp n : Int32} {index : Nat} {f : TH → Option α} (hw : Cond.methodLink own index arraycopyName ∈ TBL) (hk0 : kd_ σ s0 = 20) (hk1 : kd_ σ d0 = 20)
    (hf : gt_ (¬ sp < 0 ∧ ¬ dp < 0 ∧ ¬ n < 0 ∧ sp.toNatClampNeg + n.toNatClampNeg ≤ ln_ σ s0 ∧ dp.toNatClampNeg + n.toNatClampNeg ≤ ln_ σ d0) (lt_ (sy_ σ s0 d0 sp.toNatClampNeg dp.toNatClampNeg n.toNatClampNeg) f) = some u)
    (hfr : 1 ≤ fr) (hlo : 8 + (nativeFrameWords "java/lang/System" "arraycopy" 5 + 11) ≤ lo) (hc : (rest.map fun v => v.category).sum ≤ 8) (hd : decode cc pc = .ok (.invokestatic index, 3)) (k : ∀ τ, tl_ σ τ → f τ = some u → v_ l D cy ka cc own maxL ret nm fr lo Qf σ0 z τ (pc + 3) L rest) : v_ l D cy ka cc own maxL ret nm fr lo Qf σ0 z σ pc L (.int n :: .int dp :: va_rf (some d0) :: .int sp :: va_rf (some s0) :: rest) := by
  obtain ⟨⟨h1, h2, h3, h4, h5⟩, hf⟩ := gt_of hf
  have k := k _ (tl_sy _ _ _ _ _ _) hf
  refine ⟨tl_tr (tl_sy _ _ _ _ _ _) k.1, fun t p e s m args below meth c C' ls hl H locs hH hS => ?_⟩
  obtain ⟨q0, hq0⟩ := hp_at hH hk0
  obtain ⟨q1, hq1⟩ := hp_at hH hk1
  have hq1' := hq1
  rw [en_int hk0 (by decide) (by decide)] at hq0
  rw [en_int hk1 (by decide) (by decide)] at hq1'
  intro Ts hT X
  have hc0 : H[s0]? = some (vp_cell (cy 20) (ln_ σ s0, .inl (ai_ σ s0))) := hH.1 q0 _ hq0
  have hc1 : H[d0]? = some (vp_cell (cy 20) (ln_ σ d0, .inl (ai_ σ d0))) := hH.1 q1 _ hq1'
  obtain ⟨-, k0, hkk0', cm0, hkk0⟩ := (C'.2.2.2.2.1.2 0 _ rfl).1 (ln_ σ s0) (fun j => .int (ai_ σ s0 j))
  obtain ⟨-, k1, hkk1', cm1, hkk1⟩ := (C'.2.2.2.2.1.2 0 _ rfl).1 (ln_ σ d0) (fun j => .int (ai_ σ d0 j))
  obtain ⟨vm', X', step⟩ := X.arraycopy C'.1.1 C'.1.2.2.2.1 (C'.1.2.2.2.2 _ hw) (C'.1.2.2.2.2 _ kw_acn) (C'.1.2.2.2.2 _ kw_acs) (C'.1.2.2.2.2 _ kw_aci) (src := s0) (dst := d0) (cs := vp_cell (cy 20) (ln_ σ s0, .inl (ai_ σ s0))) (cd := vp_cell (cy 20) (ln_ σ d0, .inl (ai_ σ d0))) (srcPos := sp) (destPos := dp) (n := n) (by rw [hT]; exact hc0) (by rw [hT]; exact hc1)
    (fun _ h => by cases h) (fun _ h => by cases h) (fun h => by cases h) (fun h => by cases h) hkk0' hkk1' hkk0 hkk1 (by simp [refKind]) h1 h2 h3
    (by rw [nn9_ sp h1, nn9_ n h3]; show ¬ _ > ((arrV (cy 20) (ln_ σ s0) (fun j => .int (ai_ σ s0 j))).slots.size : Int); rw [arrV_size]; omega)
    (by rw [nn9_ dp h2, nn9_ n h3]; show ¬ _ > ((arrV (cy 20) (ln_ σ d0) (fun j => .int (ai_ σ d0 j))).slots.size : Int); rw [arrV_size]; omega)
    (fun vm₁ hal i hi => by
      have e9 : (vp_cell (cy 20) (ln_ σ s0, .inl (ai_ σ s0))).slots.getD (sp.toNatClampNeg + i) .null = .int (ai_ σ s0 (sp.toNatClampNeg + i)) := by
        show (arrV (cy 20) (ln_ σ s0) (fun j => .int (ai_ σ s0 j))).slots.getD _ _ = _
        rw [Array.getD_eq_getD_getElem?, arrV_read _ _ (by omega)]
        rfl
      rw [e9]
      exact ⟨rfl, trivial⟩)
    (g := F0 m pc ls (.int n :: .int dp :: .ref d0 :: .int sp :: .ref s0 :: rest)) rfl (by rw [C'.1.2.2.1]; exact hl.1) (rest := rest) rfl (by rw [C'.1.2.1]; exact hd) hfr (by show 2 * 0 + _ + _ ≤ lo; omega)
  have e1 : copied (vp_cell (cy 20) (ln_ σ s0, .inl (ai_ σ s0))) (vp_cell (cy 20) (ln_ σ d0, .inl (ai_ σ d0))) sp dp n = vp_cell (cy 20) (ln_ σ d0, .inl (va_cpy (ai_ σ s0) (ai_ σ d0) sp.toNatClampNeg dp.toNatClampNeg n.toNatClampNeg)) := by
    rw [vp_cell_i, vp_cell_i, vp_cell_i]
    exact va_copied (fun z => Value.int z) (cy 20) (cy 20) (ai_ σ s0) (ai_ σ d0) h4
  rw [e1] at X' step
  have hl9 : d0 < H.size := (Array.getElem?_eq_some_iff.mp hc1).1
  have hheap : ((Ts.setVm vm').setCell d0 (vp_cell (cy 20) (ln_ σ d0, .inl (va_cpy (ai_ σ s0) (ai_ σ d0) sp.toNatClampNeg dp.toNatClampNeg n.toNatClampNeg)))).heap = H.setIfInBounds d0 (vp_cell (cy 20) (ln_ σ d0, .inl (va_cpy (ai_ σ s0) (ai_ σ d0) sp.toNatClampNeg dp.toNatClampNeg n.toNatClampNeg))) := by rw [← hT]; rfl
  have oq : ∀ q : Nat, q ≠ d0 → (H.setIfInBounds d0 (vp_cell (cy 20) (ln_ σ d0, .inl (va_cpy (ai_ σ s0) (ai_ σ d0) sp.toNatClampNeg dp.toNatClampNeg n.toNatClampNeg))))[q]? = H[q]? := fun q hq => by simp [Array.getElem?_setIfInBounds, Ne.symm hq]
  have haa : aa_ σ0 d0 := aa_tl t d0 (Or.inl ⟨hH.2.2.2 d0 (by rw [hk1]; decide), fun q => by omega⟩)
  obtain ⟨t2, a1, b1⟩ := k.2 (tl_tr t (tl_sy _ _ _ _ _ _)) p e s m args below meth c C' ls hl _ _ (hp_store hH hk1 hq1 rfl rfl rfl (en_sy hk1 (by decide) (by decide)) (show (H.setIfInBounds d0 _)[d0]? = some _ by simp [Array.getElem?_setIfInBounds, hl9]) (by simp) oq) ⟨by simp; exact hS.1, fun q g1 g2 => by
      rw [oq q (fun e => g2 (by rw [e]; exact haa))]
      exact hS.2.1 q g1 g2, fun q hq => by
      rcases List.mem_append.mp hq with h | h
      · exact hS.2.2 q h
      · obtain ⟨z, -, hz⟩ := List.mem_map.mp h
        rw [← hz]
        exact haa⟩ _ hheap X'
  exact ⟨t2, step t2 a1, b1⟩
end V21T
