/-! CALLS over the typed heap. -/
theorem pw_blind {D : va_G} {cy : Nat → ClassId} {ka : Nat → Nat} {σ : TH} {av : List Value} : FrameBlind (va_Pc av (pw_ D cy ka σ)) := fun a U g mk q => ⟨q.1, q.2.1, va_K.moved (u := U) (U := U.calling g mk a) (Vm.Alike.refl U.vm) q.2.2.1, ev_frame q.2.2.2 rfl rfl⟩
section V8
variable {l : Launch} {D : va_G} {cy : Nat → ClassId} {ka : Nat → Nat} {cc : ByteArray} {own : String} {maxL : Nat} {ret : Option FieldType} {nm : String} {fr lo : Nat} {Qf : QF} {σ0 z σ τ : TH} {pc : Nat} {L : List (Nat × Value)} {rest st : List Value} {rv : Option Value}
variable {y : MethodName} {bytes : ByteArray} {mL n index fr2 lo2 : Nat} {rt : Option FieldType} {As : List Value} {C : String} {b : Nat}
theorem yb_B {R : Room} {s : State} {args : Array Value} (yb : yb_ y bytes mL rt n) (hw : Cond.methodLink own index y ∈ TBL) (ht : ∀ w ∈ TBL, w.before args s = true) (hR : fr2 + 1 ≤ R.frames ∧ 8 + (mL + 11) + lo2 ≤ R.locals) : CallB R s args own index y bytes mL rt TBL (rm_ fr2 lo2 σ τ) (nx_ τ - nx_ σ) (sl_ τ - sl_ σ) n := by
  refine ⟨rfl, rfl, hR.1, hR.2, pay_in ht TBL_in, yb.1, ht _ yb.1, ht _ yb.2.1, yb.2.2.1, fun sig h => ?_, ht _ hw⟩
  have h2 := yb.2.2.2
  rw [h] at h2
  exact (Option.some.inj h2).symm
/-- behind a call's run -/
theorem v_behind (hT : tl_ σ τ) (hrun : tl_ σ0 σ → ∀ (p : Program) (e : Env) (s : State) (m : MethodId) (args : Array Value) (below : List Frame) (meth : Method) (c : Code), cx_ p s m args meth c D cy ka cc own maxL ret nm σ0 → ∀ ls : Array Slot, lv_has ls maxL L → ∀ (H : Heap) (locs : List Loc), hp_ D cy σ H → va_S (aa_ σ0) s.heap H locs → (nx_ σ - nx_ σ0 + (nx_ τ - nx_ σ) ≤ nx_ z - nx_ σ0 ∧ sl_ σ - sl_ σ0 + (sl_ τ - sl_ σ) ≤ sl_ z - sl_ σ0) →
      ∃ a9, va_Run p l e (rm_ fr lo σ0 z) s m args below meth c H locs (nx_ σ - nx_ σ0) (sl_ σ - sl_ σ0) (nx_ τ - nx_ σ) (sl_ τ - sl_ σ) (F0 m pc ls st) rest (qw_ D cy σ τ rv a9) (aa_ σ))
    (k : v_ l D cy ka cc own maxL ret nm fr lo Qf σ0 z τ (pc + 3) L (rv.toList ++ rest)) : v_ l D cy ka cc own maxL ret nm fr lo Qf σ0 z σ pc L st := by
  refine ⟨tl_tr hT k.1, fun t p e s m args below meth c C' ls hl H locs hH hS => ?_⟩
  have h1 := t.1; have h2 := t.2.1; have h3 := hT.1; have h4 := hT.2.1; have h5 := k.1.1; have h6 := k.1.2.1
  obtain ⟨a9, hr⟩ := hrun t p e s m args below meth c C' ls hl H locs hH hS ⟨by omega, by omega⟩
  intro T hTh X
  obtain ⟨v, st₀, t', T', L2, h0, X', hL, e1, e2, ⟨hv, hp, hz, hk⟩, stp⟩ := hr T hTh X
  cases hv
  rw [h0] at hz hk
  have q := k.2 (tl_tr t hT) p e s m args below meth c C' ls hl T'.heap (locs ++ L2) (by rw [e1]; exact hp) ⟨Nat.le_trans hS.1 (by rw [e1]; exact hz), fun q h1 h2 => by
      rw [e1, hk q (Nat.lt_of_lt_of_le h1 hS.1) (fun z => h2 (aa_tl t q z))]
      exact hS.2.1 q h1 h2, fun q hq => by
      rcases List.mem_append.mp hq with h | h
      · exact hS.2.2 q h
      · exact aa_tl t _ (hL q h)⟩
  have e3 : nx_ σ - nx_ σ0 + (nx_ τ - nx_ σ) = nx_ τ - nx_ σ0 := by omega
  have e4 : sl_ σ - sl_ σ0 + (sl_ τ - sl_ σ) = sl_ τ - sl_ σ0 := by omega
  rw [e3, e4] at X'
  obtain ⟨t2, a1, b1⟩ := q T' rfl X'
  exact ⟨t2, stp t2 a1, b1⟩
theorem pw_at {s U : State} {H : Heap} {locs : List Loc} (hK : va_K D clz (tyz cy) s) (hE : ev_ ka (aa_ σ0) s s.heap) (t : tl_ σ0 σ) (hH : hp_ D cy σ H) (hS : va_S (aa_ σ0) s.heap H locs) (hU : U.heap = H) (hW : s.WarmedH U.vm) : pw_ D cy ka σ U :=
  ⟨by rw [hU]; exact hH, va_K.moved hW.alike hK, ev_call hE hS hU hW (aa_tl t)⟩
/-- a static method of the same class -/
theorem v_callS (hM : ct_ l D cy ka y fr2 lo2 As σ rv τ) (yb : yb_ y bytes mL rt n) (hw : Cond.methodLink own index y ∈ TBL) (hs : Cond.static y ∈ TBL) (hn : As.length = n) (hR : fr2 + 1 ≤ fr ∧ 8 + (mL + 11) + lo2 ≤ lo) (hst : st = As.reverse ++ rest) (hc : (rest.map fun v => v.category).sum ≤ 8) (hd : decode cc pc = .ok (.invokestatic index, 3)) (k : v_ l D cy ka cc own maxL ret nm fr lo Qf σ0 z τ (pc + 3) L (rv.toList ++ rest)) : v_ l D cy ka cc own maxL ret nm fr lo Qf σ0 z σ pc L st := by
  refine v_behind hM.1 (fun t p e s m args below meth c C' ls hl H locs hH hS hr => ⟨As.toArray, ?_⟩) k
  exact va_runS (As := As) (rest := rest) C'.1 hM.2 ⟨yb_B yb hw C'.1.2.2.2.2 hR, C'.1.2.2.2.2 _ hs⟩ ⟨pw_blind, fun U hU hW => ⟨rfl, pw_at C'.2.2.2.2.1 C'.2.2.2.2.2.2 t hH hS hU hW⟩⟩ rfl hn hl.1 hst (lv_room hc) hd hr
/-- a constructor -/
theorem v_callI (hM : ct_ l D cy ka y fr2 lo2 (va_rf (some b) :: As) σ none τ) (yb : yb_ y bytes mL none n) (hw : Cond.methodLink own index y ∈ TBL) (hi : Cond.instanceMethod y ∈ TBL) (hy : y.name = "<init>") (hn : As.length = n) (hR : fr2 + 1 ≤ fr ∧ 8 + (mL + 11) + lo2 ≤ lo) (hst : st = As.reverse ++ va_rf (some b) :: rest) (hc : (rest.map fun v => v.category).sum ≤ 8) (hd : decode cc pc = .ok (.invokespecial index, 3)) (k : v_ l D cy ka cc own maxL ret nm fr lo Qf σ0 z τ (pc + 3) L rest) : v_ l D cy ka cc own maxL ret nm fr lo Qf σ0 z σ pc L st := by
  refine v_behind (rv := none) hM.1 (fun t p e s m args below meth c C' ls hl H locs hH hS hr => ⟨(Value.ref b :: As).toArray, ?_⟩) k
  exact va_runI (As := As) (rest := rest) C'.1 hM.2 ⟨yb_B yb hw C'.1.2.2.2.2 hR, hy, C'.1.2.2.2.2 _ hi⟩ ⟨pw_blind, fun U hU hW => ⟨rfl, pw_at C'.2.2.2.2.1 C'.2.2.2.2.2.2 t hH hS hU hW⟩⟩ rfl hn hl.1 hst (lv_room hc) hd hr
/-- a method of an object of a class of the list -/
theorem v_callV {ci : Nat} {T : u_T} {N : Nat} {ty : Nat → FieldType} (cb : cb_ ci C T N ty) (hk : kd_ σ b = ci + 1) (hM : ct_ l D cy ka y fr2 lo2 (va_rf (some b) :: As) σ rv τ) (yb : yb_ y bytes mL rt n) (hw : Cond.methodLink own index y ∈ TBL) (hi : Cond.instanceMethod y ∈ TBL) (hs : Cond.selects C y y ∈ TBL) (hn : As.length = n) (hR : fr2 + 1 ≤ fr ∧ 8 + (mL + 11) + lo2 ≤ lo) (hst : st = As.reverse ++ va_rf (some b) :: rest) (hc : (rest.map fun v => v.category).sum ≤ 8) (hd : decode cc pc = .ok (.invokevirtual index, 3)) (k : v_ l D cy ka cc own maxL ret nm fr lo Qf σ0 z τ (pc + 3) L (rv.toList ++ rest)) : v_ l D cy ka cc own maxL ret nm fr lo Qf σ0 z σ pc L st := by
  refine v_behind hM.1 (fun t p e s m args below meth c C' ls hl H locs hH hS hr => ⟨(Value.ref b :: As).toArray, ?_⟩) k
  obtain ⟨q0, hq⟩ := hp_at hH hk
  rw [en_obj hk cb.2.2.1] at hq
  exact va_runV (As := As) (rest := rest) C'.1 hM.2 ⟨yb_B yb hw C'.1.2.2.2.2 hR, C'.1.2.2.2.2 _ hi, C'.1.2.2.2.2 _ hs⟩ ⟨pw_blind, va_recv C'.2.2.2.2.1 hH.1 cb.1 hq, fun U hU hW => ⟨rfl, pw_at C'.2.2.2.2.1 C'.2.2.2.2.2.2 t hH hS hU hW⟩⟩ rfl hn hl.1 hst (lv_room hc) hd hr
/-- the same, of nest mates (private there) -/
theorem yb_N {R : Room} {s : State} {args : Array Value} {host : String} (yb : yb_ y bytes mL rt n) (hw : Cond.methodLinkNest own index y host ∈ NWL) (hE : ∀ w ∈ NWL, va_Nw w s) (ht : ∀ w ∈ TBL, w.before args s = true) (hR : fr2 + 1 ≤ R.frames ∧ 8 + (mL + 11) + lo2 ≤ R.locals) : va_CN R s args own index y host bytes mL rt TBL (rm_ fr2 lo2 σ τ) (nx_ τ - nx_ σ) (sl_ τ - sl_ σ) n := by
  refine ⟨⟨rfl, rfl, hR.1, hR.2, pay_in ht TBL_in, yb.1⟩, ht _ yb.1, ht _ yb.2.1, yb.2.2.1, fun sig h => ?_, va_Nw.use rfl (hE _ hw)⟩
  have h2 := yb.2.2.2
  rw [h] at h2
  exact (Option.some.inj h2).symm
theorem v_callSN {host : String} (hM : ct_ l D cy ka y fr2 lo2 As σ rv τ) (yb : yb_ y bytes mL rt n) (hw : Cond.methodLinkNest own index y host ∈ NWL) (hs : Cond.static y ∈ TBL) (hn : As.length = n) (hR : fr2 + 1 ≤ fr ∧ 8 + (mL + 11) + lo2 ≤ lo) (hst : st = As.reverse ++ rest) (hc : (rest.map fun v => v.category).sum ≤ 8) (hd : decode cc pc = .ok (.invokestatic index, 3)) (k : v_ l D cy ka cc own maxL ret nm fr lo Qf σ0 z τ (pc + 3) L (rv.toList ++ rest)) : v_ l D cy ka cc own maxL ret nm fr lo Qf σ0 z σ pc L st := by
  refine v_behind hM.1 (fun t p e s m args below meth c C' ls hl H locs hH hS hr => ⟨As.toArray, ?_⟩) k
  exact va_runSN (As := As) (rest := rest) C'.1 hM.2 ⟨yb_N yb hw C'.2.2.2.2.2.2.1 C'.1.2.2.2.2 hR, C'.1.2.2.2.2 _ hs, trivial⟩ ⟨pw_blind, fun U hU hW => ⟨rfl, pw_at C'.2.2.2.2.1 C'.2.2.2.2.2.2 t hH hS hU hW⟩⟩ rfl hn hl.1 hst (lv_room hc) hd hr
theorem v_callVN {host : String} {ci : Nat} {T : u_T} {N : Nat} {ty : Nat → FieldType} (cb : cb_ ci C T N ty) (hk : kd_ σ b = ci + 1) (hM : ct_ l D cy ka y fr2 lo2 (va_rf (some b) :: As) σ rv τ) (yb : yb_ y bytes mL rt n) (hw : Cond.methodLinkNest own index y host ∈ NWL) (hi : Cond.instanceMethod y ∈ TBL) (hs : Cond.selects C y y ∈ TBL) (hn : As.length = n) (hR : fr2 + 1 ≤ fr ∧ 8 + (mL + 11) + lo2 ≤ lo) (hst : st = As.reverse ++ va_rf (some b) :: rest) (hc : (rest.map fun v => v.category).sum ≤ 8) (hd : decode cc pc = .ok (.invokevirtual index, 3)) (k : v_ l D cy ka cc own maxL ret nm fr lo Qf σ0 z τ (pc + 3) L (rv.toList ++ rest)) : v_ l D cy ka cc own maxL ret nm fr lo Qf σ0 z σ pc L st := by
  refine v_behind hM.1 (fun t p e s m args below meth c C' ls hl H locs hH hS hr => ⟨(Value.ref b :: As).toArray, ?_⟩) k
  obtain ⟨q0, hq⟩ := hp_at hH hk
  rw [en_obj hk cb.2.2.1] at hq
  exact va_runVN (As := As) (rest := rest) C'.1 hM.2 ⟨yb_N yb hw C'.2.2.2.2.2.2.1 C'.1.2.2.2.2 hR, C'.1.2.2.2.2 _ hi, C'.1.2.2.2.2 _ hs⟩ ⟨pw_blind, va_recv C'.2.2.2.2.1 hH.1 cb.1 hq, fun U hU hW => ⟨rfl, pw_at C'.2.2.2.2.1 C'.2.2.2.2.2.2 t hH hS hU hW⟩⟩ rfl hn hl.1 hst (lv_room hc) hd hr
theorem v_callIN {host : String} (hM : ct_ l D cy ka y fr2 lo2 (va_rf (some b) :: As) σ none τ) (yb : yb_ y bytes mL none n) (hw : Cond.methodLinkNest own index y host ∈ NWL) (hi : Cond.instanceMethod y ∈ TBL) (hy : y.name = "<init>") (hn : As.length = n) (hR : fr2 + 1 ≤ fr ∧ 8 + (mL + 11) + lo2 ≤ lo) (hst : st = As.reverse ++ va_rf (some b) :: rest) (hc : (rest.map fun v => v.category).sum ≤ 8) (hd : decode cc pc = .ok (.invokespecial index, 3)) (k : v_ l D cy ka cc own maxL ret nm fr lo Qf σ0 z τ (pc + 3) L rest) : v_ l D cy ka cc own maxL ret nm fr lo Qf σ0 z σ pc L st := by
  refine v_behind (rv := none) hM.1 (fun t p e s m args below meth c C' ls hl H locs hH hS hr => ⟨(Value.ref b :: As).toArray, ?_⟩) k
  exact va_runIN (As := As) (rest := rest) C'.1 hM.2 ⟨yb_N yb hw C'.2.2.2.2.2.2.1 C'.1.2.2.2.2 hR, hy, C'.1.2.2.2.2 _ hi⟩ ⟨pw_blind, fun U hU hW => ⟨rfl, pw_at C'.2.2.2.2.1 C'.2.2.2.2.2.2 t hH hS hU hW⟩⟩ rfl hn hl.1 hst (lv_room hc) hd hr
/-- Object's constructor -/
theorem v_objInit {idx : Nat} (hw : Cond.methodLink own idx Lib.objectInit ∈ TBL) (hi : Cond.instanceMethod Lib.objectInit ∈ TBL) (hcw : Cond.code Lib.objectInit ⟨#[0xb1]⟩ 1 none ∈ TBL) (hfr : 1 ≤ fr) (hlo : 8 + 12 ≤ lo) (hc : (rest.map fun v => v.category).sum ≤ 8) (hd : decode cc pc = .ok (.invokespecial idx, 3)) (k : v_ l D cy ka cc own maxL ret nm fr lo Qf σ0 z σ (pc + 3) L rest) : v_ l D cy ka cc own maxL ret nm fr lo Qf σ0 z σ pc L (va_rf (some b) :: rest) := by
  refine ⟨k.1, fun t p e s m args below meth c C' ls hl H locs hH hS => ?_⟩
  have hroom := lv_room (m := m) (pc := pc) (ls := ls) (rest := va_rf (some b) :: rest) hc
  exact W.objInit C'.1.1 C'.1.2.1 C'.1.2.2.2.1 (C'.1.2.2.2.2 _ hw) (C'.1.2.2.2.2 _ hi) (C'.1.2.2.2.2 _ hcw) rfl (by rw [C'.1.2.2.1]; exact hl.1) rfl hd hfr (Nat.le_trans (Nat.add_le_add_right hroom 12) hlo) (k.2 t p e s m args below meth c C' ls hl H locs hH hS)
end V8
