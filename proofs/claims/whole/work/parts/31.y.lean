/-! METHODS THAT THROW an object of the typed heap (the reference's own Stop): their contracts, athrow, and a callee's throw that goes on to the caller's caller. -/
def xe_ (z : TH) (q : Nat) : String := if kd_ z q = 16 then RX14 else "java/util/NoSuchElementException"
def xc_ (D : va_G) (cy : Nat → ClassId) (σ z : TH) (q9 : Nat) : Addr → String → State → State → Prop := fun q E st t => q = q9 ∧ E = xe_ z q9 ∧ hp_ D cy z t.heap ∧ va_F (aa_ σ) st t
def qx_ (D : va_G) (cy : Nat → ClassId) (σ0 z : TH) (q9 : Nat) : QF := fun below args s => vy_MQ below (fun _ _ _ _ => False) (xc_ D cy σ0 z q9) args s (nx_ z - nx_ σ0) (sl_ z - sl_ σ0) (aa_ σ0)
def xt_ (l : Launch) (D : va_G) (cy : Nat → ClassId) (ka : Nat → Nat) (y : MethodName) (fr lo : Nat) (av : List Value) (σ : TH) (q9 : Nat) (z : TH) : Prop :=
  tl_ σ z ∧ vy_Met l y TBL (rm_ fr lo σ z) (va_Pc av (pw_ D cy ka σ)) (fun _ _ _ _ => False) (xc_ D cy σ z q9) (nx_ z - nx_ σ) (sl_ z - sl_ σ) (aa_ σ)
/-- either end -/
def qm_ {ρ : Type} (D : va_G) (cy : Nat → ClassId) (σ0 z : TH) (rf : ρ → Option Value) (w : ρ ⊕ Nat) : QF := match w with
  | .inl r => qf_ D cy σ0 z (rf r)
  | .inr q => qx_ D cy σ0 z q
def cm_ {ρ : Type} (l : Launch) (D : va_G) (cy : Nat → ClassId) (ka : Nat → Nat) (y : MethodName) (fr lo : Nat) (av : List Value) (σ : TH) (rf : ρ → Option Value) (w : ρ ⊕ Nat) (z : TH) : Prop := match w with
  | .inl r => ct_ l D cy ka y fr lo av σ (rf r) z
  | .inr q => xt_ l D cy ka y fr lo av σ q z
/-- a call of one that may throw -/
def bx_ {β γ : Type} (x : Option ((β ⊕ Nat) × TH)) (k : β → TH → Option ((γ ⊕ Nat) × TH)) : Option ((γ ⊕ Nat) × TH) := match x with
  | none => none
  | some (.inl r, τ) => k r τ
  | some (.inr q, τ) => some (.inr q, τ)
theorem bx_of {β γ : Type} {x : Option ((β ⊕ Nat) × TH)} {k : β → TH → Option ((γ ⊕ Nat) × TH)} {w : (γ ⊕ Nat) × TH} (h : bx_ x k = some w) : (∃ r τ, x = some (.inl r, τ) ∧ k r τ = some w) ∨ ∃ q τ, x = some (.inr q, τ) ∧ some (.inr q, τ) = some w := by
  match x, h with
  | some (.inl r, τ), h => exact Or.inl ⟨r, τ, rfl, h⟩
  | some (.inr q, τ), h => exact Or.inr ⟨q, τ, rfl, h⟩
/-- a call of one that doesn't throw here -/
def bn_ {α β : Type} (x : Option ((β ⊕ Nat) × TH)) (k : β → TH → Option α) : Option α := match x with
  | some (.inl r, τ) => k r τ
  | _ => none
theorem bn_of {α β : Type} {x : Option ((β ⊕ Nat) × TH)} {k : β → TH → Option α} {w : α} (h : bn_ x k = some w) : ∃ r τ, x = some (.inl r, τ) ∧ k r τ = some w := by
  match x, h with
  | some (.inl r, τ), h => exact ⟨r, τ, rfl, h⟩
theorem x_start {l : Launch} {D : va_G} {cy : Nat → ClassId} {ka : Nat → Nat} {cc : ByteArray} {own : String} {maxL : Nat} {ret : Option FieldType} {nm : String} {fr lo : Nat} {σ z : TH} {q9 : Nat} {y : MethodName} {av : List Value} (hy : plainName y.cls = true) (hcode : Cond.code y cc maxL ret ∈ TBL) (hown : y.cls = own) (hnm : y.name = nm) (hav : (lg_sl av).length ≤ maxL)
    (body : v_ l D cy ka cc own maxL ret nm fr lo (qx_ D cy σ z q9) σ z σ 0 (lv_args 0 av) []) (hnt : (own, nm) ∉ TBM := by decide +kernel) : xt_ l D cy ka y fr lo av σ q9 z := by
  refine ⟨body.1, MetFree.of_bodyS (code := cc) (maxLocals := maxL) (ret := ret) hy ?_ ?_⟩
  · intro args s m h hn
    obtain ⟨meth, c, h1, h2, h3, h4, h5, h6, -, -⟩ := Cond.code_spec hn (atoms_spec (ws := TBL) h _ hcode)
    exact ⟨meth, c, h1, h2, h3, h4, h5, h6⟩
  · intro p e s m args below meth c s₁ B hml hv _
    obtain ⟨rfl, hH, hK, hE⟩ := hv
    have hts := atoms_spec (ws := TBL) B.pre
    have hown' : s.vm.findClass own = some m.cls := by rw [← hown]; exact findClass_of_methodNamed B.named
    have hname : meth.name = nm := by rw [← hnm]; exact (name_of_methodNamed B.named B.method).1
    have htab : c.exceptionTable.toList = [] := by
      obtain ⟨meth9, c9, h1, h2, -, -, -, -, h7, -⟩ := Cond.code_spec B.named (hts _ hcode)
      cases B.method.symm.trans h1
      cases (Stand.of_body B).code.symm.trans h2
      have h8 : c.exceptionTable = #[] := by simpa using h7
      rw [h8]
    have hl := lv_entry av (n := maxL) hav
    have hh0 : s₁.heap = s.heap := by rw [B.state]; rfl
    have h0 : nx_ σ - nx_ σ = 0 := Nat.sub_self _
    have h1 : sl_ σ - sl_ σ = 0 := Nat.sub_self _
    have k := body.2 (tl_rf σ) p e s m av.toArray below meth c ⟨⟨B.exec, B.bytes, hml, hown', hts⟩, B.returns, B.notSynchronized, ⟨hname, htab.trans (tb_no hnt).symm⟩, hK, hH.2.2.1, hE⟩ _ hl s.heap [] hH va_S.rf
    rw [h0, h1, ← lg_entry_eq] at k
    obtain ⟨t, a1, o, b1, b2, b3⟩ := k s₁ hh0 (Stand.of_body B)
    exact ⟨t, o, a1, b1, b2, b3⟩
theorem m_start {ρ : Type} {rf : ρ → Option Value} {w : ρ ⊕ Nat} {l : Launch} {D : va_G} {cy : Nat → ClassId} {ka : Nat → Nat} {cc : ByteArray} {own : String} {maxL : Nat} {ret : Option FieldType} {nm : String} {fr lo : Nat} {σ z : TH} {y : MethodName} {av : List Value} (hy : plainName y.cls = true) (hcode : Cond.code y cc maxL ret ∈ TBL) (hown : y.cls = own) (hnm : y.name = nm) (hav : (lg_sl av).length ≤ maxL)
    (body : v_ l D cy ka cc own maxL ret nm fr lo (qm_ D cy σ z rf w) σ z σ 0 (lv_args 0 av) []) (hnt : (own, nm) ∉ TBM := by decide +kernel) : cm_ l D cy ka y fr lo av σ rf w z := by
  cases w with
  | inl r => exact v_start hy hcode hown hnm hav body hnt
  | inr q => exact x_start hy hcode hown hnm hav body hnt
section V31
variable {l : Launch} {D : va_G} {cy : Nat → ClassId} {ka : Nat → Nat} {cc : ByteArray} {own : String} {maxL : Nat} {ret : Option FieldType} {nm : String} {fr lo : Nat} {σ0 z σ τ : TH} {pc : Nat} {L : List (Nat × Value)} {rest st : List Value}
variable {ρ : Type} {rf : ρ → Option Value} {w : ρ ⊕ Nat} {q : Nat}
theorem hp_stop {s : State} {H : Heap} (hK : va_K D clz (tyz cy) s) (hH : hp_ D cy σ H) (hk : kd_ σ q = 16) : ∃ ce : Cell, H[q]? = some ce ∧ ce.vm = .none ∧ s.vm.findClass RX14 = some ce.cls := by
  obtain ⟨q0, hq⟩ := hp_at hH hk
  rw [en_obj hk cb_15.2.2.1] at hq
  obtain ⟨r', hr', cell, g1, g2, g3, -⟩ := hH.1 q0 _ hq
  exact ⟨cell, g1, g3, by rw [g2]; exact (hK.1 15 _ cb_15.1).2.1⟩
theorem v_athrow (hk : kd_ σ q = 16) (hnt : (own, nm) ∉ TBM) (hf : some ((.inr q : ρ ⊕ Nat), σ) = some (w, z)) (hd : decode cc pc = .ok (.athrow, 1)) : v_ l D cy ka cc own maxL ret nm fr lo (qm_ D cy σ0 z rf w) σ0 z σ pc L (va_rf (some q) :: rest) := by
  cases hf
  refine ⟨tl_rf _, fun t p e s m args below meth c C' ls hl H locs hH hS => ?_⟩
  have htab : c.exceptionTable.toList = [] := C'.2.2.2.1.2.trans (tb_no hnt)
  obtain ⟨ce, g1, g2, g3⟩ := hp_stop C'.2.2.2.2.1 hH hk
  intro T hT X
  obtain ⟨st1, hrun, hend, hW, hsm⟩ := X.athrowLeaves C'.1.1 (g := F0 m pc ls (.ref q :: rest)) rfl rfl rfl (by rw [htab]; intro x hx; cases hx) rfl (by rw [C'.1.2.1]; exact hd) C'.2.2.1
  have hh : (T.setFrames (.throwing q :: below)).heap = H := hT
  exact ⟨_, st1, .threw q, hrun, hend, Or.inr ⟨q, rfl, RX14, ce, locs, ⟨rfl, (if_pos hk).symm, by rw [hh]; exact hH, hS.F hh⟩, by rw [hh]; exact g1, g2, g3, hW, hsm, hS.2.2⟩⟩
/-- a callee's throw goes on -/
theorem v_behindX (hT : tl_ σ τ) (hnt : (own, nm) ∉ TBM) (hf : some ((.inr q : ρ ⊕ Nat), τ) = some (w, z)) (hrun : tl_ σ0 σ → ∀ (p : Program) (e : Env) (s : State) (m : MethodId) (args : Array Value) (below : List Frame) (meth : Method) (c : Code), cx_ p s m args meth c D cy ka cc own maxL ret nm σ0 → ∀ ls : Array Slot, lv_has ls maxL L → ∀ (H : Heap) (locs : List Loc), hp_ D cy σ H → va_S (aa_ σ0) s.heap H locs → (nx_ σ - nx_ σ0 + (nx_ τ - nx_ σ) ≤ nx_ z - nx_ σ0 ∧ sl_ σ - sl_ σ0 + (sl_ τ - sl_ σ) ≤ sl_ z - sl_ σ0) →
      vy_Run p l e (rm_ fr lo σ0 z) s m args below meth c H locs (nx_ σ - nx_ σ0) (sl_ σ - sl_ σ0) (nx_ τ - nx_ σ) (sl_ τ - sl_ σ) (F0 m pc ls st) rest (fun _ _ _ => False) (xc_ D cy σ τ q) (aa_ σ)) : v_ l D cy ka cc own maxL ret nm fr lo (qm_ D cy σ0 z rf w) σ0 z σ pc L st := by
  cases hf
  refine ⟨hT, fun t p e s m args below meth c C' ls hl H locs hH hS => ?_⟩
  have h1 := t.1; have h2 := t.2.1; have h3 := hT.1; have h4 := hT.2.1
  have hr := hrun t p e s m args below meth c C' ls hl H locs hH hS ⟨by omega, by omega⟩
  have htab : c.exceptionTable.toList = [] := C'.2.2.2.1.2.trans (tb_no hnt)
  intro T hTh X
  rcases hr T hTh X with ⟨v, st₀, t', T', L2, h0, X', hL, e1, e2, hv, stp⟩ | ⟨q', st₀, t', T', L2, E, ce, h0, X', hL, e1, e2, ⟨rfl, rfl, hp, hz, hk⟩, hce, hcv, hcl, stp⟩
  · exact absurd hv id
  · rw [h0] at hz hk
    have e3 : nx_ σ - nx_ σ0 + (nx_ z - nx_ σ) = nx_ z - nx_ σ0 := by omega
    have e4 : sl_ σ - sl_ σ0 + (sl_ z - sl_ σ) = sl_ z - sl_ σ0 := by omega
    rw [e3, e4] at X'
    have hS' : va_S (aa_ σ0) s.heap T'.heap (locs ++ L2) := ⟨Nat.le_trans hS.1 (by rw [e1]; exact hz), fun q h1 h2 => by
        rw [e1, hk q (Nat.lt_of_lt_of_le h1 hS.1) (fun z9 => h2 (aa_tl t q z9))]
        exact hS.2.1 q h1 h2, fun q hq => by
        rcases List.mem_append.mp hq with h | h
        · exact hS.2.2 q h
        · exact aa_tl t _ (hL q h)⟩
    have out := vy_out (p := p) (l := l) (e := e) (R := rm_ fr lo σ0 z) (m := m) (args := args) (below := below) (ls := ls) (rest := rest) (pc := pc) (Qc := fun _ _ _ _ => False) (XC := xc_ D cy σ0 z q') (mc := nx_ z - nx_ σ0) (ms := sl_ z - sl_ σ0) (free := aa_ σ0) (H := T'.heap) (c := c) (E := xe_ z q') (by rw [htab]; intro x hx; cases hx) C'.2.2.1 (by rw [e1]; exact hce) hcv hcl (fun t9 ht9 _ => ⟨rfl, rfl, by rw [ht9, e1]; exact hp, hS'.F ht9⟩) hS'.2.2 (Nat.le_refl _) (Nat.le_refl _)
    obtain ⟨t2, a1, b1⟩ := out T' rfl X'
    exact ⟨t2, stp.trans a1, b1⟩
variable {y : MethodName} {bytes : ByteArray} {mL n index fr2 lo2 : Nat} {rt : Option FieldType} {As : List Value} {C : String} {b : Nat}
theorem v_callVX {ci : Nat} {T : u_T} {N : Nat} {ty : Nat → FieldType} (cb : cb_ ci C T N ty) (hk : kd_ σ b = ci + 1) (hM : xt_ l D cy ka y fr2 lo2 (va_rf (some b) :: As) σ q τ) (yb : yb_ y bytes mL rt n) (hw : Cond.methodLink own index y ∈ TBL) (hi : Cond.instanceMethod y ∈ TBL) (hs : Cond.selects C y y ∈ TBL) (hn : As.length = n) (hR : fr2 + 1 ≤ fr ∧ 8 + (mL + 11) + lo2 ≤ lo) (hst : st = As.reverse ++ va_rf (some b) :: rest) (hc : (rest.map fun v => v.category).sum ≤ 8) (hnt : (own, nm) ∉ TBM) (hf : some ((.inr q : ρ ⊕ Nat), τ) = some (w, z)) (hd : decode cc pc = .ok (.invokevirtual index, 3)) : v_ l D cy ka cc own maxL ret nm fr lo (qm_ D cy σ0 z rf w) σ0 z σ pc L st := by
  refine v_behindX (rest := rest) hM.1 hnt hf (fun t p e s m args below meth c C' ls hl H locs hH hS hr => ?_)
  obtain ⟨q0, hq⟩ := hp_at hH hk
  rw [en_obj hk cb.2.2.1] at hq
  exact vy_runV (As := As) (rest := rest) C'.1 hM.2 ⟨yb_B yb hw C'.1.2.2.2.2 hR, C'.1.2.2.2.2 _ hi, C'.1.2.2.2.2 _ hs⟩ ⟨pw_blind, va_recv C'.2.2.2.2.1 hH.1 cb.1 hq, fun U hU hW => ⟨rfl, pw_at C'.2.2.2.2.1 C'.2.2.2.2.2.2 t hH hS hU hW⟩⟩ rfl hn hl.1 hst (lv_room hc) hd hr
theorem v_iretM {x : Int32} {w : Int32 ⊕ Nat} (hf : some ((.inl x : Int32 ⊕ Nat), σ) = some (w, z)) (hd : decode cc pc = .ok (.ireturn, 1)) : v_ l D cy ka cc own maxL (some .int) nm fr lo (qm_ D cy σ0 z (fun r : Int32 => some (.int r)) w) σ0 z σ pc L [.int x] := by
  cases hf
  exact v_iret rfl hd
theorem v_zretM {x : Int32} {w : Int32 ⊕ Nat} {ty : FieldType} (hf : some ((.inl x : Int32 ⊕ Nat), σ) = some (w, z)) (hn : narrow ty (.int x) = .int x) (hd : decode cc pc = .ok (.ireturn, 1)) : v_ l D cy ka cc own maxL (some ty) nm fr lo (qm_ D cy σ0 z (fun r : Int32 => some (.int r)) w) σ0 z σ pc L [.int x] := by
  cases hf
  exact v_zret rfl hn hd
theorem v_vretM {w : Unit ⊕ Nat} (hf : some ((.inl () : Unit ⊕ Nat), σ) = some (w, z)) (hd : decode cc pc = .ok (.return_, 1)) : v_ l D cy ka cc own maxL none nm fr lo (qm_ D cy σ0 z (fun _ : Unit => none) w) σ0 z σ pc L [] := by
  cases hf
  exact v_vret rfl hd
end V31
