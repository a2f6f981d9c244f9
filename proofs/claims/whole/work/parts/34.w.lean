/-! METHODS WITH A TABLE OF HANDLERS: starts, calls of them, a callee's throw caught; and a plain throw of NoSuchElementException. Written by wip/gen/mk34.py (runs and the throw's law: the printed names' own, turned). -/
section V34a
variable {p : Program} {l : Launch} {e : Env} {R : Room} {s : State} {m : MethodId} {args : Array Value} {below : List Frame} {meth : Method} {c : Code} {T : State} {H : Heap} {locs : List Loc} {cells slots : Nat}
abbrev vx_CSW (R : Room) (s : State) (args : Array Value) (own : String) (index : Nat) (y : MethodName) (bytes : ByteArray) (maxL : Nat) (ret : Option FieldType) (hh : List (Nat × Nat × Nat × Nat)) (ws : List Cond) (rm : Room) (mc ms n : Nat) : Prop :=
  (rm.cells = mc ∧ rm.slots = ms ∧ rm.frames + 1 ≤ R.frames ∧ 8 + (maxL + 11) + rm.locals ≤ R.locals ∧ (∀ w ∈ ws, ∀ (a' : Array Value) (U : State), s.WarmedH U.vm → w.before a' U = true) ∧ Cond.codeWith y bytes maxL ret hh ∈ ws) ∧
  (Cond.codeWith y bytes maxL ret hh).before args s = true ∧ (Cond.initialized y.cls).before args s = true ∧ (y.cls ≠ "java/lang/invoke/MethodHandle" ∧ y.cls ≠ "java/lang/invoke/VarHandle") ∧
  (∀ sig, parseMethodDescriptor y.desc = some sig → n = sig.parameters.length) ∧ (Cond.methodLink own index y).before args s = true ∧ (Cond.static y).before args s = true
theorem vx_callSW (X : Stand p l e R s m args below meth c T locs cells slots) (hexec : p.tables.exec = Jvm.exec) {own : String} {index : Nat} {y : MethodName} {bytes : ByteArray} {maxL : Nat} {ret : Option FieldType} {hh : List (Nat × Nat × Nat × Nat)}
    (hown : s.vm.findClass own = some m.cls) (hlink : (Cond.methodLink own index y).before args s = true) (hstat : (Cond.static y).before args s = true) (hinit : (Cond.initialized y.cls).before args s = true)
    (hcode : (Cond.codeWith y bytes maxL ret hh).before args s = true) (hy : y.cls ≠ "java/lang/invoke/MethodHandle" ∧ y.cls ≠ "java/lang/invoke/VarHandle")
    {W9 : Nat} {Pre : Pt → Array Value → Prop} {Post : Pt → Array Value → Option Value → Pt → Prop} (hK : Back l R p e below s args y 3 W9 Pre Post)
    {g : JFrame} (hg : g.method = m) (hsize : g.locals.size = c.maxLocals) {argsL rest : List Value} (hlen : ∀ sig, parseMethodDescriptor y.desc = some sig → argsL.length = sig.parameters.length)
    (hstack : g.stack = argsL.reverse ++ rest) (hW : 2 * g.monitorRoom + (rest.map fun v => v.category).sum ≤ W9) (hdg : decode c.code g.pc = .ok (.invokestatic index, 3))
    (hpre : ∀ vm₁, s.WarmedH vm₁ → Pre ⟨T.setVm vm₁, locs, cells, slots⟩ argsL.toArray) :
    ∃ (v : Option Value) (vm₁ : Vm) (B : Pt), s.WarmedH vm₁ ∧ Stand p l e R s m args below meth c B.U B.locs B.cells B.slots ∧ Post ⟨T.setVm vm₁, locs, cells, slots⟩ argsL.toArray v B ∧
      ∀ target, Steps p.tables e below (B.U.setTop { g with pc := g.pc + 3, stack := v.toList ++ rest }) target → Steps p.tables e below (T.setTop g) target := by
  obtain ⟨mk, methM, cM, hnamed, hmethM, -, -, -, -, -, -, hsigM⟩ := Cond.codeWith_spec hcode
  have hstatic : methM.isStatic = true := Cond.static_spec hnamed hmethM hstat
  obtain ⟨kP, hkP, -⟩ := className_of_methodNamed hnamed
  have hinitP : kP.init = .initialized := Cond.initialized_spec (findClass_of_methodNamed hnamed) hkP hinit
  obtain ⟨vm₁, X₁, hstep₁⟩ := X.invokestatic hexec hown hlink hnamed hmethM hstatic hkP hinitP hy (g := g) hg (argsL := argsL) (rest := rest) (hlen _ hsigM) hstack hdg
  obtain ⟨v, B, X', hpost, hsteps⟩ := hK m meth c ⟨T.setVm vm₁, locs, cells, slots⟩ { g with stack := rest } (.invokestatic index) mk argsL.toArray X₁ hg hsize hdg hW (X₁.named hnamed) (hpre vm₁ X₁.warmed)
  exact ⟨v, vm₁, B, X₁.warmed, X', hpost, fun target h => hstep₁ _ fun acts => by rw [doInvoke_state]; exact hsteps.trans h⟩
theorem vx_runSW {y : MethodName} {bytes cc : ByteArray} {maxL nL mc ms n index : Nat} {ret : Option FieldType} {hh : List (Nat × Nat × Nat × Nat)} {ws : List Cond} {rm : Room} {Pc : Array Value → State → Prop} {Qc : Array Value → State → Outcome → State → Prop} {free : Addr → Prop} {Ts : List Cond} {own : String} {As rest : List Value} {g : JFrame}
    (S : CallFix p m c cc nL s args Ts own) (hM : Met l y ws rm Pc Qc mc ms free) (cw : vx_CSW R s args own index y bytes maxL ret hh ws rm mc ms n) (hp : PreS s H Pc As)
    (hg : g.method = m) (hn : As.length = n) (hsize : g.locals.size = nL) (hstack : g.stack = As.reverse ++ rest) (hW : 2 * g.monitorRoom + (rest.map fun v => v.category).sum ≤ 8) (hdg : decode cc g.pc = .ok (.invokestatic index, 3)) (hf : cells + mc ≤ R.cells ∧ slots + ms ≤ R.slots) :
    va_Run p l e R s m args below meth c H locs cells slots mc ms g rest (Qc As.toArray) (free) := by
  obtain ⟨⟨hrc, hrs, hfr, hlo, hws, hcw⟩, hcode, hini, hy, hlen, hl, hstt⟩ := cw
  have hK : Back l R p e below s args y 3 8 (PreOf R mc ms Pc) (PostOf Qc mc ms free) := va_backW (hh := hh) (bytes := bytes) (maxL := maxL) (ret := ret) hM hp.1 hrc hrs hfr hlo hws hcw (fun a' U hW => word_at hW (Or.inl (by first | rfl | simp [Cond.onTables, Cond.keeps, Cond.steady])) hini)
  obtain ⟨hx, hb, hml, ho, -⟩ := S
  intro T hT X
  obtain ⟨v, vm₁, ⟨U', l2, c2, s2⟩, hW₁, X', ⟨g', mk, t, L, e1, e2, hq, h1, hL, h2, h3⟩, st⟩ := vx_callSW X hx (hh := hh) (bytes := bytes) (maxL := maxL) (ret := ret) ho hl hstt hini hcode hy hK hg (hsize.trans hml.symm) (argsL := As) (rest := rest) (fun sig h => hn.trans (hlen sig h)) hstack hW (by rw [hb]; exact hdg)
    (fun vm₁ hW₁ => ⟨hf.1, hf.2, hp.2 (T.setVm vm₁) hT hW₁⟩)
  dsimp only [Pt.U, Pt.locs, Pt.cells, Pt.slots] at X' e1 e2 h1 h2 h3 st
  subst h1; subst h2; subst h3
  exact ⟨v, (T.setVm vm₁).calling g' mk As.toArray, t, U', L, hT, X', hL, e1, e2, hq, st⟩
theorem vx_callVW (X : Stand p l e R s m args below meth c T locs cells slots) (hexec : p.tables.exec = Jvm.exec) {own C : String} {index : Nat} {y : MethodName} {bytes : ByteArray} {maxL : Nat} {ret : Option FieldType} {hh : List (Nat × Nat × Nat × Nat)}
    (hown : s.vm.findClass own = some m.cls) (hlink : (Cond.methodLink own index y).before args s = true) (hinst : (Cond.instanceMethod y).before args s = true) (hsel : (Cond.selects C y y).before args s = true)
    (hcode : (Cond.codeWith y bytes maxL ret hh).before args s = true) (hy : y.cls ≠ "java/lang/invoke/MethodHandle" ∧ y.cls ≠ "java/lang/invoke/VarHandle")
    {W9 : Nat} {Pre : Pt → Array Value → Prop} {Post : Pt → Array Value → Option Value → Pt → Prop} (hK : Back l R p e below s args y 3 W9 Pre Post)
    {b : Addr} {cellB : Cell} (hcell : T.heap[b]? = some cellB) (hobj : cellB.vm.isStatics = false) (hcls : s.vm.findClass C = some cellB.cls)
    {g : JFrame} (hg : g.method = m) (hsize : g.locals.size = c.maxLocals) {argsL rest : List Value} (hlen : ∀ sig, parseMethodDescriptor y.desc = some sig → argsL.length = sig.parameters.length)
    (hstack : g.stack = argsL.reverse ++ .ref b :: rest) (hW : 2 * g.monitorRoom + (rest.map fun v => v.category).sum ≤ W9) (hdg : decode c.code g.pc = .ok (.invokevirtual index, 3))
    (hpre : ∀ vm₁, s.WarmedH vm₁ → Pre ⟨T.setVm vm₁, locs, cells, slots⟩ (Value.ref b :: argsL).toArray) :
    ∃ (v : Option Value) (vm₁ : Vm) (B : Pt), s.WarmedH vm₁ ∧ Stand p l e R s m args below meth c B.U B.locs B.cells B.slots ∧ Post ⟨T.setVm vm₁, locs, cells, slots⟩ (Value.ref b :: argsL).toArray v B ∧
      ∀ target, Steps p.tables e below (B.U.setTop { g with pc := g.pc + 3, stack := v.toList ++ rest }) target → Steps p.tables e below (T.setTop g) target := by
  obtain ⟨mk, methM, hnamed, hmethM, hstM, habM⟩ := Cond.instanceMethod_spec hinst
  obtain ⟨m8, methM', cM, hn8, hmethM', -, -, -, -, -, -, hsigM⟩ := Cond.codeWith_spec hcode
  cases Option.some.inj (hn8.symm.trans hnamed)
  cases hmethM.symm.trans hmethM'
  obtain ⟨c2, r2, m2, q1, q2, q3, q4, kP, hkP, hkPi⟩ := Cond.selects_spec hsel
  cases hcls.symm.trans q1
  cases (State.methodFound?_of_named hnamed hy).symm.trans q2
  cases hnamed.symm.trans q3
  have hselP : selectMethod e.platform s.vm cellB.cls mk = .method mk := by rw [Launch.admits_selectMethod X.admits]; exact q4
  obtain ⟨vm₁, X₁, hstep₁⟩ := X.invokevirtual hexec hown hlink hnamed hmethM hstM hkP hkPi hy (a := b) (cell := cellB) hcell
    (fun z h => by rw [h] at hobj; cases hobj) hselP hmethM habM hkP hkPi (g := g) hg (argsL := argsL) (rest := rest) (hlen _ hsigM) hstack hdg
  obtain ⟨v, B, X', hpost, hsteps⟩ := hK m meth c ⟨T.setVm vm₁, locs, cells, slots⟩ { g with stack := rest } (.invokevirtual index) mk (Value.ref b :: argsL).toArray X₁ hg hsize hdg hW (X₁.named hnamed) (hpre vm₁ X₁.warmed)
  exact ⟨v, vm₁, B, X₁.warmed, X', hpost, fun target h => hstep₁ _ fun acts => by rw [doInvoke_state]; exact hsteps.trans h⟩
abbrev vx_CVW (R : Room) (s : State) (args : Array Value) (own C : String) (index : Nat) (y : MethodName) (bytes : ByteArray) (maxL : Nat) (ret : Option FieldType) (hh : List (Nat × Nat × Nat × Nat)) (ws : List Cond) (rm : Room) (mc ms n : Nat) : Prop :=
  (rm.cells = mc ∧ rm.slots = ms ∧ rm.frames + 1 ≤ R.frames ∧ 8 + (maxL + 11) + rm.locals ≤ R.locals ∧ (∀ w ∈ ws, ∀ (a' : Array Value) (U : State), s.WarmedH U.vm → w.before a' U = true) ∧ Cond.codeWith y bytes maxL ret hh ∈ ws) ∧
  (Cond.codeWith y bytes maxL ret hh).before args s = true ∧ (Cond.initialized y.cls).before args s = true ∧ (y.cls ≠ "java/lang/invoke/MethodHandle" ∧ y.cls ≠ "java/lang/invoke/VarHandle") ∧
  (∀ sig, parseMethodDescriptor y.desc = some sig → n = sig.parameters.length) ∧ (Cond.methodLink own index y).before args s = true ∧ (Cond.instanceMethod y).before args s = true ∧ (Cond.selects C y y).before args s = true
theorem vx_runVW {y : MethodName} {bytes cc : ByteArray} {maxL nL mc ms n index : Nat} {ret : Option FieldType} {hh : List (Nat × Nat × Nat × Nat)} {ws : List Cond} {rm : Room} {Pc : Array Value → State → Prop} {Qc : Array Value → State → Outcome → State → Prop} {free : Addr → Prop} {Ts : List Cond} {own C : String} {b : Addr} {As rest : List Value} {g : JFrame}
    (S : CallFix p m c cc nL s args Ts own) (hM : Met l y ws rm Pc Qc mc ms free) (cw : vx_CVW R s args own C index y bytes maxL ret hh ws rm mc ms n) (hp : PreV s H C b Pc As)
    (hg : g.method = m) (hn : As.length = n) (hsize : g.locals.size = nL) (hstack : g.stack = As.reverse ++ .ref b :: rest) (hW : 2 * g.monitorRoom + (rest.map fun v => v.category).sum ≤ 8) (hdg : decode cc g.pc = .ok (.invokevirtual index, 3)) (hf : cells + mc ≤ R.cells ∧ slots + ms ≤ R.slots) :
    va_Run p l e R s m args below meth c H locs cells slots mc ms g rest (Qc (Value.ref b :: As).toArray) free := by
  obtain ⟨⟨hrc, hrs, hfr, hlo, hws, hcw⟩, hcode, hini, hy, hlen, hl, hin, hse⟩ := cw
  have hK : Back l R p e below s args y 3 8 (PreOf R mc ms Pc) (PostOf Qc mc ms free) := va_backW (hh := hh) (bytes := bytes) (maxL := maxL) (ret := ret) hM hp.1 hrc hrs hfr hlo hws hcw (fun a' U hW => word_at hW (Or.inl (by first | rfl | simp [Cond.onTables, Cond.keeps, Cond.steady])) hini)
  obtain ⟨hx, hb, hml, ho, -⟩ := S
  obtain ⟨-, ⟨cellB, hcB, hoB, hclB⟩, hPc⟩ := hp
  intro T hT X
  obtain ⟨v, vm₁, ⟨U', l2, c2, s2⟩, hW₁, X', ⟨g', mk, t, L, e1, e2, hq, h1, hL, h2, h3⟩, st⟩ := vx_callVW X hx (C := C) (hh := hh) (bytes := bytes) (maxL := maxL) (ret := ret) ho hl hin hse hcode hy hK (by rw [hT]; exact hcB) hoB hclB hg (hsize.trans hml.symm) (argsL := As) (rest := rest) (fun sig h => hn.trans (hlen sig h)) hstack hW (by rw [hb]; exact hdg)
    (fun vm₁ hW₁ => ⟨hf.1, hf.2, hPc (T.setVm vm₁) hT hW₁⟩)
  dsimp only [Pt.U, Pt.locs, Pt.cells, Pt.slots] at X' e1 e2 h1 h2 h3 st
  subst h1; subst h2; subst h3
  exact ⟨v, (T.setVm vm₁).calling g' mk (Value.ref b :: As).toArray, t, U', L, hT, X', hL, e1, e2, hq, st⟩
end V34a
section V34b
variable {p : Program} {l : Launch} {e : Env} {R : Room} {s : State} {m : MethodId} {args : Array Value} {below : List Frame} {meth : Method} {c : Code} {H : Heap} {locs : List Loc} {cells slots : Nat} {ls : Array Slot} {rest : List Value} {Qc : Array Value → State → Outcome → State → Prop} {XC : Addr → String → State → State → Prop} {free : Addr → Prop}
def vx_no (w : Cond) : Bool := decide (w ≠ .isRef (.static Bundle.tN "UNASSIGNED_STACK" Bundle.steD)) && decide (w ≠ .isRef (.static Bundle.tN "SUPPRESSED_SENTINEL" Bundle.listD)) && decide (w ≠ .laysStatic Bundle.tN "UNASSIGNED_STACK" Bundle.steD) && decide (w ≠ .laysStatic Bundle.tN "SUPPRESSED_SENTINEL" Bundle.listD)
def vx_at0 (own : String) (ic : Nat) (X : String) (names : List String) : List Cond := (Bundle.ownAtoms0 own ic X names).filter vx_no
def vx_ot (w : Cond) : Bool := w.onTables || goodWord w
theorem vx_ot_at {args a' : Array Value} {s U : State} {w : Cond} (hW : s.WarmedH U.vm) (hvm : s.vm = U.vm) (hg : vx_ot w = true) (h : w.before args s = true) : w.before a' U = true := by
  simp only [vx_ot, Bool.or_eq_true] at hg
  rcases hg with hg | hg
  · exact va_tabs hg hvm h
  · exact word_at hW (good_of_word hg) h
theorem vx_own {args : Array Value} {s : State} {L : List Cond} (h1 : ∀ w ∈ L.filter vx_no, w.before args s = true)
    (hU : (Cond.isRef (.static Bundle.tN "UNASSIGNED_STACK" Bundle.steD)).before args s = true) (hN : (Cond.isRef (.static Bundle.tN "SUPPRESSED_SENTINEL" Bundle.listD)).before args s = true)
    (lU : (Cond.laysStatic Bundle.tN "UNASSIGNED_STACK" Bundle.steD).before args s = true) (lN : (Cond.laysStatic Bundle.tN "SUPPRESSED_SENTINEL" Bundle.listD).before args s = true) : ∀ w ∈ L, w.before args s = true := by
  intro w hw
  by_cases e1 : w = .isRef (.static Bundle.tN "UNASSIGNED_STACK" Bundle.steD)
  · rw [e1]; exact hU
  · by_cases e2 : w = .isRef (.static Bundle.tN "SUPPRESSED_SENTINEL" Bundle.listD)
    · rw [e2]; exact hN
    · by_cases e3 : w = .laysStatic Bundle.tN "UNASSIGNED_STACK" Bundle.steD
      · rw [e3]; exact lU
      · by_cases e4 : w = .laysStatic Bundle.tN "SUPPRESSED_SENTINEL" Bundle.listD
        · rw [e4]; exact lN
        · exact h1 w (List.mem_filter.mpr ⟨hw, by unfold vx_no; rw [decide_eq_true e1, decide_eq_true e2, decide_eq_true e3, decide_eq_true e4]; rfl⟩)
theorem vx_isRef {C n d : String} {v : Value} {A : Nat → Prop} {s : State} {args : Array Value} (h : va_Z C n d v A s s.heap) (hv : v.isRef = true) : (Cond.isRef (.static C n d)).before args s = true := by
  obtain ⟨cf, kf, fi, f, a, cell, h1, h2, h3, h4, h5, h6, h7, -⟩ := h
  have he : (Term.static C n d).eval args s none [] s = some v := by
    simp [Term.eval, State.fieldNamed?, h1, h2, h4, h5, h6, h7]
  simp only [Cond.before, Cond.holds, Cond.value, he]
  cases v <;> simp_all [Value.isRef]
theorem vx_isRefq {C n d : String} {A : Nat → Prop} {s : State} {args : Array Value} (h : va_Zq C n d A s s.heap) : (Cond.isRef (.static C n d)).before args s = true := by
  rcases h with h | ⟨t, h⟩
  · exact vx_isRef h rfl
  · exact vx_isRef h rfl
theorem vx_frame {U : State} {k n : Nat} (h : s.sameButNew ({ U with vm := s.vm } : State) locs k n) : s.heap.size ≤ U.heap.size ∧ ∀ q : Nat, q < s.heap.size → (∀ z ∈ locs, z.base ≠ q) → U.heap[q]? = s.heap[q]? := by
  obtain ⟨-, h2, -, -, -, h6⟩ := h
  refine ⟨h2, fun q hq hz => ?_⟩
  obtain ⟨c9, e1, e2, e3, e4⟩ := h6 q _ (Array.getElem?_eq_getElem hq)
  have hs : c9.slots = (s.heap[q]).slots := Array.ext_getElem? fun i => e4 i fun hm => hz _ hm rfl
  have h9 : c9 = s.heap[q] := by
    rw [hs] at e2
    exact e2
  have e5 : U.heap[q]? = some c9 := e1
  rw [e5, h9, Array.getElem?_eq_getElem hq]
theorem vx_rebase {T : State} (X : Stand p l e R s m args below meth c T locs cells slots) {R' : Room} (hf : R'.frames ≤ R.frames) (hl : R'.locals ≤ R.locals) (hc : cells + R'.cells ≤ R.cells) (hs : slots + R'.slots ≤ R.slots) :
    Stand p l e R' ((T.setVm s.vm).setFrames (.invoking m args :: below)) m args below meth c T [] 0 0 := by
  have htop : (T.setVm s.vm).topJava?.isSome := X.here.top
  have hF : ((T.setVm s.vm).setFrames (.invoking m args :: below)).frames = .invoking m args :: below := State.frames_setFrames _ (State.cur_lt_of_top htop)
  obtain ⟨g₀, hg0⟩ := Option.isSome_iff_exists.mp htop
  obtain ⟨r, hr⟩ := State.topJava?_eq_some.mp hg0
  have hl9 : e.platform.stackLimits (T.setVm s.vm).me = e.platform.stackLimits s.me := X.limits
  have hb9 : (T.setVm s.vm).me.stackBytes = s.me.stackBytes := X.bytes
  refine ⟨X.admits, X.cas, X.clock, hF, ?_, X.hears, X.method, X.code, X.here, X.tail, X.warmed, ?_, ?_, ?_⟩
  · have h := X.room
    have hU : ((T.setVm s.vm).setFrames (.invoking m args :: below)).localsInUse = s.localsInUse := by
      rw [State.localsInUse_invoking hF (meth := meth) (c := c) X.method X.code, State.localsInUse_invoking X.frames X.method X.code]
    simp only [State.hasRoom, Bool.and_eq_true, decide_eq_true_eq] at h ⊢
    obtain ⟨⟨⟨⟨h1, h2, h3, h4, h5, h6⟩, h7⟩, h8⟩, h9⟩ := h
    rw [X.frames, List.length_cons] at h2 h3
    have q1 := X.heapSize
    have q2 := X.used
    simp only [hF, hU, List.length_cons, State.stackLimits_setFrames, State.stackBytes_setFrames, hl9, hb9]
    refine ⟨⟨⟨⟨by omega, by omega, by omega, by omega, by omega, h6⟩, ?_⟩, ?_⟩, X.book⟩
    · show T.heap.size + R'.cells ≤ e.platform.maxCells
      omega
    · show T.slotsUsed + R'.slots ≤ e.platform.maxSlots
      omega
  · rw [State.stackLimits_setFrames]; rfl
  · rw [State.stackBytes_setFrames]; rfl
  · refine ⟨?_, Nat.le_refl _, Nat.le_refl _, ?_, ?_, fun a c9 h9 => ⟨c9, h9, rfl, rfl, fun _ _ => rfl⟩⟩
    · obtain ⟨t, ht, -⟩ := State.frames_cons hr
      show T.setVm s.vm = { ((T.setVm s.vm).setFrames (.invoking m args :: below)).setFrames (T.setVm s.vm).frames with heap := T.heap, slotsUsed := T.slotsUsed }
      rw [State.setFrames_setFrames, State.setFrames_self ht]
      rfl
    · show T.slotsUsed = T.slotsUsed + ((T.heap.toList.drop T.heap.size).map (·.slots.size)).sum
      rw [List.drop_eq_nil_of_le (Nat.le_of_eq Array.length_toList)]
      rfl
    · show ((T.heap.toList.drop T.heap.size).map (·.slots.size)).sum ≤ 0
      rw [List.drop_eq_nil_of_le (Nat.le_of_eq Array.length_toList)]
      exact Nat.le_refl _
theorem vy_throw0 {cc : ByteArray} {pc : Nat} (hexec : p.tables.exec = Jvm.exec) (hb : c.code = cc) (hl : l.stackTraces = false) {own cls : String} {names : List String} {ik ic mc ms : Nat} {A : Nat → Prop}
    (hown : s.vm.findClass own = some m.cls) (hcls : Bundle.fit cls = true) (hnames : ∀ n ∈ names, Bundle.fit n = true)
    (hk : (Cond.classLink own ik cls).before args s = true) (hini : (Cond.initialized cls).before args s = true) (hat : ∀ w ∈ vx_at0 own ic cls names, w.before args s = true)
    (hgood : ∀ w ∈ Cond.classLink own ik cls :: Cond.initialized cls :: vx_at0 own ic cls names, vx_ot w = true)
    (hU : vx_Zq Bundle.tN "UNASSIGNED_STACK" Bundle.steD A s s.heap) (hN : vx_Zq Bundle.tN "SUPPRESSED_SENTINEL" Bundle.listD A s s.heap) (hS : va_S A s.heap H locs) (hsize : ls.size = c.maxLocals)
    (d0 : decode cc pc = .ok (.new ik, 3)) (d3 : decode cc (pc + 3) = .ok (.dup, 1)) (d4 : decode cc (pc + 4) = .ok (.invokespecial ic, 3)) (d7 : decode cc (pc + 7) = .ok (.athrow, 1))
    (hout : ∀ x ∈ c.exceptionTable.toList, covers x (pc + 7) = false)
    (hRframes : names.length + 3 < R.frames) (hRlocals : (rest.map fun v => v.category).sum + (13 * (names.length + 1) + 42) ≤ R.locals) (hRcells : cells + 1 ≤ R.cells) (hRslots : slots + 6 ≤ R.slots) (hlocks : meth.locks = false)
    (hx : ∀ t : State, s.vm.Alike t.vm → t.heap.size = H.size + 1 → (∀ q : Nat, q < H.size → t.heap[q]? = H[q]?) → XC H.size cls s t)
    (hf : ∀ z ∈ locs, free z.base) (hc : cells + 1 ≤ mc) (hs : slots + 6 ≤ ms) :
    W p l e R s m args below meth c H locs cells slots (vy_MQ below Qc XC args s mc ms free) (F0 m pc ls rest) := by
  intro T hT X
  have htr : e.platform.stackTraces = false := (show e.platform.stackTraces = l.stackTraces by rw [X.admits.platform]).trans hl
  have Y := vx_rebase X (R' := { frames := R.frames, locals := R.locals, cells := 1, slots := 6 }) (Nat.le_refl _) (Nat.le_refl _) hRcells hRslots
  obtain ⟨s', hA⟩ : ∃ z, z = (T.setVm s.vm).setFrames (.invoking m args :: below) := ⟨_, rfl⟩
  rw [← hA] at Y
  have hvm : s'.vm = s.vm := by rw [hA]; rfl
  have hhp : s'.heap = H := by rw [hA]; exact hT
  have hW0 : s.WarmedH s'.vm := by rw [hvm]; exact State.WarmedH.refl s
  have hat' : ∀ w ∈ vx_at0 own ic cls names, w.before args s' = true := fun w hw => vx_ot_at hW0 hvm.symm (hgood w (List.mem_cons_of_mem _ (List.mem_cons_of_mem _ hw))) (hat w hw)
  have hk' : (Cond.classLink own ik cls).before args s' = true := vx_ot_at hW0 hvm.symm (hgood _ List.mem_cons_self) hk
  have hini' : (Cond.initialized cls).before args s' = true := vx_ot_at hW0 hvm.symm (hgood _ (List.mem_cons_of_mem _ List.mem_cons_self)) hini
  have hU' : vx_Zq Bundle.tN "UNASSIGNED_STACK" Bundle.steD A s' s'.heap := by rw [hhp]; exact vx_Zq.moved hW0.alike (hU.kept hS.2.1)
  have hN' : vx_Zq Bundle.tN "SUPPRESSED_SENTINEL" Bundle.listD A s' s'.heap := by rw [hhp]; exact vx_Zq.moved hW0.alike (hN.kept hS.2.1)
  have h : ∀ w ∈ Bundle.ownAtoms0 own ic cls names, w.before args s' = true := vx_own hat' (vx_isRefq hU'.1) (vx_isRefq hN'.1) hU'.2.word hN'.2.word
  have hown' : s'.vm.findClass own = some m.cls := by rw [hvm]; exact hown
  have hins : (Cond.instantiable cls 6).before args s' = true := h _ (by simp [Bundle.ownAtoms0])
  obtain ⟨vm₁, cX, kX, hfX, hkX, -, -, X₁, st1⟩ := Y.newCold hexec (own := own) (C := cls) (index := ik) (n := 6) hown' hk' hins hini'
    (g := F0 m pc ls rest) rfl (by rw [hb]; exact d0) (Nat.le_refl _) (Nat.le_refl _)
  generalize hT1 : (T.setVm vm₁).pushCell { cls := cX, slots := kX.instanceTypes.map defaultValue, vm := .none } = T1 at X₁ st1
  have hcat : (Value.ref T.heap.size).category = 1 := rfl
  have hcellA : T1.heap[T.heap.size]? = some (freshCell cX kX) := by rw [← hT1]; exact State.heap_pushCell_size _ _
  have d3' : decode c.code (pc + 3) = .ok (.dup, 1) := by rw [hb]; exact d3
  obtain ⟨U, hsteps, hrun, hend, hW, hsame, ce, hce, hO⟩ := X₁.ctorThrow0 hexec htr (own := own) (cls := cls) (names := names) (ic := ic) hown' hcls hnames h (fun x hx => nomatch hx) hfX hkX hcellA (by rw [hhp, hT]; exact Nat.le_refl _)
    (g := { method := m, pc := pc + 4, locals := ls, stack := .ref T.heap.size :: .ref T.heap.size :: rest, locked := none }) rfl hsize rfl rfl (rest := rest) rfl
    (by rw [hb]; exact d4) (by rw [hb]; exact d7) hout hRframes (by simp only [List.map_cons, List.sum_cons, hcat]; omega) hlocks
  obtain ⟨f1, f2⟩ := vx_frame hsame
  have f3 : U.heap.size = H.size + 1 := by
    have g1 := hsame.2.2.1
    have g2 := (Array.getElem?_eq_some_iff.mp hce).1
    rw [hhp] at g1
    rw [hT] at g2
    exact Nat.le_antisymm g1 g2
  rw [hhp] at f1 f2
  have hWs : s.WarmedH U.vm := State.WarmedH.trans hW0 hW
  have hcl : s.vm.findClass cls = some ce.cls := by
    have h9 := hO.cls
    rw [hvm] at h9
    exact h9
  have hall : s.sameButNew ({ U with vm := s.vm } : State) locs mc ms := by
    subst hA
    obtain ⟨e1, e2⟩ := hsame
    rw [State.setFrames_setFrames] at e1
    have h2 : (T.setVm s.vm).sameButNew ({ U with vm := s.vm } : State) [] (0 + 1) (0 + 6) := ⟨e1, e2⟩
    have h3 := X.same.trans h2
    rw [List.append_nil] at h3
    exact h3.mono hc hs
  refine ⟨U, ?_, .threw T.heap.size, hrun, hend, Or.inr ⟨T.heap.size, rfl, cls, ce, locs, by rw [hT]; exact hx U hWs.alike f3 (fun q hq => f2 q hq (fun z hz => nomatch hz)), hce, hO.vm, hcl, hWs, hall, hf⟩⟩
  refine st1 _ ?_
  show Steps p.tables e below (T1.setTop { method := m, pc := pc + 3, locals := ls, stack := .ref T.heap.size :: rest, locked := none }) _
  jvm_step X₁.here [X₁.here.top, hexec, d3', Value.category]
  exact hsteps
end V34b
def yw_ (y : MethodName) (bytes : ByteArray) (maxL : Nat) (ret : Option FieldType) (hh : List (Nat × Nat × Nat × Nat)) (n : Nat) : Prop := Cond.codeWith y bytes maxL ret hh ∈ TBL ∧ Cond.initialized y.cls ∈ TBL ∧ (y.cls ≠ "java/lang/invoke/MethodHandle" ∧ y.cls ≠ "java/lang/invoke/VarHandle") ∧ (parseMethodDescriptor y.desc).map (fun d => d.parameters.length) = some n
/-- the start of a method with a table -/
theorem w_start {l : Launch} {D : va_G} {cy : Nat → ClassId} {ka : Nat → Nat} {cc : ByteArray} {own : String} {maxL : Nat} {ret : Option FieldType} {hh : List (Nat × Nat × Nat × Nat)} {nm : String} {fr lo : Nat} {σ z : TH} {rv : Option Value} {y : MethodName} {av : List Value} (hy : plainName y.cls = true) (hcode : Cond.codeWith y cc maxL ret hh ∈ TBL) (hown : y.cls = own) (hnm : y.name = nm) (hav : (lg_sl av).length ≤ maxL) (htb : tableOf hh = tb_ own nm)
    (body : v_ l D cy ka cc own maxL ret nm fr lo (qf_ D cy σ z rv) σ z σ 0 (lv_args 0 av) []) : ct_ l D cy ka y fr lo av σ rv z := by
  refine ⟨body.1, MetFree.of_bodyS (code := cc) (maxLocals := maxL) (ret := ret) hy ?_ ?_⟩
  · intro args s m h hn
    obtain ⟨m9, meth, c, hn9, h1, h2, h3, h4, -, h5, h6, -⟩ := Cond.codeWith_spec (atoms_spec (ws := TBL) h _ hcode)
    cases hn.symm.trans hn9
    exact ⟨meth, c, h1, h2, h3, h4, h5, h6⟩
  · intro p e s m args below meth c s₁ B hml hv _
    obtain ⟨rfl, hH, hK, hE⟩ := hv
    have hts := atoms_spec (ws := TBL) B.pre
    have hown' : s.vm.findClass own = some m.cls := by rw [← hown]; exact findClass_of_methodNamed B.named
    have hname : meth.name = nm := by rw [← hnm]; exact (name_of_methodNamed B.named B.method).1
    have htab : c.exceptionTable.toList = tableOf hh := by
      obtain ⟨m9, meth9, c9, hn9, h1, h2, -, -, h6, -⟩ := Cond.codeWith_spec (hts _ hcode)
      cases Option.some.inj (hn9.symm.trans B.named)
      cases Option.some.inj (h1.symm.trans B.method)
      cases Option.some.inj (h2.symm.trans (Stand.of_body B).code)
      rw [← h6, table_eq]
    have hl := lv_entry av (n := maxL) hav
    have hh0 : s₁.heap = s.heap := by rw [B.state]; rfl
    have h0 : nx_ σ - nx_ σ = 0 := Nat.sub_self _
    have h1 : sl_ σ - sl_ σ = 0 := Nat.sub_self _
    have k := body.2 (tl_rf σ) p e s m av.toArray below meth c ⟨⟨B.exec, B.bytes, hml, hown', hts⟩, B.returns, B.notSynchronized, ⟨hname, htab.trans htb⟩, hK, hH.2.2.1, hE⟩ _ hl s.heap [] hH va_S.rf
    rw [h0, h1, ← lg_entry_eq] at k
    obtain ⟨t, a1, o, b1, b2, b3⟩ := k s₁ hh0 (Stand.of_body B)
    exact ⟨t, o, a1, b1, b2, b3⟩
theorem as_self (vm : Vm) (c : ClassId) : vm.assignable c c = true := by
  show vm.assignableAux _ c c = true
  unfold Vm.assignableAux
  simp
section V34
variable {l : Launch} {D : va_G} {cy : Nat → ClassId} {ka : Nat → Nat} {cc : ByteArray} {own : String} {maxL : Nat} {ret : Option FieldType} {nm : String} {fr lo : Nat} {Qf : QF} {σ0 z σ τ : TH} {pc : Nat} {L : List (Nat × Value)} {rest st : List Value} {rv : Option Value} {q : Nat}
variable {y : MethodName} {bytes : ByteArray} {mL n index fr2 lo2 : Nat} {rt : Option FieldType} {As : List Value} {C : String} {b : Nat} {hh : List (Nat × Nat × Nat × Nat)}
/-- calls of one with a table -/
theorem v_callSW (hM : ct_ l D cy ka y fr2 lo2 As σ rv τ) (yb : yw_ y bytes mL rt hh n) (hw : Cond.methodLink own index y ∈ TBL) (hs : Cond.static y ∈ TBL) (hn : As.length = n) (hR : fr2 + 1 ≤ fr ∧ 8 + (mL + 11) + lo2 ≤ lo) (hst : st = As.reverse ++ rest) (hc : (rest.map fun v => v.category).sum ≤ 8) (hd : decode cc pc = .ok (.invokestatic index, 3)) (k : v_ l D cy ka cc own maxL ret nm fr lo Qf σ0 z τ (pc + 3) L (rv.toList ++ rest)) : v_ l D cy ka cc own maxL ret nm fr lo Qf σ0 z σ pc L st := by
  refine v_behind hM.1 (fun t p e s m args below meth c C' ls hl H locs hH hS hr => ⟨As.toArray, ?_⟩) k
  have ht := C'.1.2.2.2.2
  have hlen : ∀ sig, parseMethodDescriptor y.desc = some sig → n = sig.parameters.length := fun sig h => by
    have h2 := yb.2.2.2
    rw [h] at h2
    exact (Option.some.inj h2).symm
  exact vx_runSW (As := As) (rest := rest) C'.1 hM.2 ⟨⟨rfl, rfl, hR.1, hR.2, pay_in ht TBL_in, yb.1⟩, ht _ yb.1, ht _ yb.2.1, yb.2.2.1, hlen, ht _ hw, ht _ hs⟩ ⟨pw_blind, fun U hU hW => ⟨rfl, pw_at C'.2.2.2.2.1 C'.2.2.2.2.2.2 t hH hS hU hW⟩⟩ rfl hn hl.1 hst (lv_room hc) hd hr
theorem v_callVW {ci : Nat} {T : u_T} {N : Nat} {ty : Nat → FieldType} (cb : cb_ ci C T N ty) (hk : kd_ σ b = ci + 1) (hM : ct_ l D cy ka y fr2 lo2 (va_rf (some b) :: As) σ rv τ) (yb : yw_ y bytes mL rt hh n) (hw : Cond.methodLink own index y ∈ TBL) (hi : Cond.instanceMethod y ∈ TBL) (hs : Cond.selects C y y ∈ TBL) (hn : As.length = n) (hR : fr2 + 1 ≤ fr ∧ 8 + (mL + 11) + lo2 ≤ lo) (hst : st = As.reverse ++ va_rf (some b) :: rest) (hc : (rest.map fun v => v.category).sum ≤ 8) (hd : decode cc pc = .ok (.invokevirtual index, 3)) (k : v_ l D cy ka cc own maxL ret nm fr lo Qf σ0 z τ (pc + 3) L (rv.toList ++ rest)) : v_ l D cy ka cc own maxL ret nm fr lo Qf σ0 z σ pc L st := by
  refine v_behind hM.1 (fun t p e s m args below meth c C' ls hl H locs hH hS hr => ⟨(Value.ref b :: As).toArray, ?_⟩) k
  obtain ⟨q0, hq⟩ := hp_at hH hk
  rw [en_obj hk cb.2.2.1] at hq
  have ht := C'.1.2.2.2.2
  have hlen : ∀ sig, parseMethodDescriptor y.desc = some sig → n = sig.parameters.length := fun sig h => by
    have h2 := yb.2.2.2
    rw [h] at h2
    exact (Option.some.inj h2).symm
  exact vx_runVW (As := As) (rest := rest) C'.1 hM.2 ⟨⟨rfl, rfl, hR.1, hR.2, pay_in ht TBL_in, yb.1⟩, ht _ yb.1, ht _ yb.2.1, yb.2.2.1, hlen, ht _ hw, ht _ hi, ht _ hs⟩ ⟨pw_blind, va_recv C'.2.2.2.2.1 hH.1 cb.1 hq, fun U hU hW => ⟨rfl, pw_at C'.2.2.2.2.1 C'.2.2.2.2.2.2 t hH hS hU hW⟩⟩ rfl hn hl.1 hst (lv_room hc) hd hr
/-- a call of one that may throw, caught here -/
def bc_ {α β : Type} (x : Option ((β ⊕ Nat) × TH)) (k : β → TH → Option α) (h : Nat → TH → Option α) : Option α := match x with
  | none => none
  | some (.inl r, τ) => k r τ
  | some (.inr q, τ) => h q τ
theorem bc_of {α β : Type} {x : Option ((β ⊕ Nat) × TH)} {k : β → TH → Option α} {h : Nat → TH → Option α} {w : α} (hf : bc_ x k h = some w) : (∃ r τ, x = some (.inl r, τ) ∧ k r τ = some w) ∨ ∃ q τ, x = some (.inr q, τ) ∧ h q τ = some w := by
  match x, hf with
  | some (.inl r, τ), hf => exact Or.inl ⟨r, τ, rfl, hf⟩
  | some (.inr q, τ), hf => exact Or.inr ⟨q, τ, rfl, hf⟩
theorem v_caughtV {ci : Nat} {T : u_T} {N : Nat} {ty : Nat → FieldType} (cb : cb_ ci C T N ty) (hk : kd_ σ b = ci + 1) (hM : xt_ l D cy ka y fr2 lo2 (va_rf (some b) :: As) σ q τ) (yb : yb_ y bytes mL rt n) (hw : Cond.methodLink own index y ∈ TBL) (hi : Cond.instanceMethod y ∈ TBL) (hs : Cond.selects C y y ∈ TBL) (hn : As.length = n) (hR : fr2 + 1 ≤ fr ∧ 8 + (mL + 11) + lo2 ≤ lo) (hst : st = As.reverse ++ va_rf (some b) :: rest) (hc : (rest.map fun v => v.category).sum ≤ 8)
    {x : ExceptionTableEntry} {name : String} (htb : tb_ own nm = [x]) (hcov : covers x pc = true) (hx0 : x.catchType ≠ 0) (hcl : Cond.classLink own x.catchType name ∈ TBL) (hE : xe_ τ q = name) (hd : decode cc pc = .ok (.invokevirtual index, 3)) (hpc : Nat) (hhp : x.handlerPc = hpc)
    (k : v_ l D cy ka cc own maxL ret nm fr lo Qf σ0 z τ hpc L [va_rf (some q)]) : v_ l D cy ka cc own maxL ret nm fr lo Qf σ0 z σ pc L st := by
  subst hhp
  refine ⟨tl_tr hM.1 k.1, fun t p e s m args below meth c C' ls hl H locs hH hS => ?_⟩
  have hT := hM.1
  have h1 := t.1; have h2 := t.2.1; have h3 := hT.1; have h4 := hT.2.1; have h5 := k.1.1; have h6 := k.1.2.1
  obtain ⟨q0, hq⟩ := hp_at hH hk
  rw [en_obj hk cb.2.2.1] at hq
  have hr := vy_runV (below := below) (meth := meth) (locs := locs) (R := rm_ fr lo σ0 z) (cells := nx_ σ - nx_ σ0) (slots := sl_ σ - sl_ σ0) (l := l) (e := e) (g := F0 m pc ls st) (As := As) (rest := rest) C'.1 hM.2 ⟨yb_B yb hw C'.1.2.2.2.2 hR, C'.1.2.2.2.2 _ hi, C'.1.2.2.2.2 _ hs⟩ ⟨pw_blind, va_recv C'.2.2.2.2.1 hH.1 cb.1 hq, fun U hU hW => ⟨rfl, pw_at C'.2.2.2.2.1 C'.2.2.2.2.2.2 t hH hS hU hW⟩⟩ rfl hn hl.1 hst (lv_room hc) hd ⟨by show _ ≤ nx_ z - nx_ σ0; omega, by show _ ≤ sl_ z - sl_ σ0; omega⟩
  have htab : c.exceptionTable.toList = [x] := C'.2.2.2.1.2.trans htb
  intro T9 hTh X
  rcases hr T9 hTh X with ⟨v, st₀, t', T', L2, h0, X', hL, e1, e2, hv, stp⟩ | ⟨q', st₀, t', T', L2, E, ce, h0, X', hL, e1, e2, ⟨rfl, rfl, hp, hz, hkk⟩, hce, hcv, hcl9, stp⟩
  · exact absurd hv id
  · rw [h0] at hz hkk
    have e3 : nx_ σ - nx_ σ0 + (nx_ τ - nx_ σ) = nx_ τ - nx_ σ0 := by omega
    have e4 : sl_ σ - sl_ σ0 + (sl_ τ - sl_ σ) = sl_ τ - sl_ σ0 := by omega
    rw [e3, e4] at X'
    rw [hE] at hcl9
    have hS' : va_S (aa_ σ0) s.heap T'.heap (locs ++ L2) := ⟨Nat.le_trans hS.1 (by rw [e1]; exact hz), fun q h1 h2 => by
        rw [e1, hkk q (Nat.lt_of_lt_of_le h1 hS.1) (fun z9 => h2 (aa_tl t q z9))]
        exact hS.2.1 q h1 h2, fun q hq => by
        rcases List.mem_append.mp hq with h | h
        · exact hS.2.2 q h
        · exact aa_tl t _ (hL q h)⟩
    obtain ⟨vm', X'', hst9⟩ := ch_caught X' q' (g := F0 m pc ls rest) rfl C'.1.2.2.2.1 x htab hcov hx0 (C'.1.2.2.2.2 _ hcl) hcl9 (by rw [e1]; exact hce) (fun k9 h9 => by rw [hcv] at h9; cases h9) (as_self _ _)
    obtain ⟨t2, a1, b1⟩ := k.2 (tl_tr t hT) p e s m args below meth c C' ls hl T'.heap (locs ++ L2) (by rw [e1]; exact hp) hS' (T'.setVm vm') rfl X''
    exact ⟨t2, stp.trans (hst9 _ a1), b1⟩
/-- what is thrown lies beside the typed heap -/
def nq_ (σ : TH) : TH := (kd_ σ, ln_ σ, fi_ σ, fr_ σ, fl_ σ, ai_ σ, ar_ σ, al_ σ, ow_ σ, nx_ σ + 1, sl_ σ + 6)
theorem tl_nq (σ : TH) : tl_ σ (nq_ σ) := ⟨Nat.le_succ _, Nat.le_add_right _ _, fun _ h => h, fun _ h => Or.inl h, fun _ _ => ⟨rfl, rfl⟩⟩
theorem hp_nq {D : va_G} {cy : Nat → ClassId} {σ : TH} {H H1 : Heap} (h : hp_ D cy σ H) (z : H1.size = H.size + 1) (o : ∀ q : Nat, q < H.size → H1[q]? = H[q]?) : hp_ D cy (nq_ σ) H1 := by
  obtain ⟨h1, h2, h3, h4⟩ := h
  exact ⟨h1.kept (fun i x hx => o x.1 ((h1 i x hx).lt)), h2, by rw [z, h3]; rfl, h4⟩
end V34
theorem n_ix : vx_at0 RX11 313 "java/util/NoSuchElementException" ["java/lang/RuntimeException", "java/lang/Exception"] = ([10, 1373, 1382, 1385, 1388, 1390, 1374, 1375, 40, 41, 1376, 1381, 1386, 1403, 1363, 1404, 1365, 1405, 1367, 1377, 1379, 1369, 1392, 1393, 1394, 1395, 1354, 1395, 1396, 1397, 1398, 1356, 1398, 1399, 1400, 1374, 1358, 1391, 1352, 1353, 1360, 1361, 1362, 1364, 1366, 1368, 1372, 1371, 1370] : List Nat).filterMap (fun i => tables_1[i]?) := by decide +kernel
theorem n_all : (vx_at0 RX11 313 "java/util/NoSuchElementException" ["java/lang/RuntimeException", "java/lang/Exception"]).all (fun w => goodWord w || nwW_ w) = true := by decide +kernel
theorem n_at_X11_out : ∀ w ∈ vx_at0 RX11 313 "java/util/NoSuchElementException" ["java/lang/RuntimeException", "java/lang/Exception"], (w ∈ TBL ∧ goodWord w = true) ∨ (w ∈ NWL ∧ nwW_ w = true) := fun w hw => by
  have h1 := List.all_eq_true.mp n_all w hw
  rw [n_ix] at hw
  obtain ⟨i, -, hi⟩ := List.mem_filterMap.mp hw
  rcases Bool.or_eq_true _ _ |>.mp h1 with h | h
  · exact Or.inl ⟨kT_ i hi h, h⟩
  · exact Or.inr ⟨kN_ i hi h, h⟩
section V34c
variable {l : Launch} {D : va_G} {cy : Nat → ClassId} {ka : Nat → Nat} {cc : ByteArray} {own : String} {maxL : Nat} {ret : Option FieldType} {nm : String} {fr lo : Nat} {σ0 z σ : TH} {pc : Nat} {L : List (Nat × Value)} {rest : List Value}
variable {ρ : Type} {rf : ρ → Option Value} {w : ρ ⊕ Nat}
/-- throw new NoSuchElementException() -/
theorem v_throwN {ik ic : Nat} (hl : l.stackTraces = false) (hk : Cond.classLink own ik "java/util/NoSuchElementException" ∈ TBL) (hini : Cond.initialized "java/util/NoSuchElementException" ∈ TBL) (hat : ∀ w ∈ vx_at0 own ic "java/util/NoSuchElementException" ["java/lang/RuntimeException", "java/lang/Exception"], (w ∈ TBL ∧ goodWord w = true) ∨ (w ∈ NWL ∧ nwW_ w = true)) (hg : (goodWord (Cond.classLink own ik "java/util/NoSuchElementException") && goodWord (Cond.initialized "java/util/NoSuchElementException")) = true) (hnt : (own, nm) ∉ TBM) (hf : some ((.inr (nx_ σ) : ρ ⊕ Nat), nq_ σ) = some (w, z)) (d0 : decode cc pc = .ok (.new ik, 3)) (d3 : decode cc (pc + 3) = .ok (.dup, 1)) (d4 : decode cc (pc + 4) = .ok (.invokespecial ic, 3)) (d7 : decode cc (pc + 7) = .ok (.athrow, 1)) (hfr : 5 < fr) (hlo : 81 ≤ lo) : v_ l D cy ka cc own maxL ret nm fr lo (qm_ D cy σ0 z rf w) σ0 z σ pc L [] := by
  cases hf
  refine ⟨tl_nq σ, fun t p e s m args below meth c C' ls hl9 H locs hH hS => ?_⟩
  have htab : c.exceptionTable.toList = [] := C'.2.2.2.1.2.trans (tb_no hnt)
  have ht := C'.1.2.2.2.2
  have hE := C'.2.2.2.2.2.2
  have h1 := t.1; have h2 := t.2.1
  have e1 : nx_ (nq_ σ) = nx_ σ + 1 := rfl
  have e2 : sl_ (nq_ σ) = sl_ σ + 6 := rfl
  have hkd : kd_ σ (nx_ σ) = 0 := by
    by_cases h : kd_ σ (nx_ σ) = 0
    · exact h
    · exact absurd (hp_lt hH (hH.2.2.2 _ h)) (Nat.lt_irrefl _)
  obtain ⟨g1, g2⟩ := Bool.and_eq_true _ _ |>.mp hg
  refine vy_throw0 (names := ["java/lang/RuntimeException", "java/lang/Exception"]) (A := aa_ σ0) (Qc := fun _ _ _ _ => False) C'.1.1 C'.1.2.1 hl C'.1.2.2.2.1 (by decide +kernel) (by decide +kernel) (ht _ hk) (ht _ hini) (fun w hw => ?_) (fun w hw => ?_) hE.2.2.2.2.2.2.2.1 hE.2.2.2.2.2.2.1 hS (hl9.1.trans C'.1.2.2.1.symm) d0 d3 d4 d7 (by rw [htab]; intro x hx; cases hx) hfr hlo ?_ ?_ C'.2.2.1 (fun t9 ha hz ho => ?_) hS.2.2 ?_ ?_
  · rcases hat w hw with h | h
    · exact ht w h.1
    · exact va_Nw.use (nw_tab h.2) (hE.1 w h.1)
  · unfold vx_ot
    rcases List.mem_cons.mp hw with h | hw
    · subst h; rw [g1, Bool.or_true]
    · rcases List.mem_cons.mp hw with h | hw
      · subst h; rw [g2, Bool.or_true]
      · rcases hat w hw with h | h
        · rw [h.2, Bool.or_true]
        · rw [nw_tab h.2, Bool.true_or]
  · show nx_ σ - nx_ σ0 + 1 ≤ nx_ (nq_ σ) - nx_ σ0
    omega
  · show sl_ σ - sl_ σ0 + 6 ≤ sl_ (nq_ σ) - sl_ σ0
    omega
  · refine ⟨hH.2.2.1, ?_, hp_nq hH hz ho, (sS_new hS hz ho).F rfl⟩
    have e3 : kd_ (nq_ σ) (nx_ σ) = 0 := hkd
    exact (if_neg (by rw [e3]; decide)).symm
  · omega
  · omega
theorem v_getsU {index : Nat} {Qf : QF} (hw : Cond.fieldLink own index "java/lang/Throwable" "UNASSIGNED_STACK" "[Ljava/lang/StackTraceElement;" ∈ TBL) (hd : decode cc pc = .ok (.getstatic index, 3)) (k : ∀ r, v_ l D cy ka cc own maxL ret nm fr lo Qf σ0 z σ (pc + 3) L (va_rf r :: rest)) : v_ l D cy ka cc own maxL ret nm fr lo Qf σ0 z σ pc L rest := by
  refine ⟨(k none).1, fun t p e s m args below meth c C' ls hl H locs hH hS => ?_⟩
  rcases C'.2.2.2.2.2.2.2.2.2.2.2.2.2.1.1 with h | ⟨q, h⟩
  · exact va_gets C'.1.1 C'.1.2.1 h hS C'.1.2.2.2.1 (C'.1.2.2.2.2 _ hw) (fun _ h => h) hd ((k none).2 t p e s m args below meth c C' ls hl H locs hH hS)
  · exact va_gets C'.1.1 C'.1.2.1 h hS C'.1.2.2.2.1 (C'.1.2.2.2.2 _ hw) (fun _ h => h) hd ((k (some q)).2 t p e s m args below meth c C' ls hl H locs hH hS)
theorem v_getsN {index : Nat} {Qf : QF} (hw : Cond.fieldLink own index "java/lang/Throwable" "SUPPRESSED_SENTINEL" "Ljava/util/List;" ∈ TBL) (hd : decode cc pc = .ok (.getstatic index, 3)) (k : ∀ r, v_ l D cy ka cc own maxL ret nm fr lo Qf σ0 z σ (pc + 3) L (va_rf r :: rest)) : v_ l D cy ka cc own maxL ret nm fr lo Qf σ0 z σ pc L rest := by
  refine ⟨(k none).1, fun t p e s m args below meth c C' ls hl H locs hH hS => ?_⟩
  rcases C'.2.2.2.2.2.2.2.2.2.2.2.2.1.1 with h | ⟨q, h⟩
  · exact va_gets C'.1.1 C'.1.2.1 h hS C'.1.2.2.2.1 (C'.1.2.2.2.2 _ hw) (fun _ h => h) hd ((k none).2 t p e s m args below meth c C' ls hl H locs hH hS)
  · exact va_gets C'.1.1 C'.1.2.1 h hS C'.1.2.2.2.1 (C'.1.2.2.2.2 _ hw) (fun _ h => h) hd ((k (some q)).2 t p e s m args below meth c C' ls hl H locs hH hS)
end V34c
theorem tb_X15_isText : tb_ RX15 "isText" = tableOf [(10, 21, 24, 72)] := if_pos rfl
theorem tb_X15_rule : tb_ RX15 "rule" = tableOf [(29, 40, 43, 72)] := (if_neg (by decide +kernel)).trans (if_pos rfl)
theorem tb_L_out : tb_ RL "out" = tableOf [(0, 9, 12, 13)] := (if_neg (by decide +kernel)).trans ((if_neg (by decide +kernel)).trans (if_pos rfl))
theorem kc_X15_isText : Cond.codeWith yX15_isText cX15_isText 4 (some FieldType.boolean) [(10, 21, 24, 72)] ∈ TBL := kT_ 1868 (by decide +kernel) (by decide +kernel)
theorem yw_X15_isText : yw_ yX15_isText cX15_isText 4 (some FieldType.boolean) [(10, 21, 24, 72)] 2 := ⟨kc_X15_isText, kw_9, by decide +kernel, by decide +kernel⟩
theorem kc_X15_rule : Cond.codeWith yX15_rule cX15_rule 3 (some FieldType.int) [(29, 40, 43, 72)] ∈ TBL := kT_ 2109 (by decide +kernel) (by decide +kernel)
theorem yw_X15_rule : yw_ yX15_rule cX15_rule 3 (some FieldType.int) [(29, 40, 43, 72)] 1 := ⟨kc_X15_rule, kw_9, by decide +kernel, by decide +kernel⟩
theorem kc_L_out : Cond.codeWith yL_out cL_out 4 (some FieldType.int) [(0, 9, 12, 13)] ∈ TBL := kT_ 1345 (by decide +kernel) (by decide +kernel)
theorem yw_L_out : yw_ yL_out cL_out 4 (some FieldType.int) [(0, 9, 12, 13)] 3 := ⟨kc_L_out, kw_0, by decide +kernel, by decide +kernel⟩
def yE_thr : MethodName := ⟨"java/lang/Throwable", "<init>", "(Ljava/lang/String;Ljava/lang/Throwable;ZZ)V"⟩
theorem yb_E_thr : yb_ yE_thr prog_29_method_5_code 5 none 4 := ⟨kw_1444, kw_10, by decide +kernel, by decide +kernel⟩
def yE_exc : MethodName := ⟨"java/lang/Exception", "<init>", "(Ljava/lang/String;Ljava/lang/Throwable;ZZ)V"⟩
theorem yb_E_exc : yb_ yE_exc prog_20_method_5_code 5 none 4 := ⟨kw_1441, kw_11, by decide +kernel, by decide +kernel⟩
def yE_rte : MethodName := ⟨"java/lang/RuntimeException", "<init>", "(Ljava/lang/String;Ljava/lang/Throwable;ZZ)V"⟩
theorem yb_E_rte : yb_ yE_rte prog_24_method_5_code 5 none 4 := ⟨kw_1438, kw_12, by decide +kernel, by decide +kernel⟩
theorem dE_thr_0 : decode prog_29_method_5_code 0 = .ok (.aload_n 0, 1) := by decide +kernel
theorem dE_thr_1 : decode prog_29_method_5_code 1 = .ok (.invokespecial 1, 3) := by decide +kernel
theorem dE_thr_4 : decode prog_29_method_5_code 4 = .ok (.aload_n 0, 1) := by decide +kernel
theorem dE_thr_5 : decode prog_29_method_5_code 5 = .ok (.aload_n 0, 1) := by decide +kernel
theorem dE_thr_6 : decode prog_29_method_5_code 6 = .ok (.putfield 7, 3) := by decide +kernel
theorem dE_thr_9 : decode prog_29_method_5_code 9 = .ok (.aload_n 0, 1) := by decide +kernel
theorem dE_thr_10 : decode prog_29_method_5_code 10 = .ok (.getstatic 13, 3) := by decide +kernel
theorem dE_thr_13 : decode prog_29_method_5_code 13 = .ok (.putfield 17, 3) := by decide +kernel
theorem dE_thr_16 : decode prog_29_method_5_code 16 = .ok (.aload_n 0, 1) := by decide +kernel
theorem dE_thr_17 : decode prog_29_method_5_code 17 = .ok (.getstatic 20, 3) := by decide +kernel
theorem dE_thr_20 : decode prog_29_method_5_code 20 = .ok (.putfield 24, 3) := by decide +kernel
theorem dE_thr_23 : decode prog_29_method_5_code 23 = .ok (.iload 4, 2) := by decide +kernel
theorem dE_thr_25 : decode prog_29_method_5_code 25 = .ok (.ifCond .eq 11, 3) := by decide +kernel
theorem dE_thr_36 : decode prog_29_method_5_code 36 = .ok (.aload_n 0, 1) := by decide +kernel
theorem dE_thr_37 : decode prog_29_method_5_code 37 = .ok (.aconst_null, 1) := by decide +kernel
theorem dE_thr_38 : decode prog_29_method_5_code 38 = .ok (.putfield 17, 3) := by decide +kernel
theorem dE_thr_41 : decode prog_29_method_5_code 41 = .ok (.aload_n 0, 1) := by decide +kernel
theorem dE_thr_42 : decode prog_29_method_5_code 42 = .ok (.aload_n 1, 1) := by decide +kernel
theorem dE_thr_43 : decode prog_29_method_5_code 43 = .ok (.putfield 31, 3) := by decide +kernel
theorem dE_thr_46 : decode prog_29_method_5_code 46 = .ok (.aload_n 0, 1) := by decide +kernel
theorem dE_thr_47 : decode prog_29_method_5_code 47 = .ok (.aload_n 2, 1) := by decide +kernel
theorem dE_thr_48 : decode prog_29_method_5_code 48 = .ok (.putfield 7, 3) := by decide +kernel
theorem dE_thr_51 : decode prog_29_method_5_code 51 = .ok (.iload_n 3, 1) := by decide +kernel
theorem dE_thr_52 : decode prog_29_method_5_code 52 = .ok (.ifCond .ne 8, 3) := by decide +kernel
theorem dE_thr_55 : decode prog_29_method_5_code 55 = .ok (.aload_n 0, 1) := by decide +kernel
theorem dE_thr_56 : decode prog_29_method_5_code 56 = .ok (.aconst_null, 1) := by decide +kernel
theorem dE_thr_57 : decode prog_29_method_5_code 57 = .ok (.putfield 24, 3) := by decide +kernel
theorem dE_thr_60 : decode prog_29_method_5_code 60 = .ok (.return_, 1) := by decide +kernel
theorem dE_exc_0 : decode prog_20_method_5_code 0 = .ok (.aload_n 0, 1) := by decide +kernel
theorem dE_exc_1 : decode prog_20_method_5_code 1 = .ok (.aload_n 1, 1) := by decide +kernel
theorem dE_exc_2 : decode prog_20_method_5_code 2 = .ok (.aload_n 2, 1) := by decide +kernel
theorem dE_exc_3 : decode prog_20_method_5_code 3 = .ok (.iload_n 3, 1) := by decide +kernel
theorem dE_exc_4 : decode prog_20_method_5_code 4 = .ok (.iload 4, 2) := by decide +kernel
theorem dE_exc_6 : decode prog_20_method_5_code 6 = .ok (.invokespecial 16, 3) := by decide +kernel
theorem dE_exc_9 : decode prog_20_method_5_code 9 = .ok (.return_, 1) := by decide +kernel
theorem dE_rte_0 : decode prog_24_method_5_code 0 = .ok (.aload_n 0, 1) := by decide +kernel
theorem dE_rte_1 : decode prog_24_method_5_code 1 = .ok (.aload_n 1, 1) := by decide +kernel
theorem dE_rte_2 : decode prog_24_method_5_code 2 = .ok (.aload_n 2, 1) := by decide +kernel
theorem dE_rte_3 : decode prog_24_method_5_code 3 = .ok (.iload_n 3, 1) := by decide +kernel
theorem dE_rte_4 : decode prog_24_method_5_code 4 = .ok (.iload 4, 2) := by decide +kernel
theorem dE_rte_6 : decode prog_24_method_5_code 6 = .ok (.invokespecial 16, 3) := by decide +kernel
theorem dE_rte_9 : decode prog_24_method_5_code 9 = .ok (.return_, 1) := by decide +kernel
def q_thr (σ : TH) (a : Nat) (p1 p2 : Option Nat) : TH := sr_ (sr_ (sr_ (sr_ σ 1501 a none) 1503 a p1) 1500 a p2) 1502 a none
theorem q_thr_e (σ : TH) (a : Nat) (p1 p2 r1 r2 : Option Nat) : sr_ (sr_ (sr_ (sr_ (sr_ (sr_ (sr_ σ 1500 a (some a)) 1501 a r1) 1502 a r2) 1501 a none) 1503 a p1) 1500 a p2) 1502 a none = q_thr σ a p1 p2 := by
  have h : ∀ f : Nat → Nat → Option Nat, up2_ (up2_ (up2_ (up2_ (up2_ (up2_ (up2_ f 1500 a (some a)) 1501 a r1) 1502 a r2) 1501 a none) 1503 a p1) 1500 a p2) 1502 a none = up2_ (up2_ (up2_ (up2_ f 1501 a none) 1503 a p1) 1500 a p2) 1502 a none := fun f => by
    funext c b
    unfold up2_
    by_cases hb : b = a
    · subst hb
      by_cases h0 : c = 1502
      · simp [h0]
      · by_cases h1 : c = 1500
        · simp [h1]
        · by_cases h2 : c = 1503
          · simp [h2]
          · by_cases h3 : c = 1501
            · simp [h3]
            · simp [h0, h1, h2, h3]
    · simp [hb]
  unfold q_thr
  simp only [sr_, kd_, ln_, fi_, fr_, fl_, ai_, ar_, al_, ow_, nx_, sl_]
  rw [h]
theorem c_E_thr {l : Launch} {D : va_G} {cy : Nat → ClassId} {ka : Nat → Nat} {σ : TH} {a : Nat} {p1 p2 : Option Nat} (hk : kd_ σ a = 16) : ct_ l D cy ka yE_thr 1 20 [va_rf (some a), va_rf p1, va_rf p2, .int 0, .int 0] σ none (q_thr σ a p1 p2) := by
  refine v_start (cc := prog_29_method_5_code) (own := "java/lang/Throwable") (maxL := 5) (ret := none) (nm := "<init>") (by decide +kernel) kw_1444 rfl rfl (by simp [lg_sl, va_rf_cat, cat_i, cat_l]) ?_
  refine v_eqL (L2 := [(0, va_rf (some a)), (1, va_rf p1), (2, va_rf p2), (3, .int 0), (4, .int 0)]) (by simp [lv_args, va_rf_cat, cat_i, cat_l]) ?_
  refine v_aload_n (x := (some a)) dE_thr_0 rfl 0 rfl ?_
  refine v_objInit kw_1376 kw_40 kw_41 (by decide) (by decide) (cat_len (Nat.le_of_ble_eq_true rfl)) dE_thr_1 ?_
  refine v_aload_n (x := (some a)) dE_thr_4 rfl 0 rfl ?_
  refine v_aload_n (x := (some a)) dE_thr_5 rfl 0 rfl ?_
  refine v_putr cb_15 hk 0 1500 rfl (by decide) rfl (lk_n kw_1403 rfl) (Or.inl rfl) (nr_ _ (Or.inl ⟨_, rfl⟩)) (fr9_ _ (Or.inl ⟨_, rfl⟩)) dE_thr_6 ?_
  refine v_aload_n (x := (some a)) dE_thr_9 rfl 0 rfl ?_
  refine v_getsU kw_1377 dE_thr_10 (fun r1 => ?_)
  refine v_putr cb_15 hk 1 1501 rfl (by decide) rfl (lk_n kw_1404 rfl) (Or.inl rfl) (nr_ _ (Or.inr ⟨_, rfl⟩)) (fr9_ _ (Or.inr ⟨_, rfl⟩)) dE_thr_13 ?_
  refine v_aload_n (x := (some a)) dE_thr_16 rfl 0 rfl ?_
  refine v_getsN kw_1379 dE_thr_17 (fun r2 => ?_)
  refine v_putr cb_15 hk 2 1502 rfl (by decide) rfl (lk_n kw_1405 rfl) (Or.inl rfl) (nr_ _ (Or.inl ⟨_, rfl⟩)) (fr9_ _ (Or.inl ⟨_, rfl⟩)) dE_thr_20 ?_
  refine v_iload (x := 0) dE_thr_23 4 rfl ?_
  refine v_if_eq (tgt := 36) (A := some ()) (B := none) (u := ()) (by decide) dE_thr_25 (by decide) (fun hq hf => ?_) (fun hq hf => by cases hf)
  refine v_aload_n (x := (some a)) dE_thr_36 rfl 0 rfl ?_
  refine v_null dE_thr_37 ?_
  refine v_putr cb_15 hk 1 1501 rfl (by decide) rfl (lk_n kw_1404 rfl) (Or.inl rfl) (nr_ _ (Or.inr ⟨_, rfl⟩)) (fr9_ _ (Or.inr ⟨_, rfl⟩)) dE_thr_38 ?_
  refine v_aload_n (x := (some a)) dE_thr_41 rfl 0 rfl ?_
  refine v_aload_n (x := p1) dE_thr_42 rfl 1 rfl ?_
  refine v_putr cb_15 hk 3 1503 rfl (by decide) rfl (lk_n kw_1402 rfl) (Or.inl rfl) (nr_ _ (Or.inl ⟨_, rfl⟩)) (fr9_ _ (Or.inl ⟨_, rfl⟩)) dE_thr_43 ?_
  refine v_aload_n (x := (some a)) dE_thr_46 rfl 0 rfl ?_
  refine v_aload_n (x := p2) dE_thr_47 rfl 2 rfl ?_
  refine v_putr cb_15 hk 0 1500 rfl (by decide) rfl (lk_n kw_1403 rfl) (Or.inl rfl) (nr_ _ (Or.inl ⟨_, rfl⟩)) (fr9_ _ (Or.inl ⟨_, rfl⟩)) dE_thr_48 ?_
  refine v_iload_n (x := 0) dE_thr_51 rfl 3 rfl ?_
  refine v_if_ne (tgt := 60) (A := some ()) (B := none) (u := ()) (by decide) dE_thr_52 (by decide) (fun hq hf => ?_) (fun hq hf => by cases hf)
  refine v_aload_n (x := (some a)) dE_thr_55 rfl 0 rfl ?_
  refine v_null dE_thr_56 ?_
  refine v_putr cb_15 hk 2 1502 rfl (by decide) rfl (lk_n kw_1405 rfl) (Or.inl rfl) (nr_ _ (Or.inl ⟨_, rfl⟩)) (fr9_ _ (Or.inl ⟨_, rfl⟩)) dE_thr_57 ?_
  exact v_vret (congrArg (fun q : TH => some ((), q)) (q_thr_e σ a p1 p2 r1 r2)) dE_thr_60
theorem c_E_exc {l : Launch} {D : va_G} {cy : Nat → ClassId} {ka : Nat → Nat} {σ : TH} {a : Nat} {p1 p2 : Option Nat} (hk : kd_ σ a = 16) : ct_ l D cy ka yE_exc 2 44 [va_rf (some a), va_rf p1, va_rf p2, .int 0, .int 0] σ none (q_thr σ a p1 p2) := by
  refine v_start (cc := prog_20_method_5_code) (own := "java/lang/Exception") (maxL := 5) (ret := none) (nm := "<init>") (by decide +kernel) kw_1441 rfl rfl (by simp [lg_sl, va_rf_cat, cat_i, cat_l]) ?_
  refine v_eqL (L2 := [(0, va_rf (some a)), (1, va_rf p1), (2, va_rf p2), (3, .int 0), (4, .int 0)]) (by simp [lv_args, va_rf_cat, cat_i, cat_l]) ?_
  refine v_aload_n (x := (some a)) dE_exc_0 rfl 0 rfl ?_
  refine v_aload_n (x := p1) dE_exc_1 rfl 1 rfl ?_
  refine v_aload_n (x := p2) dE_exc_2 rfl 2 rfl ?_
  refine v_iload_n (x := 0) dE_exc_3 rfl 3 rfl ?_
  refine v_iload (x := 0) dE_exc_4 4 rfl ?_
  refine v_callI (As := [va_rf p1, va_rf p2, .int 0, .int 0]) (rest := []) (c_E_thr hk) yb_E_thr kw_1442 kw_1443 rfl rfl ⟨by decide, by decide⟩ rfl (cat_len (Nat.le_of_ble_eq_true rfl)) dE_exc_6 ?_
  exact v_vret rfl dE_exc_9
theorem c_E_rte {l : Launch} {D : va_G} {cy : Nat → ClassId} {ka : Nat → Nat} {σ : TH} {a : Nat} {p1 p2 : Option Nat} (hk : kd_ σ a = 16) : ct_ l D cy ka yE_rte 3 68 [va_rf (some a), va_rf p1, va_rf p2, .int 0, .int 0] σ none (q_thr σ a p1 p2) := by
  refine v_start (cc := prog_24_method_5_code) (own := "java/lang/RuntimeException") (maxL := 5) (ret := none) (nm := "<init>") (by decide +kernel) kw_1438 rfl rfl (by simp [lg_sl, va_rf_cat, cat_i, cat_l]) ?_
  refine v_eqL (L2 := [(0, va_rf (some a)), (1, va_rf p1), (2, va_rf p2), (3, .int 0), (4, .int 0)]) (by simp [lv_args, va_rf_cat, cat_i, cat_l]) ?_
  refine v_aload_n (x := (some a)) dE_rte_0 rfl 0 rfl ?_
  refine v_aload_n (x := p1) dE_rte_1 rfl 1 rfl ?_
  refine v_aload_n (x := p2) dE_rte_2 rfl 2 rfl ?_
  refine v_iload_n (x := 0) dE_rte_3 rfl 3 rfl ?_
  refine v_iload (x := 0) dE_rte_4 4 rfl ?_
  refine v_callI (As := [va_rf p1, va_rf p2, .int 0, .int 0]) (rest := []) (c_E_exc hk) yb_E_exc kw_1439 kw_1440 rfl rfl ⟨by decide, by decide⟩ rfl (cat_len (Nat.le_of_ble_eq_true rfl)) dE_rte_6 ?_
  exact v_vret rfl dE_rte_9
theorem dX14_init_0 : decode cX14_init 0 = .ok (.aload_n 0, 1) := by decide +kernel
theorem dX14_init_1 : decode cX14_init 1 = .ok (.aconst_null, 1) := by decide +kernel
theorem dX14_init_2 : decode cX14_init 2 = .ok (.aconst_null, 1) := by decide +kernel
theorem dX14_init_3 : decode cX14_init 3 = .ok (.iconst 0, 1) := by decide +kernel
theorem dX14_init_4 : decode cX14_init 4 = .ok (.iconst 0, 1) := by decide +kernel
theorem dX14_init_5 : decode cX14_init 5 = .ok (.invokespecial 1, 3) := by decide +kernel
theorem dX14_init_8 : decode cX14_init 8 = .ok (.return_, 1) := by decide +kernel
def f_X14_init (σ : TH) (p0 : Nat) : Option (Unit × TH) := gt_ (kd_ σ p0 = 16) <| some ((), q_thr σ p0 none none)
theorem c_X14_init {l : Launch} {D : va_G} {cy : Nat → ClassId} {ka : Nat → Nat} {σ z : TH} {p0 : Nat} {r : Unit} (hf : f_X14_init σ p0 = some (r, z)) : ct_ l D cy ka yX14_init 4 92 [va_rf (some p0)] σ none z := by
  unfold f_X14_init at hf
  obtain ⟨hk, hf⟩ := gt_of hf
  refine v_start (cc := cX14_init) (own := RX14) (maxL := 1) (ret := none) (nm := "<init>") (by decide +kernel) kw_1435 rfl rfl (by simp [lg_sl, va_rf_cat, cat_i, cat_l]) ?_
  refine v_eqL (L2 := [(0, va_rf (some p0))]) (by simp [lv_args, va_rf_cat, cat_i, cat_l]) ?_
  refine v_aload_n (x := (some p0)) dX14_init_0 rfl 0 rfl ?_
  refine v_null dX14_init_1 ?_
  refine v_null dX14_init_2 ?_
  refine v_iconst (v := 0) dX14_init_3 (by decide) ?_
  refine v_iconst (v := 0) dX14_init_4 (by decide) ?_
  refine v_callI (As := [va_rf none, va_rf none, .int 0, .int 0]) (rest := []) (c_E_rte hk) yb_E_rte kw_1436 kw_1437 rfl rfl ⟨by decide, by decide⟩ rfl (cat_len (Nat.le_of_ble_eq_true rfl)) dX14_init_5 ?_
  exact v_vret hf dX14_init_8
