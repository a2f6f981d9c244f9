/-! THE LAW FROM ITS ENTRY, out of what stage B owes (B_). lw_Q, lw_Z, lw_ret: the skeleton's, for any arguments. Written by wip/gen/mk39f.py. -/
def lw_Q (_ : Array Value) (s : State) (o : Outcome) (t : State) : Prop := o = .returned (some (.int 1)) ∧ Framed s o t [] 601024 7293034
def lw_Z (below : List Frame) (a : Array Value) (s : State) : State → Prop := fun t => ∃ o, t.status = .running ∧ Ended t below o ∧ lw_Q a s o t
theorem lw_ret9 {p : Program} {l : Launch} {e : Env} {s : State} {m : MethodId} {below : List Frame} {meth : Method} {c : Code} {args : Array Value} (hx : p.tables.exec = Jvm.exec) (hb : c.code = code) (hr : meth.sig.returnType = ret) (hlocks : meth.locks = false) {pc : Nat} {H : Heap} {ls : Array Slot} (hdg : decode code pc = .ok (.ireturn, 1)) : W p l e room_1 s m args below meth c H [] 601024 7293034 (lw_Z below args s) (F0 m pc ls [.int 1]) := by
  intro T hT X
  obtain ⟨fs, hret, hrun, hended, hW, hframe⟩ := X.leave (v := some (.int 1)) (hlocks := hlocks) (fun h => by rw [hr] at h; cases h)
  have hmeth' : T.vm.method? m = some meth := X.method'
  refine ⟨T.setFrames fs, ?_, .returned (some (.int 1)), hrun, hended, rfl, ⟨_, rfl⟩, hW, hframe⟩
  jvm_step X.here [X.here.top, hx, hb, hdg, hmeth', hr, ret, narrow_b1]
  (try refine ⟨rfl, ?_⟩); (try refine ⟨rfl, ?_⟩)
  first | (intro acts; rw [hret _ acts rfl rfl rfl]) | rw [hret _ _ rfl rfl rfl]
  exact Steps.refl _
def o0_ (N : Nat) : TH := (fun _ => 0, fun _ => 0, fun _ _ => 0, fun _ _ => none, fun _ _ => 0, fun _ _ => 0, fun _ _ => none, fun _ _ => 0, [], N, 0)
/-- WHAT STAGE B OWES: both constructors, an invariant, every call -/
def B_ (ka : Nat → Nat) (N : Nat) : Prop := ∃ (c1 m2 : TH) (Inv : Nat → TH → TH → Prop), Si_ ka (o0_ N) c1 m2 Inv ∧ iv_ N (nx_ c1) (nx_ m2) N 0 Inv ∧ (∀ n c m, Inv n c m → Inv (n + 1) c m) ∧ Sts_ ka N (nx_ c1) (nx_ m2) Inv
def bz_ (σ : TH) (N S : Nat) : TH := (kd_ σ, ln_ σ, fi_ σ, fr_ σ, fl_ σ, ai_ σ, ar_ σ, al_ σ, ow_ σ, N, S)
theorem lw_end {l : Launch} {D : va_G} {cy : Nat → ClassId} {ka : Nat → Nat} {N : Nat} {z σ : TH} {L : List (Nat × Value)} (h1 : nx_ z = N + 601024) (h2 : sl_ z = 7293034) (ht : tl_ σ z) : lwv_ l D cy ka (fun below args s => lw_Z below args s) (o0_ N) z σ 2150 L [] := by
  refine v_iconst (v := 1) dL_law_2150 (by decide) ?_
  refine ⟨ht, fun t p e s m args below meth c C' ls hl H locs hH hS => ?_⟩
  have e1 : rm_ 2048 84000 (o0_ N) z = room_1 := by
    show ({ frames := 2048, cells := nx_ z - N, slots := sl_ z - 0, locals := 84000 } : Room) = { frames := 2048, cells := 601024, slots := 7293034, locals := 84000 }
    rw [h1, h2, Nat.add_sub_cancel_left]
  have n1 := ht.1
  have n2 := ht.2.1
  have o1 : nx_ (o0_ N) = N := rfl
  have o2 : sl_ (o0_ N) = 0 := rfl
  rw [e1]
  refine va_forget (fun q hq => ?_) ?_
  · rcases hS.2.2 q hq with h | h
    · exact absurd h.1 List.not_mem_nil
    · rw [C'.2.2.2.2.2.1]; exact h
  · refine W.widen (k := 601024) (n := 7293034) (by rw [o1]; omega) (by rw [o2]; omega) ?_
    exact lw_ret9 C'.1.1 C'.1.2.1 C'.2.1 C'.2.2.1 dL_law_2151
theorem lw_rm1 {a N n : Nat} (h : a ≤ N + 1000 * (n + 1)) (hn : n ≤ 512) : a ≤ N + 601024 := Nat.le_trans h (Nat.add_le_add_left (Nat.le_trans (Nat.mul_le_mul_left 1000 (Nat.succ_le_succ hn)) (Nat.le_of_ble_eq_true rfl)) N)
theorem lw_rm2 {a n : Nat} (h : a ≤ 0 + 14000 * (n + 1)) (hn : n ≤ 512) : a ≤ 7293034 := Nat.le_trans h (Nat.le_trans (Nat.add_le_add_left (Nat.mul_le_mul_left 14000 (Nat.succ_le_succ hn)) 0) (Nat.le_of_ble_eq_true rfl))
theorem whole_of {p : Program} {e : Env} {s : State} {m : MethodId} {below : List Frame} {meth : Method} {c : Code} (l : Launch) (hl9 : l.stackTraces = false) (hB : ∀ (ka : Nat → Nat) (N : Nat), ka 200 < N → ka 302 ≤ 5120 → B_ ka N) {b L : Nat} {xs : Nat → Int32} (hL : L ≤ 5120) (hx : p.tables.exec = Jvm.exec) (hb : c.code = code) (hr : meth.sig.returnType = ret) (hml : c.maxLocals = 7) (hown : s.vm.findClass RL = some m.cls) (hts : ∀ w ∈ lw_tbl, w.before #[Value.ref b] s = true) (hX : va_X b L xs s s.heap) (hlocks : meth.locks = false) (hgv : gv_.before #[Value.ref b] s = true) (hnm : meth.name = "law") (htab : c.exceptionTable.toList = []) : W p l e room_1 s m #[Value.ref b] below meth c s.heap [] 0 0 (lw_Z below #[Value.ref b] s) (entryFrame m ([Value.ref b] : List Value).toArray 7) := by
  obtain ⟨ka, hev, e1, e2, hlt⟩ := en_ev hts hX hL hgv
  have htsT : ∀ w ∈ TBL, w.before #[Value.ref b] s = true := fun w hw => hts w (List.mem_filter.mp hw).1
  obtain ⟨D, hD⟩ := en_cls htsT
  obtain ⟨cy, hcy⟩ := en_arr htsT (fun C hC => hts _ (List.mem_append_right _ (fx_c C hC)))
  have hK : va_K D clz (tyz cy) s := ⟨hD, hcy⟩
  obtain ⟨c1, m2, Inv, hSi, hIv, hMo, hSt⟩ := hB ka s.heap.size hlt (by rw [e2]; exact hL)
  have hw0 : wf_ (o0_ s.heap.size) := ⟨fun _ h => absurd rfl h, fun _ h => nomatch h⟩
  have hE : ∀ n c m, n ≤ 512 → Inv n c m → ∃ z, (nx_ z = s.heap.size + 601024 ∧ sl_ z = 7293034) ∧ ∀ L, lwv_ l D cy ka (fun below args s => lw_Z below args s) (o0_ s.heap.size) z (jn_ c m) 2150 L [] := fun n c m hn h => by
    obtain ⟨-, -, -, -, -, -, -, -, -, k1, k2⟩ := hIv n c m h
    refine ⟨bz_ (jn_ c m) (s.heap.size + 601024) 7293034, ⟨rfl, rfl⟩, fun L => lw_end rfl rfl ⟨?_, ?_, fun _ h => h, fun _ h => Or.inl h, fun _ _ => ⟨rfl, rfl⟩⟩⟩
    · exact lw_rm1 k1 hn
    · exact lw_rm2 k2 hn
  obtain ⟨z, hP, hv⟩ := lw_begin (l := l) (D := D) (cy := cy) (ka := ka) (Qf := fun below args s => lw_Z below args s) (Pz := fun z => nx_ z = s.heap.size + 601024 ∧ sl_ z = 7293034) hw0 hSi (fun c m h => lw_loop hl9 hIv hMo hSt (by rw [e2]; exact hL) hE 513 0 c m ⟨by decide, by decide, h⟩)
  have hH : hp_ D cy (o0_ s.heap.size) s.heap := ⟨fun k q hq => (nomatch hq), ⟨fun i j p q hp => (nomatch hp), fun k q hq => (nomatch hq)⟩, rfl, fun a h => absurd rfl h⟩
  have hE9 : ev_ ka (aa_ (o0_ s.heap.size)) s s.heap := ev_call hev va_S.rf rfl (State.WarmedH.refl s) (fun q h => by
    rcases h with h | h
    · exact absurd h.1 List.not_mem_nil
    · exact h)
  have hl := lv_entry [va_rf (some b)] (n := 7) (by simp [lg_sl, va_rf_cat])
  have ee : lv_args 0 [va_rf (some b)] = [(0, va_rf (some (ka 301)))] := by rw [e1]; simp [lv_args]
  have e3 : rm_ 2048 84000 (o0_ s.heap.size) z = room_1 := by
    show ({ frames := 2048, cells := nx_ z - s.heap.size, slots := sl_ z - 0, locals := 84000 } : Room) = { frames := 2048, cells := 601024, slots := 7293034, locals := 84000 }
    rw [hP.1, hP.2, Nat.add_sub_cancel_left]
  rw [ee] at hl
  have k := hv.2 (tl_rf _) p e s m #[Value.ref b] below meth c ⟨⟨hx, hb, hml, hown, htsT⟩, hr, hlocks, ⟨hnm, htab.trans (tb_no (by decide +kernel)).symm⟩, hK, rfl, hE9⟩ _ hl s.heap [] hH va_S.rf
  have h0 : nx_ (o0_ s.heap.size) - nx_ (o0_ s.heap.size) = 0 := Nat.sub_self _
  have h1 : sl_ (o0_ s.heap.size) - sl_ (o0_ s.heap.size) = 0 := Nat.sub_self _
  rw [e3, h0, h1] at k
  rw [lg_entry_eq]
  exact k
