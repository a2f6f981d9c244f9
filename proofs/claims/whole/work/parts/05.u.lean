/-! WHAT STANDS OUTSIDE the typed heap and never changes: links of nest mates, String constants, statics. ka: addresses: 0 .. 17 the texts, 100 .. 117 their bytes, 200 ArrayList's empty array, 201 the mirror of Object[], 301 the script, 302 its length, 1000 and on its ints. -/
/-- where a static field lies, its class's statics cell in H -/
def vx_L (C n d : String) (A : Nat → Prop) (U : State) (H : Heap) : Prop := ∃ (c : ClassId) (k : Class) (i : Nat) (f : Field) (a : Nat) (cell : Cell), U.vm.findClass C = some c ∧ U.fieldFound? C n d = some (c, k, i, f) ∧ f.isStatic = true ∧ k.statics = some a ∧ H[a]? = some cell ∧ cell.vm.isStatics = true ∧ cell.cls = c ∧ f.slot < cell.slots.size ∧ k.staticTypes[f.slot]? = some f.type ∧ ¬ A a
theorem vx_L.moved {C n d : String} {A : Nat → Prop} {u U : State} {H : Heap} (hvm : u.vm.Alike U.vm) (h : vx_L C n d A u H) : vx_L C n d A U H := by
  obtain ⟨c, k, i, f, a, cell, h1, h2, h3, h4, h5, h6, h7, h8, h9, h10⟩ := h
  obtain ⟨k', hi', he⟩ := State.fieldFound?_setVm hvm h2
  exact ⟨c, k', i, f, a, cell, by rw [hvm.findClass]; exact h1, hi', h3, by rw [he]; exact h4, h5, h6, h7, h8, by rw [he]; exact h9, h10⟩
theorem vx_L.kept {C n d : String} {A : Nat → Prop} {U : State} {H H1 : Heap} (h : vx_L C n d A U H) (hq : ∀ a : Nat, a < H.size → ¬ A a → H1[a]? = H[a]?) : vx_L C n d A U H1 := by
  obtain ⟨c, k, i, f, a, cell, h1, h2, h3, h4, h5, h6, h7, h8, h9, h10⟩ := h
  exact ⟨c, k, i, f, a, cell, h1, h2, h3, h4, by rw [hq a (Array.getElem?_eq_some_iff.mp h5).1 h10]; exact h5, h6, h7, h8, h9, h10⟩
theorem vx_L.narrow {C n d : String} {A B : Nat → Prop} {U : State} {H : Heap} (h : vx_L C n d A U H) (hAB : ∀ q, B q → A q) : vx_L C n d B U H := by
  obtain ⟨c, k, i, f, a, cell, h1, h2, h3, h4, h5, h6, h7, h8, h9, h10⟩ := h
  exact ⟨c, k, i, f, a, cell, h1, h2, h3, h4, h5, h6, h7, h8, h9, fun z => h10 (hAB _ z)⟩
theorem vx_L.word {C n d : String} {A : Nat → Prop} {s : State} {args : Array Value} (h : vx_L C n d A s s.heap) : (Cond.laysStatic C n d).before args s = true := by
  obtain ⟨c, k, i, f, a, cell, h1, h2, h3, h4, h5, h6, h7, h8, h9, -⟩ := h
  show (Cond.laysStatic C n d).holds args s none s [] = true
  exact Cond.laysStatic_of h1 h2 h3 h4 h5 h6 h7 h8 h9
/-- .. and what it holds: null or some reference -/
def vx_Zq (C n d : String) (A : Nat → Prop) (U : State) (H : Heap) : Prop := va_Zq C n d A U H ∧ vx_L C n d A U H
theorem vx_Zq.moved {C n d : String} {A : Nat → Prop} {u U : State} {H : Heap} (hvm : u.vm.Alike U.vm) (h : vx_Zq C n d A u H) : vx_Zq C n d A U H := ⟨va_Zq.moved hvm h.1, vx_L.moved hvm h.2⟩
theorem vx_Zq.kept {C n d : String} {A : Nat → Prop} {U : State} {H H1 : Heap} (h : vx_Zq C n d A U H) (hq : ∀ a : Nat, a < H.size → ¬ A a → H1[a]? = H[a]?) : vx_Zq C n d A U H1 := ⟨va_Zq.kept h.1 hq, vx_L.kept h.2 hq⟩
theorem vx_Zq.narrow {C n d : String} {A B : Nat → Prop} {U : State} {H : Heap} (h : vx_Zq C n d A U H) (hAB : ∀ q, B q → A q) : vx_Zq C n d B U H := ⟨va_Zq.narrow h.1 hAB, vx_L.narrow h.2 hAB⟩
theorem vx_Zqof {args : Array Value} {s : State} {C n d : String} {A : Nat → Prop} (hl : (Cond.laysStatic C n d).before args s = true) (hini : (Cond.initialized C).before args s = true) (h : (Cond.isRef (.static C n d)).before args s = true) (hA : ∀ a : Nat, a < s.heap.size → ¬ A a) : vx_Zq C n d A s s.heap := by
  refine ⟨va_Zqof hl hini h hA, ?_⟩
  obtain ⟨c, k, i, f, a, cell, h1, h2, h3, h4, h5, h6, h7, h8, h9⟩ := Cond.laysStatic_spec hl
  exact ⟨c, k, i, f, a, cell, h1, h2, h3, h4, h5, h6, h7, h8, h9, hA a (Array.getElem?_eq_some_iff.mp h5).1⟩
theorem nw_tab {w : Cond} (h : nwW_ w = true) : w.onTables = true := by cases w <;> first | rfl | cases h
theorem nw_warm {w : Cond} (h : nwW_ w = true) {s U : State} (hW : s.WarmedH U.vm) (hZ : va_Nw w s) : va_Nw w U := by
  cases w <;> first | exact va_Nw.warmF hW hZ | exact va_Nw.warmM hW hZ | exact va_Nw.warmD hW hZ | exact va_Nw.warmC hW hZ | cases h
def SRL : List (String × Nat × String × Nat) := [(RX6, 155, "if", 0), (RX6, 161, "or", 1), (RX6, 188, "and", 2), (RX6, 190, "not", 3), (RX6, 192, "has", 4), (RX6, 194, "age", 5), (RX6, 196, "kin", 6), (RX6, 166, "dead", 7), (RX6, 168, "born", 8), (RX6, 170, "year", 9), (RX6, 172, "stale", 10), (RX6, 174, "worth", 11), (RX6, 176, "rival", 12), (RX6, 178, "hours", 13), (RX6, 180, "doctor", 14), (RX6, 182, "office", 15), (RX6, 184, "agency", 16), (RX6, 186, "sources", 17), (RX15, 355, "if", 0), (RX15, 379, "and", 2), (RX15, 381, "or", 1), (RX15, 383, "not", 3), (RX15, 392, "has", 4), (RX15, 394, "stale", 10), (RX15, 411, "dead", 7), (RX15, 446, "kin", 6), (RX15, 448, "doctor", 14), (RX15, 450, "office", 15), (RX15, 452, "agency", 16), (RX15, 454, "rival", 12), (RX15, 443, "sources", 17), (RX15, 445, "hours", 13), (RX15, 434, "age", 5), (RX15, 439, "worth", 11), (RX15, 436, "born", 8), (RX15, 437, "year", 9)]
def stl_ : List Nat := [2, 2, 3, 3, 3, 3, 3, 4, 4, 4, 5, 5, 5, 5, 6, 6, 6, 7]
def stb_ : List (List Int32) := [[105, 102], [111, 114], [97, 110, 100], [110, 111, 116], [104, 97, 115], [97, 103, 101], [107, 105, 110], [100, 101, 97, 100], [98, 111, 114, 110], [121, 101, 97, 114], [115, 116, 97, 108, 101], [119, 111, 114, 116, 104], [114, 105, 118, 97, 108], [104, 111, 117, 114, 115], [100, 111, 99, 116, 111, 114], [111, 102, 102, 105, 99, 101], [97, 103, 101, 110, 99, 121], [115, 111, 117, 114, 99, 101, 115]]
def AOL : List String := ["java/lang/Object", RX8, RX9, RX13, RX12]
def ev_ (ka : Nat → Nat) (A : Nat → Prop) (U : State) (H : Heap) : Prop :=
  (∀ w ∈ NWL, va_Nw w U) ∧ (∀ q ∈ SRL, vk_R q.1 q.2.1 q.2.2.1 (ka q.2.2.2) U) ∧ vk_S 18 stl_ stb_ ka (fun i => ka (100 + i)) A U H ∧ va_Z "java/lang/String" "COMPACT_STRINGS" "Z" (.int 1) A U H ∧ (va_Z "java/util/ArrayList" "DEFAULTCAPACITY_EMPTY_ELEMENTDATA" "[Ljava/lang/Object;" (.ref (ka 200)) A U H ∧ va_T (.object "java/lang/Object") (ka 200) 0 (fun _ => .null) A U H) ∧
  va_Zq "jdk/internal/util/Preconditions" "SIOOBE_FORMATTER" "Ljava/util/function/BiFunction;" A U H ∧ vx_Zq "java/lang/Throwable" "SUPPRESSED_SENTINEL" "Ljava/util/List;" A U H ∧ vx_Zq "java/lang/Throwable" "UNASSIGNED_STACK" "[Ljava/lang/StackTraceElement;" A U H ∧ va_Mi "[Ljava/lang/Object;" (ka 201) U ∧ va_T .int (ka 301) (ka 302) (fun j => .int (Int32.ofNat (ka (1000 + j)))) A U H ∧ ∀ C ∈ AOL, va_AO C U
theorem ev_call {ka : Nat → Nat} {A B : Nat → Prop} {s U : State} {H : Heap} {locs : List Loc} (h : ev_ ka A s s.heap) (hS : va_S A s.heap H locs) (hU : U.heap = H) (hW : s.WarmedH U.vm) (hAB : ∀ q, B q → A q) : ev_ ka B U U.heap := by
  obtain ⟨h1, h2, h3, h4, h5, h6, h7, h8, h9, h11, h10⟩ := h
  have ha := hW.alike
  have hk : ∀ a : Nat, a < s.heap.size → ¬ A a → U.heap[a]? = s.heap[a]? := fun a q1 q2 => by rw [hU]; exact hS.2.1 a q1 q2
  exact ⟨fun w hw => nw_warm (List.mem_filter.mp hw).2 hW (h1 w hw), fun q hq => vk_R.warm hW (h2 q hq), ((h3.moved ha).kept hk).narrow hAB, ((h4.moved ha).kept hk).narrow hAB, ⟨((h5.1.moved ha).kept hk).narrow hAB, ((h5.2.moved ha).kept hk).narrow hAB⟩, ((h6.moved ha).kept hk).narrow hAB, ((h7.moved ha).kept hk).narrow hAB, ((h8.moved ha).kept hk).narrow hAB, va_Mi.moved ha h9, ((h11.moved ha).kept hk).narrow hAB, fun C hC => va_AO.moved ha (h10 C hC)⟩
theorem ev_frame {ka : Nat → Nat} {A : Nat → Prop} {U U' : State} (h : ev_ ka A U U.heap) (hv : U'.vm = U.vm) (hh : U'.heap = U.heap) : ev_ ka A U' U'.heap := by
  obtain ⟨h1, h2, h3, h4, h5, h6, h7, h8, h9, h11, h10⟩ := h
  have ha : U.vm.Alike U'.vm := by rw [hv]; exact Vm.Alike.refl _
  have hk : ∀ a : Nat, a < U.heap.size → ¬ A a → U'.heap[a]? = U.heap[a]? := fun a q1 q2 => by rw [hh]
  exact ⟨fun w hw => va_Nw.same (nw_tab (List.mem_filter.mp hw).2) hv.symm (h1 w hw), fun q hq => vk_R.same hv (h2 q hq), (h3.moved ha).kept hk, (h4.moved ha).kept hk, ⟨(h5.1.moved ha).kept hk, (h5.2.moved ha).kept hk⟩, (h6.moved ha).kept hk, (h7.moved ha).kept hk, (h8.moved ha).kept hk, va_Mi.moved ha h9, (h11.moved ha).kept hk, fun C hC => va_AO.moved ha (h10 C hC)⟩
