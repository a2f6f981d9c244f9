/-! WHAT STANDS OUTSIDE the typed heap and never changes: links of nest mates, String constants, statics. ka: addresses: 0 .. 17 the texts, 100 .. 117 their bytes, 200 ArrayList's empty array, 201 the mirror of Object[]. -/
def nwW_ : Cond → Bool
  | .fieldLinkNest _ _ _ _ _ _ => true
  | .methodLinkNest _ _ _ _ => true
  | .declares _ => true
  | .castable _ _ => true
  | _ => false
def NWL : List Cond := lw_tbl.filter nwW_
theorem nw_tab {w : Cond} (h : nwW_ w = true) : w.onTables = true := by cases w <;> first | rfl | cases h
theorem nw_warm {w : Cond} (h : nwW_ w = true) {s U : State} (hW : s.WarmedH U.vm) (hZ : va_Nw w s) : va_Nw w U := by
  cases w <;> first | exact va_Nw.warmF hW hZ | exact va_Nw.warmM hW hZ | exact va_Nw.warmD hW hZ | exact va_Nw.warmC hW hZ | cases h
def SRL : List (String × Nat × String × Nat) := [(RX6, 155, "if", 0), (RX6, 161, "or", 1), (RX6, 188, "and", 2), (RX6, 190, "not", 3), (RX6, 192, "has", 4), (RX6, 194, "age", 5), (RX6, 196, "kin", 6), (RX6, 166, "dead", 7), (RX6, 168, "born", 8), (RX6, 170, "year", 9), (RX6, 172, "stale", 10), (RX6, 174, "worth", 11), (RX6, 176, "rival", 12), (RX6, 178, "hours", 13), (RX6, 180, "doctor", 14), (RX6, 182, "office", 15), (RX6, 184, "agency", 16), (RX6, 186, "sources", 17), (RX15, 355, "if", 0), (RX15, 379, "and", 2), (RX15, 381, "or", 1), (RX15, 383, "not", 3), (RX15, 392, "has", 4), (RX15, 394, "stale", 10), (RX15, 411, "dead", 7), (RX15, 446, "kin", 6), (RX15, 448, "doctor", 14), (RX15, 450, "office", 15), (RX15, 452, "agency", 16), (RX15, 454, "rival", 12), (RX15, 443, "sources", 17), (RX15, 445, "hours", 13), (RX15, 434, "age", 5), (RX15, 439, "worth", 11), (RX15, 436, "born", 8), (RX15, 437, "year", 9)]
def stl_ : List Nat := [2, 2, 3, 3, 3, 3, 3, 4, 4, 4, 5, 5, 5, 5, 6, 6, 6, 7]
def stb_ : List (List Int32) := [[105, 102], [111, 114], [97, 110, 100], [110, 111, 116], [104, 97, 115], [97, 103, 101], [107, 105, 110], [100, 101, 97, 100], [98, 111, 114, 110], [121, 101, 97, 114], [115, 116, 97, 108, 101], [119, 111, 114, 116, 104], [114, 105, 118, 97, 108], [104, 111, 117, 114, 115], [100, 111, 99, 116, 111, 114], [111, 102, 102, 105, 99, 101], [97, 103, 101, 110, 99, 121], [115, 111, 117, 114, 99, 101, 115]]
def AOL : List String := ["java/lang/Object", RX8, RX9, RX13, RX12]
def ev_ (ka : Nat → Nat) (A : Nat → Prop) (U : State) (H : Heap) : Prop :=
  (∀ w ∈ NWL, va_Nw w U) ∧ (∀ q ∈ SRL, vk_R q.1 q.2.1 q.2.2.1 (ka q.2.2.2) U) ∧ vk_S 18 stl_ stb_ ka (fun i => ka (100 + i)) A U H ∧ va_Z "java/lang/String" "COMPACT_STRINGS" "Z" (.int 1) A U H ∧ va_Z "java/util/ArrayList" "DEFAULTCAPACITY_EMPTY_ELEMENTDATA" "[Ljava/lang/Object;" (.ref (ka 200)) A U H ∧
  va_Zq "jdk/internal/util/Preconditions" "SIOOBE_FORMATTER" "Ljava/util/function/BiFunction;" A U H ∧ va_Zq "java/lang/Throwable" "SUPPRESSED_SENTINEL" "Ljava/util/List;" A U H ∧ va_Zq "java/lang/Throwable" "UNASSIGNED_STACK" "[Ljava/lang/StackTraceElement;" A U H ∧ va_Mi "[Ljava/lang/Object;" (ka 201) U ∧ ∀ C ∈ AOL, va_AO C U
theorem ev_call {ka : Nat → Nat} {A B : Nat → Prop} {s U : State} {H : Heap} {locs : List Loc} (h : ev_ ka A s s.heap) (hS : va_S A s.heap H locs) (hU : U.heap = H) (hW : s.WarmedH U.vm) (hAB : ∀ q, B q → A q) : ev_ ka B U U.heap := by
  obtain ⟨h1, h2, h3, h4, h5, h6, h7, h8, h9, h10⟩ := h
  have ha := hW.alike
  have hk : ∀ a : Nat, a < s.heap.size → ¬ A a → U.heap[a]? = s.heap[a]? := fun a q1 q2 => by rw [hU]; exact hS.2.1 a q1 q2
  exact ⟨fun w hw => nw_warm (List.mem_filter.mp hw).2 hW (h1 w hw), fun q hq => vk_R.warm hW (h2 q hq), ((h3.moved ha).kept hk).narrow hAB, ((h4.moved ha).kept hk).narrow hAB, ((h5.moved ha).kept hk).narrow hAB, ((h6.moved ha).kept hk).narrow hAB, ((h7.moved ha).kept hk).narrow hAB, ((h8.moved ha).kept hk).narrow hAB, va_Mi.moved ha h9, fun C hC => va_AO.moved ha (h10 C hC)⟩
theorem ev_frame {ka : Nat → Nat} {A : Nat → Prop} {U U' : State} (h : ev_ ka A U U.heap) (hv : U'.vm = U.vm) (hh : U'.heap = U.heap) : ev_ ka A U' U'.heap := by
  obtain ⟨h1, h2, h3, h4, h5, h6, h7, h8, h9, h10⟩ := h
  have ha : U.vm.Alike U'.vm := by rw [hv]; exact Vm.Alike.refl _
  have hk : ∀ a : Nat, a < U.heap.size → ¬ A a → U'.heap[a]? = U.heap[a]? := fun a q1 q2 => by rw [hh]
  exact ⟨fun w hw => va_Nw.same (nw_tab (List.mem_filter.mp hw).2) hv.symm (h1 w hw), fun q hq => vk_R.same hv (h2 q hq), (h3.moved ha).kept hk, (h4.moved ha).kept hk, (h5.moved ha).kept hk, (h6.moved ha).kept hk, (h7.moved ha).kept hk, (h8.moved ha).kept hk, va_Mi.moved ha h9, fun C hC => va_AO.moved ha (h10 C hC)⟩
