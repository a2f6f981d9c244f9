/-! The tables' words, and what facts of them stand on. -/
def TBL : List Cond := lw_tbl.filter goodWord
theorem TBL_good : TBL.all goodWord = true := List.all_eq_true.mpr (fun _ h => (List.mem_filter.mp h).2)
theorem TBL_of {w : Cond} (h : w ∈ lw_tbl ∧ goodWord w = true) : w ∈ TBL := List.mem_filter.mpr h
theorem TBL_in : GoodIn TBL TBL := goodIn_sub (fun _ h => h) TBL_good
def nwW_ : Cond → Bool
  | .fieldLinkNest _ _ _ _ _ _ => true
  | .methodLinkNest _ _ _ _ => true
  | .declares _ => true
  | .castable _ _ => true
  | _ => false
def NWL : List Cond := lw_tbl.filter nwW_
/-- the classes, and what each field is: 0 whole number, 1 reference, 2 long -/
abbrev clz : List vw_C := [(RJx4a65c, TJx4a65c, 3), (RX0, TX0, 11), (RX1, TX1, 10), (RX2, TX2, 14), (RX3, TX3, 6), (RX4, TX4, 14), (RX5, TX5, 4), (RX6, TX6, 19), (RX7, TX7, 10), (RX8, TX8, 6), (RX9, TX9, 3), (RX10, TX10, 2), (RX11, TX11, 20), (RX12, TX12, 11), (RX13, TX13, 7), (RX14, TX14, 8), (RX15, TX15, 88)]
def ftl_ : List (List Nat) := [[0, 1, 0], [1, 1, 1, 1, 1, 0, 0, 0, 0, 0, 0], [0, 0, 0, 0, 0, 0, 0, 0, 1, 1], [0, 0, 0, 0, 0, 0, 0, 0, 0, 1, 1, 1, 1, 0], [0, 0, 0, 0, 0, 0], [1, 1, 0, 0, 0, 0, 0, 0, 0, 0, 0, 0, 0, 0], [0, 0, 0, 0], [1, 0, 0, 0, 1, 1, 0, 0, 0, 0, 0, 0, 0, 0, 0, 0, 0, 0, 0], [0, 0, 0, 0, 0, 1, 1, 0, 0, 0], [0, 0, 0, 0, 1, 0], [1, 0, 0], [0, 0], [1, 1, 1, 1, 1, 1, 1, 1, 1, 1, 1, 0, 0, 0, 0, 0, 0, 0, 1, 0], [0, 0, 0, 0, 0, 0, 0, 0, 0, 1, 1], [0, 0, 0, 0, 0, 0, 1], [1, 1, 1, 1, 1, 0, 0, 0], [0, 0, 0, 0, 0, 0, 0, 1, 1, 1, 1, 1, 1, 1, 1, 1, 1, 0, 1, 1, 1, 1, 1, 1, 1, 1, 1, 1, 1, 1, 0, 0, 0, 0, 0, 0, 0, 0, 0, 0, 0, 0, 0, 0, 0, 0, 2, 0, 1, 1, 1, 1, 1, 0, 0, 0, 0, 0, 0, 0, 1, 1, 1, 1, 1, 1, 1, 1, 1, 0, 0, 0, 1, 1, 1, 1, 1, 1, 1, 1, 1, 1, 1, 1, 1, 0, 0, 0]]
def ft_ (c j : Nat) : Nat := (ftl_.getD c []).getD j 0
def fn_ (c : Nat) : Nat := (ftl_.getD c []).length
def cb_ (ci : Nat) (C : String) (T : u_T) (N : Nat) (ty : Nat → FieldType) : Prop := clz[ci]? = some (C, T, N) ∧ fn_ ci = N ∧ ci < 19 ∧ (∀ w ∈ u_ws C T N, w ∈ TBL) ∧ (∀ k, k < N → parseFieldDescriptor (T k).2.2.1 = some (ty k)) ∧ (∀ a, a < N → ∀ b, b < N → a ≠ b → (T a).2.1 ≠ (T b).2.1)
/-- a method's words: its code, its class made ready, its name, how many it takes -/
def yb_ (y : MethodName) (bytes : ByteArray) (maxL : Nat) (ret : Option FieldType) (n : Nat) : Prop := Cond.code y bytes maxL ret ∈ TBL ∧ Cond.initialized y.cls ∈ TBL ∧ (y.cls ≠ "java/lang/invoke/MethodHandle" ∧ y.cls ≠ "java/lang/invoke/VarHandle") ∧ (parseMethodDescriptor y.desc).map (fun d => d.parameters.length) = some n
def dv_ (k : Nat) : Value := match k with
  | 0 => .int 0
  | 1 => .null
  | _ => .long 0
