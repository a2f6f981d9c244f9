/-! how often a loop may go round, at most; what the generator's parts need besides -/
def fu_ : Nat := 40000
theorem kw_same : Cond.sameField "java/util/ArrayList" "java/util/AbstractList" "modCount" "I" ∈ TBL := kT_ 60 (by decide +kernel) (by decide +kernel)
theorem cat_i (x : Int32) : (Value.int x).category = 1 := rfl
theorem cat_l (x : Int64) : (Value.long x).category = 2 := rfl
section V12
variable {l : Launch} {D : va_G} {cy : Nat → ClassId} {ka : Nat → Nat} {cc : ByteArray} {own : String} {maxL : Nat} {ret : Option FieldType} {nm : String} {fr lo : Nat} {Qf : QF} {σ0 z σ : TH} {pc : Nat} {L : List (Nat × Value)} {rest : List Value}
theorem kw_mmaxs : Cond.static Lib.Math.max.name ∈ TBL := kT_ 350 (by decide +kernel) (by decide +kernel)
theorem kw_mmaxc : Cond.code Lib.Math.max.name Lib.Math.max.code 2 (some .int) ∈ TBL := kT_ 351 (by decide +kernel) (by decide +kernel)
theorem v_mmax {index : Nat} {x y : Int32} (hw : Cond.methodLink own index Lib.Math.max.name ∈ TBL) (hi : Cond.initialized "java/lang/Math" ∈ TBL) (hfr : 1 ≤ fr) (hlo : 21 ≤ lo) (hc : (rest.map fun v => v.category).sum ≤ 8) (hd : decode cc pc = .ok (.invokestatic index, 3)) (k : v_ l D cy ka cc own maxL ret nm fr lo Qf σ0 z σ (pc + 3) L (.int (if x < y then y else x) :: rest)) : v_ l D cy ka cc own maxL ret nm fr lo Qf σ0 z σ pc L (.int y :: .int x :: rest) := by
  refine ⟨k.1, fun t p e s m args below meth c C' ls hl H locs hH hS => ?_⟩
  have h1 := t.1; have h2 := t.2.1; have h3 := k.1.1; have h4 := k.1.2.1
  exact va_mmax C'.1.1 C'.1.2.1 (by rw [C'.1.2.2.1]; exact hl.1.symm) C'.1.2.2.2.1 (C'.1.2.2.2.2 _ hw) (C'.1.2.2.2.2 _ kw_mmaxs) (C'.1.2.2.2.2 _ hi) (C'.1.2.2.2.2 _ kw_mmaxc) hfr (by show _ ≤ lo; omega) (by show _ ≤ nx_ z - nx_ σ0; omega) (by show _ ≤ sl_ z - sl_ σ0; omega) hd (k.2 t p e s m args below meth c C' ls hl H locs hH hS)
theorem kw_mmins : Cond.static Lib.Math.min.name ∈ TBL := kT_ 388 (by decide +kernel) (by decide +kernel)
theorem kw_mminc : Cond.code Lib.Math.min.name Lib.Math.min.code 2 (some .int) ∈ TBL := kT_ 389 (by decide +kernel) (by decide +kernel)
theorem v_mmin {index : Nat} {x y : Int32} (hw : Cond.methodLink own index Lib.Math.min.name ∈ TBL) (hi : Cond.initialized "java/lang/Math" ∈ TBL) (hfr : 1 ≤ fr) (hlo : 21 ≤ lo) (hc : (rest.map fun v => v.category).sum ≤ 8) (hd : decode cc pc = .ok (.invokestatic index, 3)) (k : v_ l D cy ka cc own maxL ret nm fr lo Qf σ0 z σ (pc + 3) L (.int (if y < x then y else x) :: rest)) : v_ l D cy ka cc own maxL ret nm fr lo Qf σ0 z σ pc L (.int y :: .int x :: rest) := by
  refine ⟨k.1, fun t p e s m args below meth c C' ls hl H locs hH hS => ?_⟩
  have h1 := t.1; have h2 := t.2.1; have h3 := k.1.1; have h4 := k.1.2.1
  exact va_mmin C'.1.1 C'.1.2.1 (by rw [C'.1.2.2.1]; exact hl.1.symm) C'.1.2.2.2.1 (C'.1.2.2.2.2 _ hw) (C'.1.2.2.2.2 _ kw_mmins) (C'.1.2.2.2.2 _ hi) (C'.1.2.2.2.2 _ kw_mminc) hfr (by show _ ≤ lo; omega) (by show _ ≤ nx_ z - nx_ σ0; omega) (by show _ ≤ sl_ z - sl_ σ0; omega) hd (k.2 t p e s m args below meth c C' ls hl H locs hH hS)
theorem kw_mabss : Cond.static Lib.Math.abs.name ∈ TBL := kT_ 934 (by decide +kernel) (by decide +kernel)
theorem kw_mabsc : Cond.code Lib.Math.abs.name Lib.Math.abs.code 1 (some .int) ∈ TBL := kT_ 935 (by decide +kernel) (by decide +kernel)
theorem v_mabs {index : Nat} {x : Int32} (hw : Cond.methodLink own index Lib.Math.abs.name ∈ TBL) (hi : Cond.initialized "java/lang/Math" ∈ TBL) (hfr : 1 ≤ fr) (hlo : 21 ≤ lo) (hc : (rest.map fun v => v.category).sum ≤ 8) (hd : decode cc pc = .ok (.invokestatic index, 3)) (k : v_ l D cy ka cc own maxL ret nm fr lo Qf σ0 z σ (pc + 3) L (.int (if 0 ≤ x then x else 0 - x) :: rest)) : v_ l D cy ka cc own maxL ret nm fr lo Qf σ0 z σ pc L (.int x :: rest) := by
  refine ⟨k.1, fun t p e s m args below meth c C' ls hl H locs hH hS => ?_⟩
  have h1 := t.1; have h2 := t.2.1; have h3 := k.1.1; have h4 := k.1.2.1
  exact va_mabs C'.1.1 C'.1.2.1 (by rw [C'.1.2.2.1]; exact hl.1.symm) C'.1.2.2.2.1 (C'.1.2.2.2.2 _ hw) (C'.1.2.2.2.2 _ kw_mabss) (C'.1.2.2.2.2 _ hi) (C'.1.2.2.2.2 _ kw_mabsc) hfr (by show _ ≤ lo; omega) (by show _ ≤ nx_ z - nx_ σ0; omega) (by show _ ≤ sl_ z - sl_ σ0; omega) hd (k.2 t p e s m args below meth c C' ls hl H locs hH hS)
end V12
