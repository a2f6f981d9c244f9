/-! ROWS: returns of longs, bytes, chars. -/
theorem nb_ {x : Int32} (h : (Int32.toInt8 x).toInt32 = x) : narrow .byte (.int x) = .int x := by rw [← h]; exact pk_nb x
theorem nc_ {x : Int32} (h : (Int32.toUInt32 x % 65536).toInt32 = x) : narrow .char (.int x) = .int x := by rw [← h]; exact pk_nc x
theorem v_lret {l : Launch} {D : va_G} {cy : Nat → ClassId} {ka : Nat → Nat} {cc : ByteArray} {own : String} {maxL : Nat} {nm : String} {fr lo : Nat} {σ0 z σ : TH} {pc : Nat} {L : List (Nat × Value)} {x r : Int64} (hf : some (x, σ) = some (r, z)) (hd : decode cc pc = .ok (.lreturn, 1)) : v_ l D cy ka cc own maxL (some .long) nm fr lo (qf_ D cy σ0 z (some (.long r))) σ0 z σ pc L [.long x] := by
  cases hf
  exact ⟨tl_rf _, fun t p e s m args below meth c C ls hl H locs hH hS => W.lret C.1.1 C.1.2.1 C.2.1 (fun t' ht hW => ⟨rfl, by rw [ht]; exact hH, hS.F ht⟩) hS.2.2 hd C.2.2.1⟩
theorem lsw_out {ps : List (Int × Int)} {dflt x : Int} (h : ∀ q ∈ ps, ¬ x = q.1) : Op.lookupswitch.offset ps dflt x = dflt := by
  induction ps with
  | nil => rfl
  | cons a t ih =>
    obtain ⟨a1, a2⟩ := a
    have h1 := h (a1, a2) List.mem_cons_self
    rw [Op.lookupswitch.offset_cons, if_neg (fun e => h1 e.symm)]
    exact ih (fun q hq => h q (List.mem_cons_of_mem _ hq))
/-- the length of an array of objects, or of ArrayList's empty one (which lies outside) -/
theorem v_alenE {l : Launch} {D : va_G} {cy : Nat → ClassId} {ka : Nat → Nat} {cc : ByteArray} {own : String} {maxL : Nat} {ret : Option FieldType} {nm : String} {fr lo : Nat} {Qf : QF} {σ0 z σ : TH} {pc : Nat} {L : List (Nat × Value)} {rest : List Value} {a : Nat} {α : Type} {u : α} {f : Int32 → Option α} (hf : gt_ (kd_ σ a = 24 ∨ a = ka 200) (lt_ (if kd_ σ a = 24 then Int32.ofNat (ln_ σ a) else 0) f) = some u) (hd : decode cc pc = .ok (.arraylength, 1)) (k : ∀ x, f x = some u → v_ l D cy ka cc own maxL ret nm fr lo Qf σ0 z σ (pc + 1) L (.int x :: rest)) : v_ l D cy ka cc own maxL ret nm fr lo Qf σ0 z σ pc L (va_rf (some a) :: rest) := by
  obtain ⟨h1, hf2⟩ := gt_of hf
  clear hf
  by_cases h24 : kd_ σ a = 24
  · rw [if_pos h24] at hf2
    exact v_alen 23 4 (.object "java/lang/Object") h24 (by decide) rfl hf2 hd k
  · rw [if_neg h24] at hf2
    have h2 : a = ka 200 := h1.resolve_left h24
    subst h2
    have k := k _ hf2
    exact ⟨k.1, fun t p e s m args below meth c C' ls hl H locs hH hS => va_tlen C'.1.1 C'.1.2.1 C'.2.2.2.2.2.2.2.2.2.2.1.2 hS rfl hd (k.2 t p e s m args below meth c C' ls hl H locs hH hS)⟩
