/-! ROWS: returns of longs, bytes, chars. -/
theorem nb_ {x : Int32} (h : (Int32.toInt8 x).toInt32 = x) : narrow .byte (.int x) = .int x := by rw [← h]; exact pk_nb x
theorem nc_ {x : Int32} (h : (Int32.toUInt32 x % 65536).toInt32 = x) : narrow .char (.int x) = .int x := by rw [← h]; exact pk_nc x
theorem v_lret {l : Launch} {D : va_G} {cy : Nat → ClassId} {ka : Nat → Nat} {cc : ByteArray} {own : String} {maxL : Nat} {nm : String} {fr lo : Nat} {σ0 z σ : TH} {pc : Nat} {L : List (Nat × Value)} {x r : Int64} (hf : some (x, σ) = some (r, z)) (hd : decode cc pc = .ok (.lreturn, 1)) : v_ l D cy ka cc own maxL (some .long) nm fr lo (qf_ D cy σ0 z (some (.long r))) σ0 z σ pc L [.long x] := by
  cases hf
  exact ⟨tl_rf _, fun t p e s m args below meth c C ls hl H locs hH hS => W.lret C.1.1 C.1.2.1 C.2.1 (fun t' ht hW => ⟨rfl, by rw [ht]; exact hH, hS.F ht⟩) hS.2.2 hd C.2.2.1⟩
theorem lsw_out {ps : List (Int × Int)} {dflt x : Int} (h : ∀ q ∈ ps, ¬ x = q.1) : Op.lookupswitch.offset ps dflt x = dflt := by
  induction ps with
  | nil => rfl
  | cons a t ih =>
    obtain ⟨a1, a2⟩ := a
    have h1 := h (a1, a2) List.mem_cons_self
    rw [Op.lookupswitch.offset_cons, if_neg (fun e => h1 e.symm)]
    exact ih (fun q hq => h q (List.mem_cons_of_mem _ hq))
