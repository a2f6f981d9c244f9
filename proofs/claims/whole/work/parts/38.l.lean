/-! The law, its loop and its start. Written by wip/gen/mklaw.py. -/
def Sts_ (ka : Nat → Nat) (x y o : Nat) (Inv : Nat → TH → TH → Prop) : Prop := St_writer ka x y Inv ∧ St_hours ka x y Inv ∧ St_bury ka x y Inv ∧ St_person ka x y Inv ∧ St_about ka x y Inv ∧ St_peril ka x y Inv ∧ St_keeps ka x y Inv ∧ St_fact ka x y Inv ∧ St_check ka x y Inv ∧ St_known ka x y Inv ∧ St_knownOn ka x y Inv ∧ St_ages ka x y Inv ∧ St_alike ka x y Inv ∧ St_apart ka x y Inv ∧ St_feed ka x y Inv ∧ St_paragraph ka x y Inv ∧ St_rewrite ka x y Inv ∧ St_fault ka x y Inv ∧ St_where ka x y Inv ∧ St_paragraphOf ka x y Inv ∧ St_print ka x y Inv ∧ St_out ka x y o Inv ∧ St_cut ka x y Inv ∧ St_cutOf ka x y Inv ∧ St_cutLong ka x y Inv ∧ St_rule ka x y Inv ∧ St_report ka x y Inv ∧ St_rumour ka x y Inv ∧ St_fits ka x y Inv ∧ St_withdraw ka x y Inv ∧ St_may ka x y Inv ∧ St_tell ka x y Inv ∧ St_picture ka x y Inv ∧ St_used ka x y Inv ∧ St_ask ka x y Inv ∧ St_answer ka x y Inv ∧ St_embargo ka x y Inv ∧ St_edition ka x y Inv ∧ St_editionOf ka x y Inv ∧ St_wrong ka x y Inv ∧ St_correct ka x y Inv ∧ St_said ka x y Inv ∧ St_week ka x y Inv ∧ St_fresh ka x y Inv ∧ St_takes ka x y Inv ∧ St_freshen ka x y Inv ∧ St_pass ka x y Inv ∧ St_count ka x y Inv ∧ St_trouble ka x y Inv
theorem lw_i {N : Nat} (h : N ≤ 5120) : (Int32.ofNat N - 10).toInt = (N : Int) - 10 ∧ ∀ n : Nat, n ≤ 513 → (Int32.ofNat (10 * n)).toInt = ((10 * n : Nat) : Int) := by
  have h1 : (Int32.ofNat N).toInt = (N : Int) := Int32.toInt_ofNat_of_lt (by omega)
  have h2 : (10 : Int32).toInt = 10 := by decide
  refine ⟨?_, fun n hn => Int32.toInt_ofNat_of_lt (by omega)⟩
  rw [Int32.toInt_sub, h1, h2]
  exact Int.bmod_eq_of_le (by omega) (by omega)
theorem lw_lt {n N : Nat} (hb : 10 * n + 10 ≤ N) (h : N ≤ 5120) : ¬ Int32.ofNat N - 10 < Int32.ofNat (10 * n) := by
  rw [Int32.lt_iff_toInt_lt, (lw_i h).1, (lw_i h).2 n (by omega)]
  omega
theorem lw_gt {n N : Nat} (hb : ¬ 10 * n + 10 ≤ N) (h : N ≤ 5120) (hn : n ≤ 513) : Int32.ofNat N - 10 < Int32.ofNat (10 * n) := by
  rw [Int32.lt_iff_toInt_lt, (lw_i h).1, (lw_i h).2 n hn]
  omega
set_option maxHeartbeats 8000000 in
set_option maxRecDepth 100000 in
theorem lw_loop {l : Launch} {D : va_G} {cy : Nat → ClassId} {ka : Nat → Nat} {Qf : QF} {σ0 : TH} {Pz : TH → Prop} {x y o n0 s0 : Nat} {Inv : Nat → TH → TH → Prop} (hl9 : l.stackTraces = false) (hI : iv_ x y o n0 s0 Inv) (hM : ∀ n c m, Inv n c m → Inv (n + 1) c m) (hS : Sts_ ka x y o Inv) (hN : ka 302 ≤ 5120) (hE : ∀ n c m, n ≤ 512 → Inv n c m → ∃ z, Pz z ∧ ∀ L, lwv_ l D cy ka Qf σ0 z (jn_ c m) 2150 L []) : ∀ (k n : Nat) (c m : TH), 513 - n ≤ k ∧ n ≤ 512 ∧ Inv n c m → ∃ z, Pz z ∧ lwv_ l D cy ka Qf σ0 z (jn_ c m) 23 (lwL_ ka x y o n) [] := by
  intro k
  induction k with
  | zero => intro n c m h; exact absurd h.1 (by have := h.2.1; omega)
  | succ k ih =>
    intro n c m ⟨hk, hle, hInv⟩
    obtain ⟨s0, s1, s2, s3, s4, s5, s6, s7, s8, s9, s10, s11, s12, s13, s14, s15, s16, s17, s18, s19, s20, s21, s22, s23, s24, s25, s26, s27, s28, s29, s30, s31, s32, s33, s34, s35, s36, s37, s38, s39, s40, s41, s42, s43, s44, s45, s46, s47, s48⟩ := hS
    by_cases hb : 10 * n + 10 ≤ ka 302
    · have hn : n < 512 := by omega
      have hgo : ∀ c1 m1, Inv (n + 1) c1 m1 → ∃ z, Pz z ∧ lwv_ l D cy ka Qf σ0 z (jn_ c1 m1) 2144 (lwL_ ka x y o n) [] := fun c1 m1 h => by
        obtain ⟨z, hP, k9⟩ := ih (n + 1) c1 m1 ⟨by omega, by omega, h⟩
        refine ⟨z, hP, ?_⟩
        refine v_iinc (v := Int32.ofNat (10 * (n + 1))) (lwL_ ka x y o (n + 1)) dL_law_2144 0 rfl ?_ (by decide) (by simp [va_rf_cat, cat_i, cat_l]) ?_
        · rw [show 10 * (n + 1) = 10 * n + 10 by omega, Int32.ofNat_add]; rfl
        · exact v_goto (tgt := 23) dL_law_2147 (by decide) k9
      suffices hs : ∃ z, Pz z ∧ lwv_ l D cy ka Qf σ0 z (jn_ c m) 40 (lwL_ ka x y o n) [.int (sx_ ka n 0 &&& 63)] by
        obtain ⟨z, hP, k9⟩ := hs
        refine ⟨z, hP, ?_⟩
        obtain ⟨e1, e2, e3⟩ := ix_ (j := 0) (by decide) hb hN
        refine v_iload (x := Int32.ofNat (10 * n)) dL_law_23 0 rfl ?_
        refine v_aload_n (x := some (ka 301)) dL_law_25 rfl 4 rfl ?_
        refine v_lwlen dL_law_26 ?_
        refine v_bipush (v := 10) dL_law_27 (by decide) ?_
        refine v_isub dL_law_29 ?_
        refine v_icmp_gt (tgt := 2150) (A := none) (B := some ()) (u := ()) (if_neg (lw_lt hb hN)) dL_law_30 (by decide) (fun _ h9 => by cases h9) (fun _ _ => ?_)
        refine v_aload_n (x := some (ka 301)) dL_law_33 rfl 4 rfl ?_
        refine v_iload (x := Int32.ofNat (10 * n)) dL_law_34 0 rfl ?_
        refine v_lwld e3 dL_law_36 ?_
        refine v_bipush (v := 63) dL_law_37 (by decide) ?_
        refine v_iand dL_law_39 ?_
        rw [show (Int32.ofNat (10 * n)).toNatClampNeg = 10 * n + 0 from e2]
        exact k9
      generalize hv : sx_ ka n 0 &&& 63 = v
      by_cases hq0 : v = 0
      · obtain ⟨z, hP, k9⟩ := lw_writer (n := n) (Pz := Pz) (Qf := Qf) (σ0 := σ0) (D := D) (cy := cy) (l := l) hI s0 hn hInv hb hN hgo
        exact ⟨z, hP, v_tswIn (tgt := 252) (c9 := 0) hq0 dL_law_40 (by decide) (by decide) rfl (by decide) k9⟩
      by_cases hq1 : v = 1
      · obtain ⟨z, hP, k9⟩ := lw_hours (n := n) (Pz := Pz) (Qf := Qf) (σ0 := σ0) (D := D) (cy := cy) (l := l) hI s1 hn hInv hb hN hgo
        exact ⟨z, hP, v_tswIn (tgt := 277) (c9 := 1) hq1 dL_law_40 (by decide) (by decide) rfl (by decide) k9⟩
      by_cases hq2 : v = 2
      · obtain ⟨z, hP, k9⟩ := lw_bury (n := n) (Pz := Pz) (Qf := Qf) (σ0 := σ0) (D := D) (cy := cy) (l := l) hI s2 hn hInv hb hN hgo
        exact ⟨z, hP, v_tswIn (tgt := 314) (c9 := 2) hq2 dL_law_40 (by decide) (by decide) rfl (by decide) k9⟩
      by_cases hq3 : v = 3
      · obtain ⟨z, hP, k9⟩ := lw_person (n := n) (Pz := Pz) (Qf := Qf) (σ0 := σ0) (D := D) (cy := cy) (l := l) hI s3 hn hInv hb hN hgo
        exact ⟨z, hP, v_tswIn (tgt := 339) (c9 := 3) hq3 dL_law_40 (by decide) (by decide) rfl (by decide) k9⟩
      by_cases hq4 : v = 4
      · obtain ⟨z, hP, k9⟩ := lw_about (n := n) (Pz := Pz) (Qf := Qf) (σ0 := σ0) (D := D) (cy := cy) (l := l) hI s4 hn hInv hb hN hgo
        exact ⟨z, hP, v_tswIn (tgt := 400) (c9 := 4) hq4 dL_law_40 (by decide) (by decide) rfl (by decide) k9⟩
      by_cases hq5 : v = 5
      · obtain ⟨z, hP, k9⟩ := lw_peril (n := n) (Pz := Pz) (Qf := Qf) (σ0 := σ0) (D := D) (cy := cy) (l := l) hI s5 hn hInv hb hN hgo
        exact ⟨z, hP, v_tswIn (tgt := 437) (c9 := 5) hq5 dL_law_40 (by decide) (by decide) rfl (by decide) k9⟩
      by_cases hq6 : v = 6
      · obtain ⟨z, hP, k9⟩ := lw_keeps (n := n) (Pz := Pz) (Qf := Qf) (σ0 := σ0) (D := D) (cy := cy) (l := l) hI s6 hn hInv hb hN hgo
        exact ⟨z, hP, v_tswIn (tgt := 490) (c9 := 6) hq6 dL_law_40 (by decide) (by decide) rfl (by decide) k9⟩
      by_cases hq7 : v = 7
      · obtain ⟨z, hP, k9⟩ := lw_fact (n := n) (Pz := Pz) (Qf := Qf) (σ0 := σ0) (D := D) (cy := cy) (l := l) hI s7 hn hInv hb hN hgo
        exact ⟨z, hP, v_tswIn (tgt := 527) (c9 := 7) hq7 dL_law_40 (by decide) (by decide) rfl (by decide) k9⟩
      by_cases hq8 : v = 8
      · obtain ⟨z, hP, k9⟩ := lw_check (n := n) (Pz := Pz) (Qf := Qf) (σ0 := σ0) (D := D) (cy := cy) (l := l) hI s8 hn hInv hb hN hgo
        exact ⟨z, hP, v_tswIn (tgt := 604) (c9 := 8) hq8 dL_law_40 (by decide) (by decide) rfl (by decide) k9⟩
      by_cases hq9 : v = 9
      · obtain ⟨z, hP, k9⟩ := lw_known (n := n) (Pz := Pz) (Qf := Qf) (σ0 := σ0) (D := D) (cy := cy) (l := l) hI s9 hn hInv hb hN hgo
        exact ⟨z, hP, v_tswIn (tgt := 641) (c9 := 9) hq9 dL_law_40 (by decide) (by decide) rfl (by decide) k9⟩
      by_cases hq10 : v = 10
      · obtain ⟨z, hP, k9⟩ := lw_knownOn (n := n) (Pz := Pz) (Qf := Qf) (σ0 := σ0) (D := D) (cy := cy) (l := l) hI s10 hn hInv hb hN hgo
        exact ⟨z, hP, v_tswIn (tgt := 690) (c9 := 10) hq10 dL_law_40 (by decide) (by decide) rfl (by decide) k9⟩
      by_cases hq11 : v = 11
      · obtain ⟨z, hP, k9⟩ := lw_ages (n := n) (Pz := Pz) (Qf := Qf) (σ0 := σ0) (D := D) (cy := cy) (l := l) hI s11 hn hInv hb hN hgo
        exact ⟨z, hP, v_tswIn (tgt := 739) (c9 := 11) hq11 dL_law_40 (by decide) (by decide) rfl (by decide) k9⟩
      by_cases hq12 : v = 12
      · obtain ⟨z, hP, k9⟩ := lw_alike (n := n) (Pz := Pz) (Qf := Qf) (σ0 := σ0) (D := D) (cy := cy) (l := l) hI s12 hn hInv hb hN hgo
        exact ⟨z, hP, v_tswIn (tgt := 776) (c9 := 12) hq12 dL_law_40 (by decide) (by decide) rfl (by decide) k9⟩
      by_cases hq13 : v = 13
      · obtain ⟨z, hP, k9⟩ := lw_apart (n := n) (Pz := Pz) (Qf := Qf) (σ0 := σ0) (D := D) (cy := cy) (l := l) hI s13 hn hInv hb hN hgo
        exact ⟨z, hP, v_tswIn (tgt := 801) (c9 := 13) hq13 dL_law_40 (by decide) (by decide) rfl (by decide) k9⟩
      by_cases hq14 : v = 14
      · obtain ⟨z, hP, k9⟩ := lw_feed (n := n) (Pz := Pz) (Qf := Qf) (σ0 := σ0) (D := D) (cy := cy) (l := l) hI s14 hn hInv hb hN hgo
        exact ⟨z, hP, v_tswIn (tgt := 838) (c9 := 14) hq14 dL_law_40 (by decide) (by decide) rfl (by decide) k9⟩
      by_cases hq15 : v = 15
      · obtain ⟨z, hP, k9⟩ := lw_paragraph (n := n) (Pz := Pz) (Qf := Qf) (σ0 := σ0) (D := D) (cy := cy) (l := l) hI s15 hn hInv hb hN hgo
        exact ⟨z, hP, v_tswIn (tgt := 911) (c9 := 15) hq15 dL_law_40 (by decide) (by decide) rfl (by decide) k9⟩
      by_cases hq16 : v = 16
      · obtain ⟨z, hP, k9⟩ := lw_rewrite (n := n) (Pz := Pz) (Qf := Qf) (σ0 := σ0) (D := D) (cy := cy) (l := l) hI s16 hn hInv hb hN hgo
        exact ⟨z, hP, v_tswIn (tgt := 972) (c9 := 16) hq16 dL_law_40 (by decide) (by decide) rfl (by decide) k9⟩
      by_cases hq17 : v = 17
      · obtain ⟨z, hP, k9⟩ := lw_fault (n := n) (Pz := Pz) (Qf := Qf) (σ0 := σ0) (D := D) (cy := cy) (l := l) hI s17 hn hInv hb hN hgo
        exact ⟨z, hP, v_tswIn (tgt := 1021) (c9 := 17) hq17 dL_law_40 (by decide) (by decide) rfl (by decide) k9⟩
      by_cases hq18 : v = 18
      · obtain ⟨z, hP, k9⟩ := lw_where (n := n) (Pz := Pz) (Qf := Qf) (σ0 := σ0) (D := D) (cy := cy) (l := l) hI s18 hn hInv hb hN hgo
        exact ⟨z, hP, v_tswIn (tgt := 1034) (c9 := 18) hq18 dL_law_40 (by decide) (by decide) rfl (by decide) k9⟩
      by_cases hq19 : v = 19
      · obtain ⟨z, hP, k9⟩ := lw_paragraphOf (n := n) (Pz := Pz) (Qf := Qf) (σ0 := σ0) (D := D) (cy := cy) (l := l) hI s19 hn hInv hb hN hgo
        exact ⟨z, hP, v_tswIn (tgt := 1047) (c9 := 19) hq19 dL_law_40 (by decide) (by decide) rfl (by decide) k9⟩
      by_cases hq20 : v = 20
      · obtain ⟨z, hP, k9⟩ := lw_print (n := n) (Pz := Pz) (Qf := Qf) (σ0 := σ0) (D := D) (cy := cy) (l := l) hI s20 hn hInv hb hN hgo
        exact ⟨z, hP, v_tswIn (tgt := 1096) (c9 := 20) hq20 dL_law_40 (by decide) (by decide) rfl (by decide) k9⟩
      by_cases hq21 : v = 21
      · obtain ⟨z, hP, k9⟩ := lw_out (n := n) (Pz := Pz) (Qf := Qf) (σ0 := σ0) (D := D) (cy := cy) (l := l) hl9 hI s21 hn hInv hb hN hgo
        exact ⟨z, hP, v_tswIn (tgt := 1133) (c9 := 21) hq21 dL_law_40 (by decide) (by decide) rfl (by decide) k9⟩
      by_cases hq22 : v = 22
      · obtain ⟨z, hP, k9⟩ := lw_cut (n := n) (Pz := Pz) (Qf := Qf) (σ0 := σ0) (D := D) (cy := cy) (l := l) hI s22 hn hInv hb hN hgo
        exact ⟨z, hP, v_tswIn (tgt := 1189) (c9 := 22) hq22 dL_law_40 (by decide) (by decide) rfl (by decide) k9⟩
      by_cases hq23 : v = 23
      · obtain ⟨z, hP, k9⟩ := lw_cutOf (n := n) (Pz := Pz) (Qf := Qf) (σ0 := σ0) (D := D) (cy := cy) (l := l) hI s23 hn hInv hb hN hgo
        exact ⟨z, hP, v_tswIn (tgt := 1254) (c9 := 23) hq23 dL_law_40 (by decide) (by decide) rfl (by decide) k9⟩
      by_cases hq24 : v = 24
      · obtain ⟨z, hP, k9⟩ := lw_cutLong (n := n) (Pz := Pz) (Qf := Qf) (σ0 := σ0) (D := D) (cy := cy) (l := l) hI s24 hn hInv hb hN hgo
        exact ⟨z, hP, v_tswIn (tgt := 1267) (c9 := 24) hq24 dL_law_40 (by decide) (by decide) rfl (by decide) k9⟩
      by_cases hq25 : v = 25
      · obtain ⟨z, hP, k9⟩ := lw_rule (n := n) (Pz := Pz) (Qf := Qf) (σ0 := σ0) (D := D) (cy := cy) (l := l) hI s25 hn hInv hb hN hgo
        exact ⟨z, hP, v_tswIn (tgt := 1280) (c9 := 25) hq25 dL_law_40 (by decide) (by decide) rfl (by decide) k9⟩
      by_cases hq26 : v = 26
      · obtain ⟨z, hP, k9⟩ := lw_report (n := n) (Pz := Pz) (Qf := Qf) (σ0 := σ0) (D := D) (cy := cy) (l := l) hI s26 hn hInv hb hN hgo
        exact ⟨z, hP, v_tswIn (tgt := 1305) (c9 := 26) hq26 dL_law_40 (by decide) (by decide) rfl (by decide) k9⟩
      by_cases hq27 : v = 27
      · obtain ⟨z, hP, k9⟩ := lw_rumour (n := n) (Pz := Pz) (Qf := Qf) (σ0 := σ0) (D := D) (cy := cy) (l := l) hI s27 hn hInv hb hN hgo
        exact ⟨z, hP, v_tswIn (tgt := 1354) (c9 := 27) hq27 dL_law_40 (by decide) (by decide) rfl (by decide) k9⟩
      by_cases hq28 : v = 28
      · obtain ⟨z, hP, k9⟩ := lw_fits (n := n) (Pz := Pz) (Qf := Qf) (σ0 := σ0) (D := D) (cy := cy) (l := l) hI s28 hn hInv hb hN hgo
        exact ⟨z, hP, v_tswIn (tgt := 1483) (c9 := 28) hq28 dL_law_40 (by decide) (by decide) rfl (by decide) k9⟩
      by_cases hq29 : v = 29
      · obtain ⟨z, hP, k9⟩ := lw_withdraw (n := n) (Pz := Pz) (Qf := Qf) (σ0 := σ0) (D := D) (cy := cy) (l := l) hI s29 hn hInv hb hN hgo
        exact ⟨z, hP, v_tswIn (tgt := 1508) (c9 := 29) hq29 dL_law_40 (by decide) (by decide) rfl (by decide) k9⟩
      by_cases hq30 : v = 30
      · obtain ⟨z, hP, k9⟩ := lw_may (n := n) (Pz := Pz) (Qf := Qf) (σ0 := σ0) (D := D) (cy := cy) (l := l) hI s30 hn hInv hb hN hgo
        exact ⟨z, hP, v_tswIn (tgt := 1533) (c9 := 30) hq30 dL_law_40 (by decide) (by decide) rfl (by decide) k9⟩
      by_cases hq31 : v = 31
      · obtain ⟨z, hP, k9⟩ := lw_tell (n := n) (Pz := Pz) (Qf := Qf) (σ0 := σ0) (D := D) (cy := cy) (l := l) hI s31 hn hInv hb hN hgo
        exact ⟨z, hP, v_tswIn (tgt := 1558) (c9 := 31) hq31 dL_law_40 (by decide) (by decide) rfl (by decide) k9⟩
      by_cases hq32 : v = 32
      · obtain ⟨z, hP, k9⟩ := lw_picture (n := n) (Pz := Pz) (Qf := Qf) (σ0 := σ0) (D := D) (cy := cy) (l := l) hI s32 hn hInv hb hN hgo
        exact ⟨z, hP, v_tswIn (tgt := 1583) (c9 := 32) hq32 dL_law_40 (by decide) (by decide) rfl (by decide) k9⟩
      by_cases hq33 : v = 33
      · obtain ⟨z, hP, k9⟩ := lw_used (n := n) (Pz := Pz) (Qf := Qf) (σ0 := σ0) (D := D) (cy := cy) (l := l) hI s33 hn hInv hb hN hgo
        exact ⟨z, hP, v_tswIn (tgt := 1656) (c9 := 33) hq33 dL_law_40 (by decide) (by decide) rfl (by decide) k9⟩
      by_cases hq34 : v = 34
      · obtain ⟨z, hP, k9⟩ := lw_ask (n := n) (Pz := Pz) (Qf := Qf) (σ0 := σ0) (D := D) (cy := cy) (l := l) hI s34 hn hInv hb hN hgo
        exact ⟨z, hP, v_tswIn (tgt := 1681) (c9 := 34) hq34 dL_law_40 (by decide) (by decide) rfl (by decide) k9⟩
      by_cases hq35 : v = 35
      · obtain ⟨z, hP, k9⟩ := lw_answer (n := n) (Pz := Pz) (Qf := Qf) (σ0 := σ0) (D := D) (cy := cy) (l := l) hI s35 hn hInv hb hN hgo
        exact ⟨z, hP, v_tswIn (tgt := 1718) (c9 := 35) hq35 dL_law_40 (by decide) (by decide) rfl (by decide) k9⟩
      by_cases hq36 : v = 36
      · obtain ⟨z, hP, k9⟩ := lw_embargo (n := n) (Pz := Pz) (Qf := Qf) (σ0 := σ0) (D := D) (cy := cy) (l := l) hI s36 hn hInv hb hN hgo
        exact ⟨z, hP, v_tswIn (tgt := 1755) (c9 := 36) hq36 dL_law_40 (by decide) (by decide) rfl (by decide) k9⟩
      by_cases hq37 : v = 37
      · obtain ⟨z, hP, k9⟩ := lw_edition (n := n) (Pz := Pz) (Qf := Qf) (σ0 := σ0) (D := D) (cy := cy) (l := l) hI s37 hn hInv hb hN hgo
        exact ⟨z, hP, v_tswIn (tgt := 1804) (c9 := 37) hq37 dL_law_40 (by decide) (by decide) rfl (by decide) k9⟩
      by_cases hq38 : v = 38
      · obtain ⟨z, hP, k9⟩ := lw_editionOf (n := n) (Pz := Pz) (Qf := Qf) (σ0 := σ0) (D := D) (cy := cy) (l := l) hI s38 hn hInv hb hN hgo
        exact ⟨z, hP, v_tswIn (tgt := 1869) (c9 := 38) hq38 dL_law_40 (by decide) (by decide) rfl (by decide) k9⟩
      by_cases hq39 : v = 39
      · obtain ⟨z, hP, k9⟩ := lw_wrong (n := n) (Pz := Pz) (Qf := Qf) (σ0 := σ0) (D := D) (cy := cy) (l := l) hI s39 hn hInv hb hN hgo
        exact ⟨z, hP, v_tswIn (tgt := 1906) (c9 := 39) hq39 dL_law_40 (by decide) (by decide) rfl (by decide) k9⟩
      by_cases hq40 : v = 40
      · obtain ⟨z, hP, k9⟩ := lw_correct (n := n) (Pz := Pz) (Qf := Qf) (σ0 := σ0) (D := D) (cy := cy) (l := l) hI s40 hn hInv hb hN hgo
        exact ⟨z, hP, v_tswIn (tgt := 1931) (c9 := 40) hq40 dL_law_40 (by decide) (by decide) rfl (by decide) k9⟩
      by_cases hq41 : v = 41
      · obtain ⟨z, hP, k9⟩ := lw_said (n := n) (Pz := Pz) (Qf := Qf) (σ0 := σ0) (D := D) (cy := cy) (l := l) hI s41 hn hInv hb hN hgo
        exact ⟨z, hP, v_tswIn (tgt := 1968) (c9 := 41) hq41 dL_law_40 (by decide) (by decide) rfl (by decide) k9⟩
      by_cases hq42 : v = 42
      · obtain ⟨z, hP, k9⟩ := lw_week (n := n) (Pz := Pz) (Qf := Qf) (σ0 := σ0) (D := D) (cy := cy) (l := l) hI s42 hn hInv hb hN hgo
        exact ⟨z, hP, v_tswIn (tgt := 2005) (c9 := 42) hq42 dL_law_40 (by decide) (by decide) rfl (by decide) k9⟩
      by_cases hq43 : v = 43
      · obtain ⟨z, hP, k9⟩ := lw_fresh (n := n) (Pz := Pz) (Qf := Qf) (σ0 := σ0) (D := D) (cy := cy) (l := l) hI s43 hn hInv hb hN hgo
        exact ⟨z, hP, v_tswIn (tgt := 2030) (c9 := 43) hq43 dL_law_40 (by decide) (by decide) rfl (by decide) k9⟩
      by_cases hq44 : v = 44
      · obtain ⟨z, hP, k9⟩ := lw_takes (n := n) (Pz := Pz) (Qf := Qf) (σ0 := σ0) (D := D) (cy := cy) (l := l) hI s44 hn hInv hb hN hgo
        exact ⟨z, hP, v_tswIn (tgt := 2055) (c9 := 44) hq44 dL_law_40 (by decide) (by decide) rfl (by decide) k9⟩
      by_cases hq45 : v = 45
      · obtain ⟨z, hP, k9⟩ := lw_freshen (n := n) (Pz := Pz) (Qf := Qf) (σ0 := σ0) (D := D) (cy := cy) (l := l) hI s45 hn hInv hb hN hgo
        exact ⟨z, hP, v_tswIn (tgt := 2068) (c9 := 45) hq45 dL_law_40 (by decide) (by decide) rfl (by decide) k9⟩
      by_cases hq46 : v = 46
      · obtain ⟨z, hP, k9⟩ := lw_pass (n := n) (Pz := Pz) (Qf := Qf) (σ0 := σ0) (D := D) (cy := cy) (l := l) hI s46 hn hInv hb hN hgo
        exact ⟨z, hP, v_tswIn (tgt := 2081) (c9 := 46) hq46 dL_law_40 (by decide) (by decide) rfl (by decide) k9⟩
      by_cases hq47 : v = 47
      · obtain ⟨z, hP, k9⟩ := lw_count (n := n) (Pz := Pz) (Qf := Qf) (σ0 := σ0) (D := D) (cy := cy) (l := l) hI s47 hn hInv hb hN hgo
        exact ⟨z, hP, v_tswIn (tgt := 2106) (c9 := 47) hq47 dL_law_40 (by decide) (by decide) rfl (by decide) k9⟩
      by_cases hq48 : v = 48
      · obtain ⟨z, hP, k9⟩ := lw_trouble (n := n) (Pz := Pz) (Qf := Qf) (σ0 := σ0) (D := D) (cy := cy) (l := l) hI s48 hn hInv hb hN hgo
        exact ⟨z, hP, v_tswIn (tgt := 2131) (c9 := 48) hq48 dL_law_40 (by decide) (by decide) rfl (by decide) k9⟩
      obtain ⟨z, hP, k9⟩ := hgo c m (hM n c m hInv)
      refine ⟨z, hP, v_tswOut (tgt := 2144) 49 0 (by decide) (by decide) (fun j hj => ?_) (by decide) (by decide) dL_law_40 (by decide) k9⟩
      match j, hj with
      | 0, _ => exact hq0
      | 1, _ => exact hq1
      | 2, _ => exact hq2
      | 3, _ => exact hq3
      | 4, _ => exact hq4
      | 5, _ => exact hq5
      | 6, _ => exact hq6
      | 7, _ => exact hq7
      | 8, _ => exact hq8
      | 9, _ => exact hq9
      | 10, _ => exact hq10
      | 11, _ => exact hq11
      | 12, _ => exact hq12
      | 13, _ => exact hq13
      | 14, _ => exact hq14
      | 15, _ => exact hq15
      | 16, _ => exact hq16
      | 17, _ => exact hq17
      | 18, _ => exact hq18
      | 19, _ => exact hq19
      | 20, _ => exact hq20
      | 21, _ => exact hq21
      | 22, _ => exact hq22
      | 23, _ => exact hq23
      | 24, _ => exact hq24
      | 25, _ => exact hq25
      | 26, _ => exact hq26
      | 27, _ => exact hq27
      | 28, _ => exact hq28
      | 29, _ => exact hq29
      | 30, _ => exact hq30
      | 31, _ => exact hq31
      | 32, _ => exact hq32
      | 33, _ => exact hq33
      | 34, _ => exact hq34
      | 35, _ => exact hq35
      | 36, _ => exact hq36
      | 37, _ => exact hq37
      | 38, _ => exact hq38
      | 39, _ => exact hq39
      | 40, _ => exact hq40
      | 41, _ => exact hq41
      | 42, _ => exact hq42
      | 43, _ => exact hq43
      | 44, _ => exact hq44
      | 45, _ => exact hq45
      | 46, _ => exact hq46
      | 47, _ => exact hq47
      | 48, _ => exact hq48
      | j + 49, hj => exact absurd hj (by omega)
    · obtain ⟨z, hP, k9⟩ := hE n c m hle hInv
      refine ⟨z, hP, ?_⟩
      refine v_iload (x := Int32.ofNat (10 * n)) dL_law_23 0 rfl ?_
      refine v_aload_n (x := some (ka 301)) dL_law_25 rfl 4 rfl ?_
      refine v_lwlen dL_law_26 ?_
      refine v_bipush (v := 10) dL_law_27 (by decide) ?_
      refine v_isub dL_law_29 ?_
      exact v_icmp_gt (tgt := 2150) (A := some ()) (B := none) (u := ()) (if_pos (lw_gt hb hN (by omega))) dL_law_30 (by decide) (fun _ _ => k9 _) (fun _ h9 => by cases h9)
/-- what both constructors owe -/
def Si_ (ka : Nat → Nat) (σ0 : TH) (c1 m2 : TH) (Inv : Nat → TH → TH → Prop) : Prop := f_X11_init ka (nw_ σ0 13 0 20) (nx_ σ0) = some ((), c1) ∧ wf_ c1 ∧ f_X15_init (nw_ (er_ c1) 17 0 88) (nx_ c1) = some ((), m2) ∧ wf_ m2 ∧ Inv 0 (nw_ (bm_ c1 m2) 23 1 1) (bm_ m2 (nw_ (bm_ c1 m2) 23 1 1))
set_option maxHeartbeats 4000000 in
set_option maxRecDepth 100000 in
theorem lw_begin {l : Launch} {D : va_G} {cy : Nat → ClassId} {ka : Nat → Nat} {Qf : QF} {σ0 c1 m2 : TH} {Pz : TH → Prop} {Inv : Nat → TH → TH → Prop} (h0 : wf_ σ0) (hi : Si_ ka σ0 c1 m2 Inv) (hk : ∀ c m, Inv 0 c m → ∃ z, Pz z ∧ lwv_ l D cy ka Qf σ0 z (jn_ c m) 23 (lwL_ ka (nx_ σ0) (nx_ c1) (nx_ m2) 0) []) : ∃ z, Pz z ∧ lwv_ l D cy ka Qf σ0 z σ0 0 [(0, va_rf (some (ka 301)))] [] := by
  obtain ⟨h1, w1, h2, w2, h3⟩ := hi
  obtain ⟨z, hP, k⟩ := hk _ _ h3
  refine ⟨z, hP, ?_⟩
  have t1 := c_X11_init (l := l) (D := D) (cy := cy) (ka := ka) h1
  have t2 := c_X15_init (l := l) (D := D) (cy := cy) (ka := ka) h2
  have we := wf_er c1
  have wn : wf_ (nw_ (er_ c1) 17 0 88) := wf_nw we (by decide)
  have b1 : wf_ (bm_ c1 (nw_ (er_ c1) 17 0 88)) := wf_bm w1 (Nat.le_succ _)
  have b2 : wf_ (bm_ c1 m2) := wf_bm w1 (Nat.le_trans (Nat.le_succ _) t2.1.1)
  have s1 : sp_ (bm_ c1 (nw_ (er_ c1) 17 0 88)) (nw_ (er_ c1) 17 0 88) := fun a ha => by
    have ha' : kd_ c1 a ≠ 0 := ha
    have hlt := (w1.2 a (w1.1 a ha')).1
    exact if_neg (Nat.ne_of_lt hlt)
  refine v_new2 cb_12 df_12 kw_34 kw_35 kw_1 13 rfl (f := fun q s => some (q, s)) (u := (nx_ σ0, nw_ σ0 13 0 20)) ?_ dL_law_0 (fun a s ht hk1 hf => ?_)
  · rw [gt_t (wf_0 h0 (Nat.le_refl _)), lt_e, lt_e]
  cases hf
  refine v_dup dL_law_3 (va_rf_cat _) ?_
  refine v_callI (As := []) (rest := [va_rf (some (nx_ σ0))]) t1 yb_X11_init kw_36 kw_37 rfl rfl ⟨Nat.le_of_ble_eq_true rfl, Nat.le_of_ble_eq_true rfl⟩ rfl (cat_len (Nat.le_of_ble_eq_true rfl)) dL_law_4 ?_
  refine v_astore_n [(1, va_rf (some (nx_ σ0))), (0, va_rf (some (ka 301)))] dL_law_7 rfl (by decide) (by simp [va_rf_cat, cat_i, cat_l]) ?_
  refine v_new2 cb_16 df_16 kw_1418 kw_1419 kw_9 17 rfl (f := fun q s => some (q, s)) (u := (nx_ c1, nw_ c1 17 0 88)) ?_ dL_law_8 (fun a s ht hk1 hf => ?_)
  · rw [gt_t (wf_0 w1 (Nat.le_refl _)), lt_e, lt_e]
  cases hf
  have e1 : sm_ (nw_ c1 17 0 88) (jn_ (bm_ c1 (nw_ (er_ c1) 17 0 88)) (nw_ (er_ c1) 17 0 88)) := by
    have := sm_nwm (m := er_ c1) w1 rfl rfl (k := 17) (n := 0) (w := 88)
    rw [jn_er] at this
    exact this
  refine v_sm e1 ?_
  refine v_dup dL_law_11 (va_rf_cat _) ?_
  refine v_callI (As := []) (rest := [va_rf (some (nx_ c1))]) (jn_m b1 wn s1 rfl rfl w2 t2) yb_X15_init kw_1420 kw_1421 rfl rfl ⟨Nat.le_of_ble_eq_true rfl, Nat.le_of_ble_eq_true rfl⟩ rfl (cat_len (Nat.le_of_ble_eq_true rfl)) dL_law_12 ?_
  refine v_astore_n [(2, va_rf (some (nx_ c1))), (1, va_rf (some (nx_ σ0))), (0, va_rf (some (ka 301)))] dL_law_15 rfl (by decide) (by simp [va_rf_cat, cat_i, cat_l]) ?_
  show lwv_ l D cy ka Qf σ0 z (jn_ (bm_ c1 m2) m2) 16 [(2, va_rf (some (nx_ c1))), (1, va_rf (some (nx_ σ0))), (0, va_rf (some (ka 301)))] []
  refine v_iconst (v := 1) dL_law_16 (by decide) ?_
  have hnx : nx_ (jn_ (bm_ c1 m2) m2) = nx_ m2 := rfl
  have hk0 : kd_ (jn_ (bm_ c1 m2) m2) (nx_ m2) = 0 := by
    have e : kd_ (bm_ c1 m2) (nx_ m2) = 0 := wf_0 b2 (Nat.le_refl _)
    exact (if_pos e).trans (wf_0 w2 (Nat.le_refl _))
  refine v_newaL2 kw_2293 (i := 1) (f := fun q s => some (q, s)) (u := (nx_ m2, nw_ (jn_ (bm_ c1 m2) m2) 23 1 1)) ?_ dL_law_17 (fun a s ht hk1 hf => ?_)
  · rw [hnx, gt_t ⟨by decide, by decide, hk0⟩, lt_e, show (1 : Int32).toNatClampNeg = 1 from by decide, lt_e]
  cases hf
  refine v_sm (sm_nwc (m := m2) (k := 23) (n := 1) (w := 1) b2 rfl (by decide)) ?_
  refine v_astore_n (i := 3) [(3, va_rf (some (nx_ m2))), (2, va_rf (some (nx_ c1))), (1, va_rf (some (nx_ σ0))), (0, va_rf (some (ka 301)))] dL_law_19 rfl (by decide) (by simp [va_rf_cat, cat_i, cat_l]) ?_
  refine v_iconst (v := 0) dL_law_20 (by decide) ?_
  refine v_istore (lwL_ ka (nx_ σ0) (nx_ c1) (nx_ m2) 0) dL_law_21 (by decide) (by simp [va_rf_cat, cat_i, cat_l]) ?_
  exact k
