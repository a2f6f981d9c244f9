/-! Functions over the typed heap and contracts, by wip/gen/gen.py: X6_append X6_hasRoomFor X11_feed X7_suits X11_checkStale X0_init X4_init X6_init X11_keeps X6_holds X6_begin X6_byteAt X6_emit X6_closeComparison X6_fail X6_finish X6_isDigit X6_isLetter X6_beginPiece X6_aimSkip X6_closeIf X6_turnToElse X6_readPlain X6_closeSum -/
theorem dX6_append_0 : decode cX6_append 0 = .ok (.bipush 24, 2) := by decide +kernel
theorem dX6_append_2 : decode cX6_append 2 = .ok (.istore_n 2, 1) := by decide +kernel
theorem dX6_append_3 : decode cX6_append 3 = .ok (.iload_n 2, 1) := by decide +kernel
theorem dX6_append_4 : decode cX6_append 4 = .ok (.ifCond .lt 42, 3) := by decide +kernel
theorem dX6_append_7 : decode cX6_append 7 = .ok (.aload_n 0, 1) := by decide +kernel
theorem dX6_append_8 : decode cX6_append 8 = .ok (.getfield 15, 3) := by decide +kernel
theorem dX6_append_11 : decode cX6_append 11 = .ok (.sipush 400, 3) := by decide +kernel
theorem dX6_append_14 : decode cX6_append 14 = .ok (.if_icmp .ge 32, 3) := by decide +kernel
theorem dX6_append_17 : decode cX6_append 17 = .ok (.aload_n 0, 1) := by decide +kernel
theorem dX6_append_18 : decode cX6_append 18 = .ok (.getfield 11, 3) := by decide +kernel
theorem dX6_append_21 : decode cX6_append 21 = .ok (.aload_n 0, 1) := by decide +kernel
theorem dX6_append_22 : decode cX6_append 22 = .ok (.getfield 15, 3) := by decide +kernel
theorem dX6_append_25 : decode cX6_append 25 = .ok (.iload_n 1, 1) := by decide +kernel
theorem dX6_append_26 : decode cX6_append 26 = .ok (.iload_n 2, 1) := by decide +kernel
theorem dX6_append_27 : decode cX6_append 27 = .ok (.ishr, 1) := by decide +kernel
theorem dX6_append_28 : decode cX6_append 28 = .ok (.i2b, 1) := by decide +kernel
theorem dX6_append_29 : decode cX6_append 29 = .ok (.bastore, 1) := by decide +kernel
theorem dX6_append_30 : decode cX6_append 30 = .ok (.aload_n 0, 1) := by decide +kernel
theorem dX6_append_31 : decode cX6_append 31 = .ok (.dup, 1) := by decide +kernel
theorem dX6_append_32 : decode cX6_append 32 = .ok (.getfield 15, 3) := by decide +kernel
theorem dX6_append_35 : decode cX6_append 35 = .ok (.iconst 1, 1) := by decide +kernel
theorem dX6_append_36 : decode cX6_append 36 = .ok (.iadd, 1) := by decide +kernel
theorem dX6_append_37 : decode cX6_append 37 = .ok (.putfield 15, 3) := by decide +kernel
theorem dX6_append_40 : decode cX6_append 40 = .ok (.iinc 2 (-8), 3) := by decide +kernel
theorem dX6_append_43 : decode cX6_append 43 = .ok (.goto (-40), 3) := by decide +kernel
theorem dX6_append_46 : decode cX6_append 46 = .ok (.return_, 1) := by decide +kernel
def f_X6_append_b46 (σ : TH) : Option (Unit × TH) :=
  some ((), σ)
set_option maxHeartbeats 4000000 in
set_option maxRecDepth 100000 in
theorem t_X6_append_b46 {l : Launch} {D : va_G} {cy : Nat → ClassId} {ka : Nat → Nat} {σ0 z : TH} {r : Unit}  {σ : TH}  (hf : f_X6_append_b46 σ  = some (r, z)) : v_ l D cy ka cX6_append RX6 3 none "append" 0 0 (qf_ D cy σ0 z none) σ0 z σ 46 [] [] := by
  unfold f_X6_append_b46 at hf
  exact v_vret hf dX6_append_46
def f_X6_append_b3 : Nat → TH → Nat → Int32 → Int32 → Option (Unit × TH)
  | 0, _, _, _, _ => none
  | n + 1, σ, l0, l1, l2 => if l2 < 0 then (f_X6_append_b46 σ ) else (gt_ (kd_ σ l0 = 8) <| lt_ (fi_ σ 701 l0) fun x1 => if (400 : Int32) ≤ x1 then (f_X6_append_b46 σ ) else (lt_ (fr_ σ 700 l0) fun r2 => lt_ (fi_ σ 701 l0) fun x3 => nn_ r2 fun a4 => gt_ (kd_ σ a4 = 21) <| gt_ (¬ (x3 < 0 ∨ ln_ σ a4 ≤ x3.toNatClampNeg)) <| lt_ (sa_ σ a4 x3.toNatClampNeg (vp_nar .byte ((Int32.toInt8 (l1 >>> (l2 &&& 31))).toInt32))) fun s5 => lt_ (fi_ s5 701 l0) fun x6 => lt_ (si_ s5 701 l0 (x6 + (1 : Int32))) fun s7 => lt_ (l2 + (-8)) fun x8 => (f_X6_append_b3 n) s7 l0 l1 x8))
set_option maxHeartbeats 4000000 in
set_option maxRecDepth 100000 in
theorem t_X6_append_b3 {l : Launch} {D : va_G} {cy : Nat → ClassId} {ka : Nat → Nat} {σ0 z : TH} {r : Unit}  : ∀ (n : Nat) (σ : TH) (l0 : Nat) (l1 : Int32) (l2 : Int32), f_X6_append_b3 n σ l0 l1 l2 = some (r, z) → v_ l D cy ka cX6_append RX6 3 none "append" 0 0 (qf_ D cy σ0 z none) σ0 z σ 3 [(0, va_rf (some l0)), (1, .int l1), (2, .int l2)] [] := by
  intro n
  induction n with
  | zero => intro σ l0 l1 l2 hf; unfold f_X6_append_b3 at hf; cases hf
  | succ n ih =>
    intro σ l0 l1 l2 hf
    unfold f_X6_append_b3 at hf
    have hrec_3 := ih
    refine v_iload_n (x := l2) dX6_append_3 rfl 2 rfl ?_
    refine v_if_lt (tgt := 46) hf dX6_append_4 (by decide) (fun hq hf => ?_) (fun hq hf => ?_)
    · refine v_sub [] (L2 := []) rfl ?_
      exact t_X6_append_b46  hf
    · refine v_aload_n (x := (some l0)) dX6_append_7 rfl 0 rfl ?_
      obtain ⟨hk_l0, hf⟩ := gt_of hf
      refine v_geti cb_7 hk_l0 1 701 rfl (by decide) rfl (lk_n kw_75 rfl) hf dX6_append_8 (fun x1 hf => ?_)
      refine v_sipush (v := 400) dX6_append_11 (by decide) ?_
      refine v_icmp_ge (tgt := 46) hf dX6_append_14 (by decide) (fun hq hf => ?_) (fun hq hf => ?_)
      · refine v_sub [] (L2 := []) rfl ?_
        exact t_X6_append_b46  hf
      · refine v_aload_n (x := (some l0)) dX6_append_17 rfl 0 rfl ?_
        refine v_getr cb_7 hk_l0 0 700 rfl (by decide) rfl (lk_n kw_74 rfl) hf dX6_append_18 (fun r2 hf => ?_)
        refine v_aload_n (x := (some l0)) dX6_append_21 rfl 0 rfl ?_
        refine v_geti cb_7 hk_l0 1 701 rfl (by decide) rfl (lk_n kw_75 rfl) hf dX6_append_22 (fun x3 hf => ?_)
        refine v_iload_n (x := l1) dX6_append_25 rfl 1 rfl ?_
        refine v_iload_n (x := l2) dX6_append_26 rfl 2 rfl ?_
        refine v_ishr dX6_append_27 ?_
        refine v_i2b dX6_append_28 ?_
        obtain ⟨a4, rfl, hf⟩ := nn_of hf
        obtain ⟨hk_a4, hf⟩ := gt_of hf
        refine v_bast2 hk_a4 hf dX6_append_29 (fun s5 hts5 hf => ?_)
        have hk_l0 := tk_ hts5 hk_l0
        refine v_aload_n (x := (some l0)) dX6_append_30 rfl 0 rfl ?_
        refine v_dup dX6_append_31 (va_rf_cat _) ?_
        refine v_geti cb_7 hk_l0 1 701 rfl (by decide) rfl (lk_n kw_75 rfl) hf dX6_append_32 (fun x6 hf => ?_)
        refine v_iconst (v := 1) dX6_append_35 (by decide) ?_
        refine v_iadd dX6_append_36 ?_
        refine v_puti2 cb_7 hk_l0 1 701 rfl (by decide) rfl (lk_n kw_75 rfl) (Or.inl rfl) rfl rfl hf dX6_append_37 (fun s7 hts7 hf => ?_)
        have hk_l0 := tk_ hts7 hk_l0
        obtain ⟨x8, ex8⟩ : ∃ y : Int32, y = l2 + (-8) := ⟨_, rfl⟩
        rw [lt_e, ← ex8] at hf
        refine v_iinc (v := x8) [(2, .int x8), (0, va_rf (some l0)), (1, .int l1)] dX6_append_40 2 rfl (by rw [ex8]; rfl) (by decide) rfl ?_
        refine v_goto (tgt := 3) dX6_append_43 (by decide) ?_
        refine v_sub [1, 2, 0] (L2 := [(0, va_rf (some l0)), (1, .int l1), (2, .int x8)]) rfl ?_
        exact hrec_3 _ _ _ _ hf
/-- LivesAhead$Reader.append(I)V -/
def f_X6_append (σ : TH) (p0 : Nat) (p1 : Int32) : Option (Unit × TH) :=
  f_X6_append_b3 fu_ σ p0 p1 (24 : Int32)
set_option maxHeartbeats 4000000 in
set_option maxRecDepth 100000 in
theorem c_X6_append {l : Launch} {D : va_G} {cy : Nat → ClassId} {ka : Nat → Nat} {σ z : TH} {p0 : Nat} {p1 : Int32} {r : Unit} (hf : f_X6_append σ p0 p1 = some (r, z)) : ct_ l D cy ka yX6_append 0 0 [va_rf (some p0), .int p1] σ none z := by
  unfold f_X6_append at hf
  refine v_start (cc := cX6_append) (own := RX6) (maxL := 3) (ret := none) (nm := "append") (by decide +kernel) kw_650 rfl rfl (by simp [lg_sl, va_rf_cat, cat_i, cat_l]) ?_
  refine v_eqL (L2 := [(0, va_rf (some p0)), (1, .int p1)]) (by simp [lv_args, va_rf_cat, cat_i, cat_l]) ?_
  refine v_bipush (v := 24) dX6_append_0 (by decide) ?_
  refine v_istore_n [(2, .int (24 : Int32)), (0, va_rf (some p0)), (1, .int p1)] dX6_append_2 rfl (by decide) rfl ?_
  refine v_sub [1, 2, 0] (L2 := [(0, va_rf (some p0)), (1, .int p1), (2, .int (24 : Int32))]) rfl ?_
  exact t_X6_append_b3  _ _ _ _ _ hf
theorem dX6_hasRoomFor_0 : decode cX6_hasRoomFor 0 = .ok (.aload_n 0, 1) := by decide +kernel
theorem dX6_hasRoomFor_1 : decode cX6_hasRoomFor 1 = .ok (.getfield 15, 3) := by decide +kernel
theorem dX6_hasRoomFor_4 : decode cX6_hasRoomFor 4 = .ok (.iload_n 1, 1) := by decide +kernel
theorem dX6_hasRoomFor_5 : decode cX6_hasRoomFor 5 = .ok (.iadd, 1) := by decide +kernel
theorem dX6_hasRoomFor_6 : decode cX6_hasRoomFor 6 = .ok (.sipush 400, 3) := by decide +kernel
theorem dX6_hasRoomFor_9 : decode cX6_hasRoomFor 9 = .ok (.if_icmp .gt 7, 3) := by decide +kernel
theorem dX6_hasRoomFor_12 : decode cX6_hasRoomFor 12 = .ok (.iconst 1, 1) := by decide +kernel
theorem dX6_hasRoomFor_13 : decode cX6_hasRoomFor 13 = .ok (.goto 4, 3) := by decide +kernel
theorem dX6_hasRoomFor_16 : decode cX6_hasRoomFor 16 = .ok (.iconst 0, 1) := by decide +kernel
theorem dX6_hasRoomFor_17 : decode cX6_hasRoomFor 17 = .ok (.ireturn, 1) := by decide +kernel
def f_X6_hasRoomFor_b17 (σ : TH) (t0 : Int32) : Option (Int32 × TH) :=
  gt_ (t0 = 0 ∨ t0 = 1) <| some (t0, σ)
set_option maxHeartbeats 4000000 in
set_option maxRecDepth 100000 in
theorem t_X6_hasRoomFor_b17 {l : Launch} {D : va_G} {cy : Nat → ClassId} {ka : Nat → Nat} {σ0 z : TH} {r : Int32}  {σ : TH} {t0 : Int32} (hf : f_X6_hasRoomFor_b17 σ t0 = some (r, z)) : v_ l D cy ka cX6_hasRoomFor RX6 2 (some FieldType.boolean) "hasRoomFor" 0 0 (qf_ D cy σ0 z (some (.int r))) σ0 z σ 17 [] [.int t0] := by
  unfold f_X6_hasRoomFor_b17 at hf
  obtain ⟨hb9, hf⟩ := gt_of hf
  exact v_zret hf (nz_ hb9) dX6_hasRoomFor_17
/-- LivesAhead$Reader.hasRoomFor(I)Z -/
def f_X6_hasRoomFor (σ : TH) (p0 : Nat) (p1 : Int32) : Option (Int32 × TH) :=
  gt_ (kd_ σ p0 = 8) <| lt_ (fi_ σ 701 p0) fun x1 => if (400 : Int32) < (x1 + p1) then (f_X6_hasRoomFor_b17 σ (0 : Int32)) else (f_X6_hasRoomFor_b17 σ (1 : Int32))
set_option maxHeartbeats 4000000 in
set_option maxRecDepth 100000 in
theorem c_X6_hasRoomFor {l : Launch} {D : va_G} {cy : Nat → ClassId} {ka : Nat → Nat} {σ z : TH} {p0 : Nat} {p1 : Int32} {r : Int32} (hf : f_X6_hasRoomFor σ p0 p1 = some (r, z)) : ct_ l D cy ka yX6_hasRoomFor 0 0 [va_rf (some p0), .int p1] σ (some (.int r)) z := by
  unfold f_X6_hasRoomFor at hf
  refine v_start (cc := cX6_hasRoomFor) (own := RX6) (maxL := 2) (ret := (some FieldType.boolean)) (nm := "hasRoomFor") (by decide +kernel) kw_646 rfl rfl (by simp [lg_sl, va_rf_cat, cat_i, cat_l]) ?_
  refine v_eqL (L2 := [(0, va_rf (some p0)), (1, .int p1)]) (by simp [lv_args, va_rf_cat, cat_i, cat_l]) ?_
  refine v_aload_n (x := (some p0)) dX6_hasRoomFor_0 rfl 0 rfl ?_
  obtain ⟨hk_p0, hf⟩ := gt_of hf
  refine v_geti cb_7 hk_p0 1 701 rfl (by decide) rfl (lk_n kw_75 rfl) hf dX6_hasRoomFor_1 (fun x1 hf => ?_)
  refine v_iload_n (x := p1) dX6_hasRoomFor_4 rfl 1 rfl ?_
  refine v_iadd dX6_hasRoomFor_5 ?_
  refine v_sipush (v := 400) dX6_hasRoomFor_6 (by decide) ?_
  refine v_icmp_gt (tgt := 16) hf dX6_hasRoomFor_9 (by decide) (fun hq hf => ?_) (fun hq hf => ?_)
  · refine v_iconst (v := 0) dX6_hasRoomFor_16 (by decide) ?_
    refine v_sub [] (L2 := []) rfl ?_
    exact t_X6_hasRoomFor_b17  hf
  · refine v_iconst (v := 1) dX6_hasRoomFor_12 (by decide) ?_
    refine v_goto (tgt := 17) dX6_hasRoomFor_13 (by decide) ?_
    refine v_sub [] (L2 := []) rfl ?_
    exact t_X6_hasRoomFor_b17  hf
theorem dX11_feed_0 : decode cX11_feed 0 = .ok (.aload_n 0, 1) := by decide +kernel
theorem dX11_feed_1 : decode cX11_feed 1 = .ok (.getfield 41, 3) := by decide +kernel
theorem dX11_feed_4 : decode cX11_feed 4 = .ok (.bipush 20, 2) := by decide +kernel
theorem dX11_feed_6 : decode cX11_feed 6 = .ok (.invokevirtual 242, 3) := by decide +kernel
theorem dX11_feed_9 : decode cX11_feed 9 = .ok (.ifCond .ne 5, 3) := by decide +kernel
theorem dX11_feed_12 : decode cX11_feed 12 = .ok (.iconst (-1), 1) := by decide +kernel
theorem dX11_feed_13 : decode cX11_feed 13 = .ok (.ireturn, 1) := by decide +kernel
theorem dX11_feed_14 : decode cX11_feed 14 = .ok (.aload_n 0, 1) := by decide +kernel
theorem dX11_feed_15 : decode cX11_feed 15 = .ok (.getfield 41, 3) := by decide +kernel
theorem dX11_feed_18 : decode cX11_feed 18 = .ok (.iload_n 1, 1) := by decide +kernel
theorem dX11_feed_19 : decode cX11_feed 19 = .ok (.invokevirtual 245, 3) := by decide +kernel
theorem dX11_feed_22 : decode cX11_feed 22 = .ok (.aload_n 0, 1) := by decide +kernel
theorem dX11_feed_23 : decode cX11_feed 23 = .ok (.getfield 41, 3) := by decide +kernel
theorem dX11_feed_26 : decode cX11_feed 26 = .ok (.iload_n 2, 1) := by decide +kernel
theorem dX11_feed_27 : decode cX11_feed 27 = .ok (.invokevirtual 245, 3) := by decide +kernel
theorem dX11_feed_30 : decode cX11_feed 30 = .ok (.aload_n 0, 1) := by decide +kernel
theorem dX11_feed_31 : decode cX11_feed 31 = .ok (.getfield 41, 3) := by decide +kernel
theorem dX11_feed_34 : decode cX11_feed 34 = .ok (.iload_n 3, 1) := by decide +kernel
theorem dX11_feed_35 : decode cX11_feed 35 = .ok (.invokevirtual 245, 3) := by decide +kernel
theorem dX11_feed_38 : decode cX11_feed 38 = .ok (.aload_n 0, 1) := by decide +kernel
theorem dX11_feed_39 : decode cX11_feed 39 = .ok (.getfield 41, 3) := by decide +kernel
theorem dX11_feed_42 : decode cX11_feed 42 = .ok (.iload 4, 2) := by decide +kernel
theorem dX11_feed_44 : decode cX11_feed 44 = .ok (.invokevirtual 245, 3) := by decide +kernel
theorem dX11_feed_47 : decode cX11_feed 47 = .ok (.aload_n 0, 1) := by decide +kernel
theorem dX11_feed_48 : decode cX11_feed 48 = .ok (.getfield 41, 3) := by decide +kernel
theorem dX11_feed_51 : decode cX11_feed 51 = .ok (.iload 5, 2) := by decide +kernel
theorem dX11_feed_53 : decode cX11_feed 53 = .ok (.invokevirtual 245, 3) := by decide +kernel
theorem dX11_feed_56 : decode cX11_feed 56 = .ok (.aload_n 0, 1) := by decide +kernel
theorem dX11_feed_57 : decode cX11_feed 57 = .ok (.getfield 41, 3) := by decide +kernel
theorem dX11_feed_60 : decode cX11_feed 60 = .ok (.getfield 248, 3) := by decide +kernel
theorem dX11_feed_63 : decode cX11_feed 63 = .ok (.ireturn, 1) := by decide +kernel
/-- LivesAhead.feed(IIIII)I -/
def f_X11_feed (σ : TH) (p0 : Nat) (p1 : Int32) (p2 : Int32) (p3 : Int32) (p4 : Int32) (p5 : Int32) : Option (Int32 × TH) :=
  gt_ (kd_ σ p0 = 13) <| lt_ (fr_ σ 1208 p0) fun r1 => nn_ r1 fun a2 => gt_ (kd_ σ a2 = 8) <| bd_ (f_X6_hasRoomFor σ a2 (20 : Int32)) fun x3 s4 => if x3 = 0 then (some ((-1 : Int32), s4)) else (lt_ (fr_ s4 1208 p0) fun r5 => nn_ r5 fun a6 => gt_ (kd_ s4 a6 = 8) <| bd_ (f_X6_append s4 a6 p1) fun x7 s8 => lt_ (fr_ s8 1208 p0) fun r9 => nn_ r9 fun a10 => gt_ (kd_ s8 a10 = 8) <| bd_ (f_X6_append s8 a10 p2) fun x11 s12 => lt_ (fr_ s12 1208 p0) fun r13 => nn_ r13 fun a14 => gt_ (kd_ s12 a14 = 8) <| bd_ (f_X6_append s12 a14 p3) fun x15 s16 => lt_ (fr_ s16 1208 p0) fun r17 => nn_ r17 fun a18 => gt_ (kd_ s16 a18 = 8) <| bd_ (f_X6_append s16 a18 p4) fun x19 s20 => lt_ (fr_ s20 1208 p0) fun r21 => nn_ r21 fun a22 => gt_ (kd_ s20 a22 = 8) <| bd_ (f_X6_append s20 a22 p5) fun x23 s24 => lt_ (fr_ s24 1208 p0) fun r25 => nn_ r25 fun a26 => gt_ (kd_ s24 a26 = 8) <| lt_ (fi_ s24 701 a26) fun x27 => some (x27, s24))
set_option maxHeartbeats 4000000 in
set_option maxRecDepth 100000 in
theorem c_X11_feed {l : Launch} {D : va_G} {cy : Nat → ClassId} {ka : Nat → Nat} {σ z : TH} {p0 : Nat} {p1 : Int32} {p2 : Int32} {p3 : Int32} {p4 : Int32} {p5 : Int32} {r : Int32} (hf : f_X11_feed σ p0 p1 p2 p3 p4 p5 = some (r, z)) : ct_ l D cy ka yX11_feed 1 22 [va_rf (some p0), .int p1, .int p2, .int p3, .int p4, .int p5] σ (some (.int r)) z := by
  unfold f_X11_feed at hf
  refine v_start (cc := cX11_feed) (own := RX11) (maxL := 6) (ret := (some FieldType.int)) (nm := "feed") (by decide +kernel) kw_642 rfl rfl (by simp [lg_sl, va_rf_cat, cat_i, cat_l]) ?_
  refine v_eqL (L2 := [(0, va_rf (some p0)), (1, .int p1), (2, .int p2), (3, .int p3), (4, .int p4), (5, .int p5)]) (by simp [lv_args, va_rf_cat, cat_i, cat_l]) ?_
  refine v_aload_n (x := (some p0)) dX11_feed_0 rfl 0 rfl ?_
  obtain ⟨hk_p0, hf⟩ := gt_of hf
  refine v_getr cb_12 hk_p0 8 1208 rfl (by decide) rfl (lk_n kw_247 rfl) hf dX11_feed_1 (fun r1 hf => ?_)
  refine v_bipush (v := 20) dX11_feed_4 (by decide) ?_
  obtain ⟨a2, rfl, hf⟩ := nn_of hf
  obtain ⟨hk_a2, hf⟩ := gt_of hf
  obtain ⟨x3, s4, hcs4, hf⟩ := bd_of hf
  have hts4 := c_X6_hasRoomFor (l := l) (D := D) (cy := cy) (ka := ka) hcs4
  refine v_callV cb_7 hk_a2 (As := [.int (20 : Int32)]) (rest := []) hts4 yb_X6_hasRoomFor kw_643 kw_644 kw_645 rfl ⟨Nat.le_of_ble_eq_true rfl, Nat.le_of_ble_eq_true rfl⟩ rfl (cat_len (Nat.le_of_ble_eq_true rfl)) dX11_feed_6 ?_
  have hk_p0 := tk_ hts4.1 hk_p0
  show v_ l D cy ka cX11_feed RX11 6 (some FieldType.int) "feed" 1 22 (qf_ D cy σ z (some (.int r))) σ z _ 9 [(0, va_rf (some p0)), (1, .int p1), (2, .int p2), (3, .int p3), (4, .int p4), (5, .int p5)] [.int x3]
  refine v_if_ne (tgt := 14) hf dX11_feed_9 (by decide) (fun hq hf => ?_) (fun hq hf => ?_)
  · refine v_iconst (v := (-1)) dX11_feed_12 (by decide) ?_
    exact v_iret hf dX11_feed_13
  · refine v_aload_n (x := (some p0)) dX11_feed_14 rfl 0 rfl ?_
    refine v_getr cb_12 hk_p0 8 1208 rfl (by decide) rfl (lk_n kw_247 rfl) hf dX11_feed_15 (fun r5 hf => ?_)
    refine v_iload_n (x := p1) dX11_feed_18 rfl 1 rfl ?_
    obtain ⟨a6, rfl, hf⟩ := nn_of hf
    obtain ⟨hk_a6, hf⟩ := gt_of hf
    obtain ⟨x7, s8, hcs8, hf⟩ := bd_of hf
    have hts8 := c_X6_append (l := l) (D := D) (cy := cy) (ka := ka) hcs8
    refine v_callV cb_7 hk_a6 (As := [.int p1]) (rest := []) hts8 yb_X6_append kw_647 kw_648 kw_649 rfl ⟨Nat.le_of_ble_eq_true rfl, Nat.le_of_ble_eq_true rfl⟩ rfl (cat_len (Nat.le_of_ble_eq_true rfl)) dX11_feed_19 ?_
    have hk_p0 := tk_ hts8.1 hk_p0
    show v_ l D cy ka cX11_feed RX11 6 (some FieldType.int) "feed" 1 22 (qf_ D cy σ z (some (.int r))) σ z _ 22 [(0, va_rf (some p0)), (1, .int p1), (2, .int p2), (3, .int p3), (4, .int p4), (5, .int p5)] []
    refine v_aload_n (x := (some p0)) dX11_feed_22 rfl 0 rfl ?_
    refine v_getr cb_12 hk_p0 8 1208 rfl (by decide) rfl (lk_n kw_247 rfl) hf dX11_feed_23 (fun r9 hf => ?_)
    refine v_iload_n (x := p2) dX11_feed_26 rfl 2 rfl ?_
    obtain ⟨a10, rfl, hf⟩ := nn_of hf
    obtain ⟨hk_a10, hf⟩ := gt_of hf
    obtain ⟨x11, s12, hcs12, hf⟩ := bd_of hf
    have hts12 := c_X6_append (l := l) (D := D) (cy := cy) (ka := ka) hcs12
    refine v_callV cb_7 hk_a10 (As := [.int p2]) (rest := []) hts12 yb_X6_append kw_647 kw_648 kw_649 rfl ⟨Nat.le_of_ble_eq_true rfl, Nat.le_of_ble_eq_true rfl⟩ rfl (cat_len (Nat.le_of_ble_eq_true rfl)) dX11_feed_27 ?_
    have hk_p0 := tk_ hts12.1 hk_p0
    show v_ l D cy ka cX11_feed RX11 6 (some FieldType.int) "feed" 1 22 (qf_ D cy σ z (some (.int r))) σ z _ 30 [(0, va_rf (some p0)), (1, .int p1), (2, .int p2), (3, .int p3), (4, .int p4), (5, .int p5)] []
    refine v_aload_n (x := (some p0)) dX11_feed_30 rfl 0 rfl ?_
    refine v_getr cb_12 hk_p0 8 1208 rfl (by decide) rfl (lk_n kw_247 rfl) hf dX11_feed_31 (fun r13 hf => ?_)
    refine v_iload_n (x := p3) dX11_feed_34 rfl 3 rfl ?_
    obtain ⟨a14, rfl, hf⟩ := nn_of hf
    obtain ⟨hk_a14, hf⟩ := gt_of hf
    obtain ⟨x15, s16, hcs16, hf⟩ := bd_of hf
    have hts16 := c_X6_append (l := l) (D := D) (cy := cy) (ka := ka) hcs16
    refine v_callV cb_7 hk_a14 (As := [.int p3]) (rest := []) hts16 yb_X6_append kw_647 kw_648 kw_649 rfl ⟨Nat.le_of_ble_eq_true rfl, Nat.le_of_ble_eq_true rfl⟩ rfl (cat_len (Nat.le_of_ble_eq_true rfl)) dX11_feed_35 ?_
    have hk_p0 := tk_ hts16.1 hk_p0
    show v_ l D cy ka cX11_feed RX11 6 (some FieldType.int) "feed" 1 22 (qf_ D cy σ z (some (.int r))) σ z _ 38 [(0, va_rf (some p0)), (1, .int p1), (2, .int p2), (3, .int p3), (4, .int p4), (5, .int p5)] []
    refine v_aload_n (x := (some p0)) dX11_feed_38 rfl 0 rfl ?_
    refine v_getr cb_12 hk_p0 8 1208 rfl (by decide) rfl (lk_n kw_247 rfl) hf dX11_feed_39 (fun r17 hf => ?_)
    refine v_iload (x := p4) dX11_feed_42 4 rfl ?_
    obtain ⟨a18, rfl, hf⟩ := nn_of hf
    obtain ⟨hk_a18, hf⟩ := gt_of hf
    obtain ⟨x19, s20, hcs20, hf⟩ := bd_of hf
    have hts20 := c_X6_append (l := l) (D := D) (cy := cy) (ka := ka) hcs20
    refine v_callV cb_7 hk_a18 (As := [.int p4]) (rest := []) hts20 yb_X6_append kw_647 kw_648 kw_649 rfl ⟨Nat.le_of_ble_eq_true rfl, Nat.le_of_ble_eq_true rfl⟩ rfl (cat_len (Nat.le_of_ble_eq_true rfl)) dX11_feed_44 ?_
    have hk_p0 := tk_ hts20.1 hk_p0
    show v_ l D cy ka cX11_feed RX11 6 (some FieldType.int) "feed" 1 22 (qf_ D cy σ z (some (.int r))) σ z _ 47 [(0, va_rf (some p0)), (1, .int p1), (2, .int p2), (3, .int p3), (4, .int p4), (5, .int p5)] []
    refine v_aload_n (x := (some p0)) dX11_feed_47 rfl 0 rfl ?_
    refine v_getr cb_12 hk_p0 8 1208 rfl (by decide) rfl (lk_n kw_247 rfl) hf dX11_feed_48 (fun r21 hf => ?_)
    refine v_iload (x := p5) dX11_feed_51 5 rfl ?_
    obtain ⟨a22, rfl, hf⟩ := nn_of hf
    obtain ⟨hk_a22, hf⟩ := gt_of hf
    obtain ⟨x23, s24, hcs24, hf⟩ := bd_of hf
    have hts24 := c_X6_append (l := l) (D := D) (cy := cy) (ka := ka) hcs24
    refine v_callV cb_7 hk_a22 (As := [.int p5]) (rest := []) hts24 yb_X6_append kw_647 kw_648 kw_649 rfl ⟨Nat.le_of_ble_eq_true rfl, Nat.le_of_ble_eq_true rfl⟩ rfl (cat_len (Nat.le_of_ble_eq_true rfl)) dX11_feed_53 ?_
    have hk_p0 := tk_ hts24.1 hk_p0
    show v_ l D cy ka cX11_feed RX11 6 (some FieldType.int) "feed" 1 22 (qf_ D cy σ z (some (.int r))) σ z _ 56 [(0, va_rf (some p0)), (1, .int p1), (2, .int p2), (3, .int p3), (4, .int p4), (5, .int p5)] []
    refine v_aload_n (x := (some p0)) dX11_feed_56 rfl 0 rfl ?_
    refine v_getr cb_12 hk_p0 8 1208 rfl (by decide) rfl (lk_n kw_247 rfl) hf dX11_feed_57 (fun r25 hf => ?_)
    obtain ⟨a26, rfl, hf⟩ := nn_of hf
    obtain ⟨hk_a26, hf⟩ := gt_of hf
    refine v_geti cb_7 hk_a26 1 701 rfl (by decide) rfl (lk_n kw_76 rfl) hf dX11_feed_60 (fun x27 hf => ?_)
    exact v_iret hf dX11_feed_63
theorem dX7_suits_0 : decode cX7_suits 0 = .ok (.aload_n 1, 1) := by decide +kernel
theorem dX7_suits_1 : decode cX7_suits 1 = .ok (.getfield 51, 3) := by decide +kernel
theorem dX7_suits_4 : decode cX7_suits 4 = .ok (.aload_n 0, 1) := by decide +kernel
theorem dX7_suits_5 : decode cX7_suits 5 = .ok (.getfield 32, 3) := by decide +kernel
theorem dX7_suits_8 : decode cX7_suits 8 = .ok (.if_icmp .eq 5, 3) := by decide +kernel
theorem dX7_suits_11 : decode cX7_suits 11 = .ok (.iconst 0, 1) := by decide +kernel
theorem dX7_suits_12 : decode cX7_suits 12 = .ok (.ireturn, 1) := by decide +kernel
theorem dX7_suits_13 : decode cX7_suits 13 = .ok (.iconst 0, 1) := by decide +kernel
theorem dX7_suits_14 : decode cX7_suits 14 = .ok (.istore_n 2, 1) := by decide +kernel
theorem dX7_suits_15 : decode cX7_suits 15 = .ok (.iload_n 2, 1) := by decide +kernel
theorem dX7_suits_16 : decode cX7_suits 16 = .ok (.aload_n 0, 1) := by decide +kernel
theorem dX7_suits_17 : decode cX7_suits 17 = .ok (.getfield 18, 3) := by decide +kernel
theorem dX7_suits_20 : decode cX7_suits 20 = .ok (.if_icmp .ge 45, 3) := by decide +kernel
theorem dX7_suits_23 : decode cX7_suits 23 = .ok (.iload_n 2, 1) := by decide +kernel
theorem dX7_suits_24 : decode cX7_suits 24 = .ok (.iconst 3, 1) := by decide +kernel
theorem dX7_suits_25 : decode cX7_suits 25 = .ok (.if_icmp .ge 40, 3) := by decide +kernel
theorem dX7_suits_28 : decode cX7_suits 28 = .ok (.aload_n 1, 1) := by decide +kernel
theorem dX7_suits_29 : decode cX7_suits 29 = .ok (.getfield 54, 3) := by decide +kernel
theorem dX7_suits_32 : decode cX7_suits 32 = .ok (.aload_n 0, 1) := by decide +kernel
theorem dX7_suits_33 : decode cX7_suits 33 = .ok (.getfield 9, 3) := by decide +kernel
theorem dX7_suits_36 : decode cX7_suits 36 = .ok (.iload_n 2, 1) := by decide +kernel
theorem dX7_suits_37 : decode cX7_suits 37 = .ok (.iaload, 1) := by decide +kernel
theorem dX7_suits_38 : decode cX7_suits 38 = .ok (.aaload, 1) := by decide +kernel
theorem dX7_suits_39 : decode cX7_suits 39 = .ok (.astore_n 3, 1) := by decide +kernel
theorem dX7_suits_40 : decode cX7_suits 40 = .ok (.aload_n 3, 1) := by decide +kernel
theorem dX7_suits_41 : decode cX7_suits 41 = .ok (.ifnull 18, 3) := by decide +kernel
theorem dX7_suits_44 : decode cX7_suits 44 = .ok (.aload_n 3, 1) := by decide +kernel
theorem dX7_suits_45 : decode cX7_suits 45 = .ok (.getfield 57, 3) := by decide +kernel
theorem dX7_suits_48 : decode cX7_suits 48 = .ok (.aload_n 0, 1) := by decide +kernel
theorem dX7_suits_49 : decode cX7_suits 49 = .ok (.getfield 15, 3) := by decide +kernel
theorem dX7_suits_52 : decode cX7_suits 52 = .ok (.iload_n 2, 1) := by decide +kernel
theorem dX7_suits_53 : decode cX7_suits 53 = .ok (.iaload, 1) := by decide +kernel
theorem dX7_suits_54 : decode cX7_suits 54 = .ok (.if_icmp .eq 5, 3) := by decide +kernel
theorem dX7_suits_57 : decode cX7_suits 57 = .ok (.iconst 0, 1) := by decide +kernel
theorem dX7_suits_58 : decode cX7_suits 58 = .ok (.ireturn, 1) := by decide +kernel
theorem dX7_suits_59 : decode cX7_suits 59 = .ok (.iinc 2 1, 3) := by decide +kernel
theorem dX7_suits_62 : decode cX7_suits 62 = .ok (.goto (-47), 3) := by decide +kernel
theorem dX7_suits_65 : decode cX7_suits 65 = .ok (.iconst 1, 1) := by decide +kernel
theorem dX7_suits_66 : decode cX7_suits 66 = .ok (.ireturn, 1) := by decide +kernel
def f_X7_suits_b65 (σ : TH) : Option (Int32 × TH) :=
  some ((1 : Int32), σ)
set_option maxHeartbeats 4000000 in
set_option maxRecDepth 100000 in
theorem t_X7_suits_b65 {l : Launch} {D : va_G} {cy : Nat → ClassId} {ka : Nat → Nat} {σ0 z : TH} {r : Int32}  {σ : TH}  (hf : f_X7_suits_b65 σ  = some (r, z)) : v_ l D cy ka cX7_suits RX7 4 (some FieldType.boolean) "suits" 0 0 (qf_ D cy σ0 z (some (.int r))) σ0 z σ 65 [] [] := by
  unfold f_X7_suits_b65 at hf
  refine v_iconst (v := 1) dX7_suits_65 (by decide) ?_
  exact v_zret hf rfl dX7_suits_66
def f_X7_suits_b59 (rec_15 : TH → Nat → Option Nat → Int32 → Option (Int32 × TH)) (σ : TH) (l0 : Nat) (l1 : Option Nat) (l2 : Int32) : Option (Int32 × TH) :=
  lt_ (l2 + 1) fun x13 => rec_15 σ l0 l1 x13
set_option maxHeartbeats 4000000 in
set_option maxRecDepth 100000 in
theorem t_X7_suits_b59 {l : Launch} {D : va_G} {cy : Nat → ClassId} {ka : Nat → Nat} {σ0 z : TH} {r : Int32} {rec_15 : TH → Nat → Option Nat → Int32 → Option (Int32 × TH)} (hrec_15 : ∀ (σ : TH) (l0 : Nat) (l1 : Option Nat) (l2 : Int32), rec_15 σ l0 l1 l2 = some (r, z) → v_ l D cy ka cX7_suits RX7 4 (some FieldType.boolean) "suits" 0 0 (qf_ D cy σ0 z (some (.int r))) σ0 z σ 15 [(0, va_rf (some l0)), (1, va_rf l1), (2, .int l2)] []) {σ : TH} {l0 : Nat} {l1 : Option Nat} {l2 : Int32} (hf : f_X7_suits_b59 rec_15 σ l0 l1 l2 = some (r, z)) : v_ l D cy ka cX7_suits RX7 4 (some FieldType.boolean) "suits" 0 0 (qf_ D cy σ0 z (some (.int r))) σ0 z σ 59 [(0, va_rf (some l0)), (1, va_rf l1), (2, .int l2)] [] := by
  unfold f_X7_suits_b59 at hf
  obtain ⟨x13, ex13⟩ : ∃ y : Int32, y = l2 + 1 := ⟨_, rfl⟩
  rw [lt_e, ← ex13] at hf
  refine v_iinc (v := x13) [(2, .int x13), (0, va_rf (some l0)), (1, va_rf l1)] dX7_suits_59 2 rfl (by rw [ex13]; rfl) (by decide) (by simp [va_rf_cat, cat_i, cat_l]) ?_
  refine v_goto (tgt := 15) dX7_suits_62 (by decide) ?_
  refine v_sub [1, 2, 0] (L2 := [(0, va_rf (some l0)), (1, va_rf l1), (2, .int x13)]) rfl ?_
  exact hrec_15 _ _ _ _ hf
def f_X7_suits_b15 : Nat → TH → Nat → Option Nat → Int32 → Option (Int32 × TH)
  | 0, _, _, _, _ => none
  | n + 1, σ, l0, l1, l2 => gt_ (kd_ σ l0 = 9) <| lt_ (fi_ σ 807 l0) fun x4 => if x4 ≤ l2 then (f_X7_suits_b65 σ ) else (if (3 : Int32) ≤ l2 then (f_X7_suits_b65 σ ) else (nn_ l1 fun a5 => gt_ (kd_ σ a5 = 4) <| lt_ (fr_ σ 309 a5) fun r6 => lt_ (fr_ σ 805 l0) fun r7 => nn_ r7 fun a8 => gt_ (kd_ σ a8 = 20) <| gt_ (¬ (l2 < 0 ∨ ln_ σ a8 ≤ l2.toNatClampNeg)) <| lt_ (ai_ σ a8 l2.toNatClampNeg) fun x9 => nn_ r6 fun a10 => gt_ (kd_ σ a10 = 25) <| gt_ (¬ (x9 < 0 ∨ ln_ σ a10 ≤ x9.toNatClampNeg)) <| lt_ (ar_ σ a10 x9.toNatClampNeg) fun r11 => oc_ r11 (f_X7_suits_b59 (f_X7_suits_b15 n) σ l0 (some a5) l2) (fun a12 => gt_ (kd_ σ a12 = 10) <| lt_ (fi_ σ 900 a12) fun x14 => lt_ (fr_ σ 806 l0) fun r15 => nn_ r15 fun a16 => gt_ (kd_ σ a16 = 20) <| gt_ (¬ (l2 < 0 ∨ ln_ σ a16 ≤ l2.toNatClampNeg)) <| lt_ (ai_ σ a16 l2.toNatClampNeg) fun x17 => if x14 = x17 then (f_X7_suits_b59 (f_X7_suits_b15 n) σ l0 (some a5) l2) else (some ((0 : Int32), σ)))))
set_option maxHeartbeats 4000000 in
set_option maxRecDepth 100000 in
theorem t_X7_suits_b15 {l : Launch} {D : va_G} {cy : Nat → ClassId} {ka : Nat → Nat} {σ0 z : TH} {r : Int32}  : ∀ (n : Nat) (σ : TH) (l0 : Nat) (l1 : Option Nat) (l2 : Int32), f_X7_suits_b15 n σ l0 l1 l2 = some (r, z) → v_ l D cy ka cX7_suits RX7 4 (some FieldType.boolean) "suits" 0 0 (qf_ D cy σ0 z (some (.int r))) σ0 z σ 15 [(0, va_rf (some l0)), (1, va_rf l1), (2, .int l2)] [] := by
  intro n
  induction n with
  | zero => intro σ l0 l1 l2 hf; unfold f_X7_suits_b15 at hf; cases hf
  | succ n ih =>
    intro σ l0 l1 l2 hf
    unfold f_X7_suits_b15 at hf
    have hrec_15 := ih
    refine v_iload_n (x := l2) dX7_suits_15 rfl 2 rfl ?_
    refine v_aload_n (x := (some l0)) dX7_suits_16 rfl 0 rfl ?_
    obtain ⟨hk_l0, hf⟩ := gt_of hf
    refine v_geti cb_8 hk_l0 7 807 rfl (by decide) rfl (lk_n kw_1013 rfl) hf dX7_suits_17 (fun x4 hf => ?_)
    refine v_icmp_ge (tgt := 65) hf dX7_suits_20 (by decide) (fun hq hf => ?_) (fun hq hf => ?_)
    · refine v_sub [] (L2 := []) rfl ?_
      exact t_X7_suits_b65  hf
    · refine v_iload_n (x := l2) dX7_suits_23 rfl 2 rfl ?_
      refine v_iconst (v := 3) dX7_suits_24 (by decide) ?_
      refine v_icmp_ge (tgt := 65) hf dX7_suits_25 (by decide) (fun hq hf => ?_) (fun hq hf => ?_)
      · refine v_sub [] (L2 := []) rfl ?_
        exact t_X7_suits_b65  hf
      · refine v_aload_n (x := l1) dX7_suits_28 rfl 1 rfl ?_
        obtain ⟨a5, rfl, hf⟩ := nn_of hf
        obtain ⟨hk_a5, hf⟩ := gt_of hf
        refine v_getr cb_3 hk_a5 9 309 rfl (by decide) rfl (lk_n kw_483 rfl) hf dX7_suits_29 (fun r6 hf => ?_)
        refine v_aload_n (x := (some l0)) dX7_suits_32 rfl 0 rfl ?_
        refine v_getr cb_8 hk_l0 5 805 rfl (by decide) rfl (lk_n kw_1011 rfl) hf dX7_suits_33 (fun r7 hf => ?_)
        refine v_iload_n (x := l2) dX7_suits_36 rfl 2 rfl ?_
        obtain ⟨a8, rfl, hf⟩ := nn_of hf
        obtain ⟨hk_a8, hf⟩ := gt_of hf
        refine v_iald hk_a8 hf dX7_suits_37 (fun x9 hf => ?_)
        obtain ⟨a10, rfl, hf⟩ := nn_of hf
        obtain ⟨hk_a10, hf⟩ := gt_of hf
        refine v_aald 24 5 RX8 hk_a10 (by decide) rfl hf dX7_suits_38 (fun r11 hf => ?_)
        refine v_astore_n [(3, va_rf r11), (0, va_rf (some l0)), (1, va_rf (some a5)), (2, .int l2)] dX7_suits_39 rfl (by decide) rfl ?_
        refine v_aload_n (x := r11) dX7_suits_40 rfl 0 rfl ?_
        refine v_ifnull2 (tgt := 59) hf dX7_suits_41 (by decide) (fun e9 hf => ?_) (fun a12 e9 hf => ?_)
        · subst e9
          refine v_sub [1, 2, 3] (L2 := [(0, va_rf (some l0)), (1, va_rf (some a5)), (2, .int l2)]) rfl ?_
          exact t_X7_suits_b59 hrec_15 hf
        · subst e9
          refine v_aload_n (x := (some a12)) dX7_suits_44 rfl 0 rfl ?_
          obtain ⟨hk_a12, hf⟩ := gt_of hf
          refine v_geti cb_9 hk_a12 0 900 rfl (by decide) rfl (lk_n kw_585 rfl) hf dX7_suits_45 (fun x14 hf => ?_)
          refine v_aload_n (x := (some l0)) dX7_suits_48 rfl 1 rfl ?_
          refine v_getr cb_8 hk_l0 6 806 rfl (by decide) rfl (lk_n kw_1012 rfl) hf dX7_suits_49 (fun r15 hf => ?_)
          refine v_iload_n (x := l2) dX7_suits_52 rfl 3 rfl ?_
          obtain ⟨a16, rfl, hf⟩ := nn_of hf
          obtain ⟨hk_a16, hf⟩ := gt_of hf
          refine v_iald hk_a16 hf dX7_suits_53 (fun x17 hf => ?_)
          refine v_icmp_eq (tgt := 59) hf dX7_suits_54 (by decide) (fun hq hf => ?_) (fun hq hf => ?_)
          · refine v_sub [1, 2, 3] (L2 := [(0, va_rf (some l0)), (1, va_rf (some a5)), (2, .int l2)]) rfl ?_
            exact t_X7_suits_b59 hrec_15 hf
          · refine v_iconst (v := 0) dX7_suits_57 (by decide) ?_
            exact v_zret hf rfl dX7_suits_58
/-- LivesAhead$Report.suits(LLivesAhead$Person;)Z -/
def f_X7_suits (σ : TH) (p0 : Nat) (p1 : Option Nat) : Option (Int32 × TH) :=
  nn_ p1 fun a1 => gt_ (kd_ σ a1 = 4) <| lt_ (fi_ σ 301 a1) fun x2 => gt_ (kd_ σ p0 = 9) <| lt_ (fi_ σ 801 p0) fun x3 => if x2 = x3 then (f_X7_suits_b15 fu_ σ p0 (some a1) (0 : Int32)) else (some ((0 : Int32), σ))
set_option maxHeartbeats 4000000 in
set_option maxRecDepth 100000 in
theorem c_X7_suits {l : Launch} {D : va_G} {cy : Nat → ClassId} {ka : Nat → Nat} {σ z : TH} {p0 : Nat} {p1 : Option Nat} {r : Int32} (hf : f_X7_suits σ p0 p1 = some (r, z)) : ct_ l D cy ka yX7_suits 0 0 [va_rf (some p0), va_rf p1] σ (some (.int r)) z := by
  unfold f_X7_suits at hf
  refine v_start (cc := cX7_suits) (own := RX7) (maxL := 4) (ret := (some FieldType.boolean)) (nm := "suits") (by decide +kernel) kw_1063 rfl rfl (by simp [lg_sl, va_rf_cat, cat_i, cat_l]) ?_
  refine v_eqL (L2 := [(0, va_rf (some p0)), (1, va_rf p1)]) (by simp [lv_args, va_rf_cat, cat_i, cat_l]) ?_
  refine v_aload_n (x := p1) dX7_suits_0 rfl 1 rfl ?_
  obtain ⟨a1, rfl, hf⟩ := nn_of hf
  obtain ⟨hk_a1, hf⟩ := gt_of hf
  refine v_geti cb_3 hk_a1 1 301 rfl (by decide) rfl (lk_n kw_466 rfl) hf dX7_suits_1 (fun x2 hf => ?_)
  refine v_aload_n (x := (some p0)) dX7_suits_4 rfl 0 rfl ?_
  obtain ⟨hk_p0, hf⟩ := gt_of hf
  refine v_geti cb_8 hk_p0 1 801 rfl (by decide) rfl (lk_n kw_1004 rfl) hf dX7_suits_5 (fun x3 hf => ?_)
  refine v_icmp_eq (tgt := 13) hf dX7_suits_8 (by decide) (fun hq hf => ?_) (fun hq hf => ?_)
  · refine v_iconst (v := 0) dX7_suits_13 (by decide) ?_
    refine v_istore_n [(2, .int (0 : Int32)), (0, va_rf (some p0)), (1, va_rf (some a1))] dX7_suits_14 rfl (by decide) rfl ?_
    refine v_sub [1, 2, 0] (L2 := [(0, va_rf (some p0)), (1, va_rf (some a1)), (2, .int (0 : Int32))]) rfl ?_
    exact t_X7_suits_b15  _ _ _ _ _ hf
  · refine v_iconst (v := 0) dX7_suits_11 (by decide) ?_
    exact v_zret hf rfl dX7_suits_12
theorem dX11_checkStale_0 : decode cX11_checkStale 0 = .ok (.aload_n 0, 1) := by decide +kernel
theorem dX11_checkStale_1 : decode cX11_checkStale 1 = .ok (.aload_n 1, 1) := by decide +kernel
theorem dX11_checkStale_2 : decode cX11_checkStale 2 = .ok (.aload_n 0, 1) := by decide +kernel
theorem dX11_checkStale_3 : decode cX11_checkStale 3 = .ok (.invokevirtual 188, 3) := by decide +kernel
theorem dX11_checkStale_6 : decode cX11_checkStale 6 = .ok (.invokevirtual 191, 3) := by decide +kernel
theorem dX11_checkStale_9 : decode cX11_checkStale 9 = .ok (.istore_n 2, 1) := by decide +kernel
theorem dX11_checkStale_10 : decode cX11_checkStale 10 = .ok (.iconst 0, 1) := by decide +kernel
theorem dX11_checkStale_11 : decode cX11_checkStale 11 = .ok (.istore_n 3, 1) := by decide +kernel
theorem dX11_checkStale_12 : decode cX11_checkStale 12 = .ok (.iload_n 3, 1) := by decide +kernel
theorem dX11_checkStale_13 : decode cX11_checkStale 13 = .ok (.bipush 10, 2) := by decide +kernel
theorem dX11_checkStale_15 : decode cX11_checkStale 15 = .ok (.if_icmp .ge 39, 3) := by decide +kernel
theorem dX11_checkStale_18 : decode cX11_checkStale 18 = .ok (.aload_n 1, 1) := by decide +kernel
theorem dX11_checkStale_19 : decode cX11_checkStale 19 = .ok (.getfield 203, 3) := by decide +kernel
theorem dX11_checkStale_22 : decode cX11_checkStale 22 = .ok (.iload_n 3, 1) := by decide +kernel
theorem dX11_checkStale_23 : decode cX11_checkStale 23 = .ok (.aaload, 1) := by decide +kernel
theorem dX11_checkStale_24 : decode cX11_checkStale 24 = .ok (.astore 4, 2) := by decide +kernel
theorem dX11_checkStale_26 : decode cX11_checkStale 26 = .ok (.aload 4, 2) := by decide +kernel
theorem dX11_checkStale_28 : decode cX11_checkStale 28 = .ok (.ifnull 20, 3) := by decide +kernel
theorem dX11_checkStale_31 : decode cX11_checkStale 31 = .ok (.iload_n 2, 1) := by decide +kernel
theorem dX11_checkStale_32 : decode cX11_checkStale 32 = .ok (.iconst 1, 1) := by decide +kernel
theorem dX11_checkStale_33 : decode cX11_checkStale 33 = .ok (.iload_n 3, 1) := by decide +kernel
theorem dX11_checkStale_34 : decode cX11_checkStale 34 = .ok (.ishl, 1) := by decide +kernel
theorem dX11_checkStale_35 : decode cX11_checkStale 35 = .ok (.iand, 1) := by decide +kernel
theorem dX11_checkStale_36 : decode cX11_checkStale 36 = .ok (.ifCond .eq 12, 3) := by decide +kernel
theorem dX11_checkStale_39 : decode cX11_checkStale 39 = .ok (.aload 4, 2) := by decide +kernel
theorem dX11_checkStale_41 : decode cX11_checkStale 41 = .ok (.aload_n 0, 1) := by decide +kernel
theorem dX11_checkStale_42 : decode cX11_checkStale 42 = .ok (.invokevirtual 188, 3) := by decide +kernel
theorem dX11_checkStale_45 : decode cX11_checkStale 45 = .ok (.putfield 213, 3) := by decide +kernel
theorem dX11_checkStale_48 : decode cX11_checkStale 48 = .ok (.iinc 3 1, 3) := by decide +kernel
theorem dX11_checkStale_51 : decode cX11_checkStale 51 = .ok (.goto (-39), 3) := by decide +kernel
theorem dX11_checkStale_54 : decode cX11_checkStale 54 = .ok (.iload_n 2, 1) := by decide +kernel
theorem dX11_checkStale_55 : decode cX11_checkStale 55 = .ok (.invokestatic 183, 3) := by decide +kernel
theorem dX11_checkStale_58 : decode cX11_checkStale 58 = .ok (.ireturn, 1) := by decide +kernel
def f_X11_checkStale_b48 (rec_12 : TH → Nat → Option Nat → Int32 → Int32 → Option (Int32 × TH)) (σ : TH) (l0 : Nat) (l1 : Option Nat) (l2 : Int32) (l3 : Int32) : Option (Int32 × TH) :=
  lt_ (l3 + 1) fun x12 => rec_12 σ l0 l1 l2 x12
set_option maxHeartbeats 4000000 in
set_option maxRecDepth 100000 in
theorem t_X11_checkStale_b48 {l : Launch} {D : va_G} {cy : Nat → ClassId} {ka : Nat → Nat} {σ0 z : TH} {r : Int32} {rec_12 : TH → Nat → Option Nat → Int32 → Int32 → Option (Int32 × TH)} (hrec_12 : ∀ (σ : TH) (l0 : Nat) (l1 : Option Nat) (l2 : Int32) (l3 : Int32), rec_12 σ l0 l1 l2 l3 = some (r, z) → v_ l D cy ka cX11_checkStale RX11 5 (some FieldType.int) "checkStale" 2 48 (qf_ D cy σ0 z (some (.int r))) σ0 z σ 12 [(0, va_rf (some l0)), (1, va_rf l1), (2, .int l2), (3, .int l3)] []) {σ : TH} {l0 : Nat} {l1 : Option Nat} {l2 : Int32} {l3 : Int32} (hf : f_X11_checkStale_b48 rec_12 σ l0 l1 l2 l3 = some (r, z)) : v_ l D cy ka cX11_checkStale RX11 5 (some FieldType.int) "checkStale" 2 48 (qf_ D cy σ0 z (some (.int r))) σ0 z σ 48 [(0, va_rf (some l0)), (1, va_rf l1), (2, .int l2), (3, .int l3)] [] := by
  unfold f_X11_checkStale_b48 at hf
  obtain ⟨x12, ex12⟩ : ∃ y : Int32, y = l3 + 1 := ⟨_, rfl⟩
  rw [lt_e, ← ex12] at hf
  refine v_iinc (v := x12) [(3, .int x12), (0, va_rf (some l0)), (1, va_rf l1), (2, .int l2)] dX11_checkStale_48 3 rfl (by rw [ex12]; rfl) (by decide) rfl ?_
  refine v_goto (tgt := 12) dX11_checkStale_51 (by decide) ?_
  refine v_sub [1, 2, 3, 0] (L2 := [(0, va_rf (some l0)), (1, va_rf l1), (2, .int l2), (3, .int x12)]) rfl ?_
  exact hrec_12 _ _ _ _ _ hf
def f_X11_checkStale_b12 : Nat → TH → Nat → Option Nat → Int32 → Int32 → Option (Int32 × TH)
  | 0, _, _, _, _, _ => none
  | n + 1, σ, l0, l1, l2, l3 => if (10 : Int32) ≤ l3 then (bd_ (f_J6_bitCount_0f7a4 σ l2) fun x5 s6 => some (x5, s6)) else (nn_ l1 fun a7 => gt_ (kd_ σ a7 = 4) <| lt_ (fr_ σ 309 a7) fun r8 => nn_ r8 fun a9 => gt_ (kd_ σ a9 = 25) <| gt_ (¬ (l3 < 0 ∨ ln_ σ a9 ≤ l3.toNatClampNeg)) <| lt_ (ar_ σ a9 l3.toNatClampNeg) fun r10 => oc_ r10 (f_X11_checkStale_b48 (f_X11_checkStale_b12 n) σ l0 (some a7) l2 l3) (fun a11 => if (l2 &&& ((1 : Int32) <<< (l3 &&& 31))) = 0 then (f_X11_checkStale_b48 (f_X11_checkStale_b12 n) σ l0 (some a7) l2 l3) else (gt_ (kd_ σ l0 = 13) <| bd_ (f_X11_today σ l0) fun x13 s14 => gt_ (kd_ s14 a11 = 10) <| lt_ (si_ s14 905 a11 x13) fun s15 => f_X11_checkStale_b48 (f_X11_checkStale_b12 n) s15 l0 (some a7) l2 l3)))
set_option maxHeartbeats 4000000 in
set_option maxRecDepth 100000 in
theorem t_X11_checkStale_b12 {l : Launch} {D : va_G} {cy : Nat → ClassId} {ka : Nat → Nat} {σ0 z : TH} {r : Int32}  : ∀ (n : Nat) (σ : TH) (l0 : Nat) (l1 : Option Nat) (l2 : Int32) (l3 : Int32), f_X11_checkStale_b12 n σ l0 l1 l2 l3 = some (r, z) → v_ l D cy ka cX11_checkStale RX11 5 (some FieldType.int) "checkStale" 2 48 (qf_ D cy σ0 z (some (.int r))) σ0 z σ 12 [(0, va_rf (some l0)), (1, va_rf l1), (2, .int l2), (3, .int l3)] [] := by
  intro n
  induction n with
  | zero => intro σ l0 l1 l2 l3 hf; unfold f_X11_checkStale_b12 at hf; cases hf
  | succ n ih =>
    intro σ l0 l1 l2 l3 hf
    unfold f_X11_checkStale_b12 at hf
    have hrec_12 := ih
    refine v_iload_n (x := l3) dX11_checkStale_12 rfl 3 rfl ?_
    refine v_bipush (v := 10) dX11_checkStale_13 (by decide) ?_
    refine v_icmp_ge (tgt := 54) hf dX11_checkStale_15 (by decide) (fun hq hf => ?_) (fun hq hf => ?_)
    · refine v_iload_n (x := l2) dX11_checkStale_54 rfl 2 rfl ?_
      obtain ⟨x5, s6, hcs6, hf⟩ := bd_of hf
      have hts6 := c_J6_bitCount_0f7a4 (l := l) (D := D) (cy := cy) (ka := ka) hcs6
      refine v_callS (As := [.int l2]) (rest := []) hts6 yb_J6_bitCount_0f7a4 kw_546 kw_547 rfl ⟨Nat.le_of_ble_eq_true rfl, Nat.le_of_ble_eq_true rfl⟩ rfl (cat_len (Nat.le_of_ble_eq_true rfl)) dX11_checkStale_55 ?_
      show v_ l D cy ka cX11_checkStale RX11 5 (some FieldType.int) "checkStale" 2 48 (qf_ D cy σ0 z (some (.int r))) σ0 z _ 58 [(0, va_rf (some l0)), (1, va_rf l1), (2, .int l2), (3, .int l3)] [.int x5]
      exact v_iret hf dX11_checkStale_58
    · refine v_aload_n (x := l1) dX11_checkStale_18 rfl 1 rfl ?_
      obtain ⟨a7, rfl, hf⟩ := nn_of hf
      obtain ⟨hk_a7, hf⟩ := gt_of hf
      refine v_getr cb_3 hk_a7 9 309 rfl (by decide) rfl (lk_n kw_484 rfl) hf dX11_checkStale_19 (fun r8 hf => ?_)
      refine v_iload_n (x := l3) dX11_checkStale_22 rfl 3 rfl ?_
      obtain ⟨a9, rfl, hf⟩ := nn_of hf
      obtain ⟨hk_a9, hf⟩ := gt_of hf
      refine v_aald 24 5 RX8 hk_a9 (by decide) rfl hf dX11_checkStale_23 (fun r10 hf => ?_)
      refine v_astore [(4, va_rf r10), (0, va_rf (some l0)), (1, va_rf (some a7)), (2, .int l2), (3, .int l3)] dX11_checkStale_24 (by decide) rfl ?_
      refine v_aload (x := r10) dX11_checkStale_26 0 rfl ?_
      refine v_ifnull2 (tgt := 48) hf dX11_checkStale_28 (by decide) (fun e9 hf => ?_) (fun a11 e9 hf => ?_)
      · subst e9
        refine v_sub [1, 2, 3, 4] (L2 := [(0, va_rf (some l0)), (1, va_rf (some a7)), (2, .int l2), (3, .int l3)]) rfl ?_
        exact t_X11_checkStale_b48 hrec_12 hf
      · subst e9
        refine v_iload_n (x := l2) dX11_checkStale_31 rfl 3 rfl ?_
        refine v_iconst (v := 1) dX11_checkStale_32 (by decide) ?_
        refine v_iload_n (x := l3) dX11_checkStale_33 rfl 4 rfl ?_
        refine v_ishl dX11_checkStale_34 ?_
        refine v_iand dX11_checkStale_35 ?_
        refine v_if_eq (tgt := 48) hf dX11_checkStale_36 (by decide) (fun hq hf => ?_) (fun hq hf => ?_)
        · refine v_sub [1, 2, 3, 4] (L2 := [(0, va_rf (some l0)), (1, va_rf (some a7)), (2, .int l2), (3, .int l3)]) rfl ?_
          exact t_X11_checkStale_b48 hrec_12 hf
        · refine v_aload (x := (some a11)) dX11_checkStale_39 0 rfl ?_
          refine v_aload_n (x := (some l0)) dX11_checkStale_41 rfl 1 rfl ?_
          obtain ⟨hk_l0, hf⟩ := gt_of hf
          obtain ⟨x13, s14, hcs14, hf⟩ := bd_of hf
          have hts14 := c_X11_today (l := l) (D := D) (cy := cy) (ka := ka) hcs14
          refine v_callV cb_12 hk_l0 (As := []) (rest := [va_rf (some a11)]) hts14 yb_X11_today kw_538 kw_540 kp_13 rfl ⟨Nat.le_of_ble_eq_true rfl, Nat.le_of_ble_eq_true rfl⟩ rfl (cat_len (Nat.le_of_ble_eq_true rfl)) dX11_checkStale_42 ?_
          have hk_a7 := tk_ hts14.1 hk_a7
          have hk_l0 := tk_ hts14.1 hk_l0
          show v_ l D cy ka cX11_checkStale RX11 5 (some FieldType.int) "checkStale" 2 48 (qf_ D cy σ0 z (some (.int r))) σ0 z _ 45 [(4, va_rf (some a11)), (0, va_rf (some l0)), (1, va_rf (some a7)), (2, .int l2), (3, .int l3)] [.int x13, va_rf (some a11)]
          obtain ⟨hk_a11, hf⟩ := gt_of hf
          refine v_puti2 cb_9 hk_a11 5 905 rfl (by decide) rfl (lk_n kw_596 rfl) (Or.inl rfl) rfl rfl hf dX11_checkStale_45 (fun s15 hts15 hf => ?_)
          have hk_a7 := tk_ hts15 hk_a7
          have hk_l0 := tk_ hts15 hk_l0
          have hk_a11 := tk_ hts15 hk_a11
          refine v_sub [1, 2, 3, 4] (L2 := [(0, va_rf (some l0)), (1, va_rf (some a7)), (2, .int l2), (3, .int l3)]) rfl ?_
          exact t_X11_checkStale_b48 hrec_12 hf
/-- LivesAhead.checkStale(LLivesAhead$Person;)I -/
def f_X11_checkStale (σ : TH) (p0 : Nat) (p1 : Option Nat) : Option (Int32 × TH) :=
  gt_ (kd_ σ p0 = 13) <| bd_ (f_X11_today σ p0) fun x1 s2 => bd_ (f_X11_staleKinds s2 p0 p1 x1) fun x3 s4 => f_X11_checkStale_b12 fu_ s4 p0 p1 x3 (0 : Int32)
set_option maxHeartbeats 4000000 in
set_option maxRecDepth 100000 in
theorem c_X11_checkStale {l : Launch} {D : va_G} {cy : Nat → ClassId} {ka : Nat → Nat} {σ z : TH} {p0 : Nat} {p1 : Option Nat} {r : Int32} (hf : f_X11_checkStale σ p0 p1 = some (r, z)) : ct_ l D cy ka yX11_checkStale 2 48 [va_rf (some p0), va_rf p1] σ (some (.int r)) z := by
  unfold f_X11_checkStale at hf
  refine v_start (cc := cX11_checkStale) (own := RX11) (maxL := 5) (ret := (some FieldType.int)) (nm := "checkStale") (by decide +kernel) kw_1321 rfl rfl (by simp [lg_sl, va_rf_cat, cat_i, cat_l]) ?_
  refine v_eqL (L2 := [(0, va_rf (some p0)), (1, va_rf p1)]) (by simp [lv_args, va_rf_cat, cat_i, cat_l]) ?_
  refine v_aload_n (x := (some p0)) dX11_checkStale_0 rfl 0 rfl ?_
  refine v_aload_n (x := p1) dX11_checkStale_1 rfl 1 rfl ?_
  refine v_aload_n (x := (some p0)) dX11_checkStale_2 rfl 0 rfl ?_
  obtain ⟨hk_p0, hf⟩ := gt_of hf
  obtain ⟨x1, s2, hcs2, hf⟩ := bd_of hf
  have hts2 := c_X11_today (l := l) (D := D) (cy := cy) (ka := ka) hcs2
  refine v_callV cb_12 hk_p0 (As := []) (rest := [va_rf p1, va_rf (some p0)]) hts2 yb_X11_today kw_538 kw_540 kp_13 rfl ⟨Nat.le_of_ble_eq_true rfl, Nat.le_of_ble_eq_true rfl⟩ rfl (cat_len (Nat.le_of_ble_eq_true rfl)) dX11_checkStale_3 ?_
  have hk_p0 := tk_ hts2.1 hk_p0
  show v_ l D cy ka cX11_checkStale RX11 5 (some FieldType.int) "checkStale" 2 48 (qf_ D cy σ z (some (.int r))) σ z _ 6 [(0, va_rf (some p0)), (1, va_rf p1)] [.int x1, va_rf p1, va_rf (some p0)]
  obtain ⟨x3, s4, hcs4, hf⟩ := bd_of hf
  have hts4 := c_X11_staleKinds (l := l) (D := D) (cy := cy) (ka := ka) hcs4
  refine v_callV cb_12 hk_p0 (As := [va_rf p1, .int x1]) (rest := []) hts4 yb_X11_staleKinds kw_552 kw_554 kp_14 rfl ⟨Nat.le_of_ble_eq_true rfl, Nat.le_of_ble_eq_true rfl⟩ rfl (cat_len (Nat.le_of_ble_eq_true rfl)) dX11_checkStale_6 ?_
  have hk_p0 := tk_ hts4.1 hk_p0
  show v_ l D cy ka cX11_checkStale RX11 5 (some FieldType.int) "checkStale" 2 48 (qf_ D cy σ z (some (.int r))) σ z _ 9 [(0, va_rf (some p0)), (1, va_rf p1)] [.int x3]
  refine v_istore_n [(2, .int x3), (0, va_rf (some p0)), (1, va_rf p1)] dX11_checkStale_9 rfl (by decide) (by simp [va_rf_cat, cat_i, cat_l]) ?_
  refine v_iconst (v := 0) dX11_checkStale_10 (by decide) ?_
  refine v_istore_n [(3, .int (0 : Int32)), (2, .int x3), (0, va_rf (some p0)), (1, va_rf p1)] dX11_checkStale_11 rfl (by decide) rfl ?_
  refine v_sub [2, 3, 1, 0] (L2 := [(0, va_rf (some p0)), (1, va_rf p1), (2, .int x3), (3, .int (0 : Int32))]) rfl ?_
  exact t_X11_checkStale_b12  _ _ _ _ _ _ hf
theorem dX0_init_0 : decode cX0_init 0 = .ok (.aload_n 0, 1) := by decide +kernel
theorem dX0_init_1 : decode cX0_init 1 = .ok (.invokespecial 3, 3) := by decide +kernel
theorem dX0_init_4 : decode cX0_init 4 = .ok (.aload_n 0, 1) := by decide +kernel
theorem dX0_init_5 : decode cX0_init 5 = .ok (.bipush 14, 2) := by decide +kernel
theorem dX0_init_7 : decode cX0_init 7 = .ok (.newarray .int, 2) := by decide +kernel
theorem dX0_init_9 : decode cX0_init 9 = .ok (.putfield 9, 3) := by decide +kernel
theorem dX0_init_12 : decode cX0_init 12 = .ok (.aload_n 0, 1) := by decide +kernel
theorem dX0_init_13 : decode cX0_init 13 = .ok (.bipush 14, 2) := by decide +kernel
theorem dX0_init_15 : decode cX0_init 15 = .ok (.newarray .int, 2) := by decide +kernel
theorem dX0_init_17 : decode cX0_init 17 = .ok (.putfield 15, 3) := by decide +kernel
theorem dX0_init_20 : decode cX0_init 20 = .ok (.aload_n 0, 1) := by decide +kernel
theorem dX0_init_21 : decode cX0_init 21 = .ok (.bipush 14, 2) := by decide +kernel
theorem dX0_init_23 : decode cX0_init 23 = .ok (.newarray .int, 2) := by decide +kernel
theorem dX0_init_25 : decode cX0_init 25 = .ok (.putfield 18, 3) := by decide +kernel
theorem dX0_init_28 : decode cX0_init 28 = .ok (.aload_n 0, 1) := by decide +kernel
theorem dX0_init_29 : decode cX0_init 29 = .ok (.bipush 14, 2) := by decide +kernel
theorem dX0_init_31 : decode cX0_init 31 = .ok (.newarray .boolean, 2) := by decide +kernel
theorem dX0_init_33 : decode cX0_init 33 = .ok (.putfield 21, 3) := by decide +kernel
theorem dX0_init_36 : decode cX0_init 36 = .ok (.aload_n 0, 1) := by decide +kernel
theorem dX0_init_37 : decode cX0_init 37 = .ok (.bipush 15, 2) := by decide +kernel
theorem dX0_init_39 : decode cX0_init 39 = .ok (.newarray .int, 2) := by decide +kernel
theorem dX0_init_41 : decode cX0_init 41 = .ok (.putfield 25, 3) := by decide +kernel
theorem dX0_init_44 : decode cX0_init 44 = .ok (.aload_n 0, 1) := by decide +kernel
theorem dX0_init_45 : decode cX0_init 45 = .ok (.iconst 0, 1) := by decide +kernel
theorem dX0_init_46 : decode cX0_init 46 = .ok (.putfield 28, 3) := by decide +kernel
theorem dX0_init_49 : decode cX0_init 49 = .ok (.aload_n 0, 1) := by decide +kernel
theorem dX0_init_50 : decode cX0_init 50 = .ok (.iconst 0, 1) := by decide +kernel
theorem dX0_init_51 : decode cX0_init 51 = .ok (.putfield 32, 3) := by decide +kernel
theorem dX0_init_54 : decode cX0_init 54 = .ok (.aload_n 0, 1) := by decide +kernel
theorem dX0_init_55 : decode cX0_init 55 = .ok (.iconst 0, 1) := by decide +kernel
theorem dX0_init_56 : decode cX0_init 56 = .ok (.putfield 35, 3) := by decide +kernel
theorem dX0_init_59 : decode cX0_init 59 = .ok (.aload_n 0, 1) := by decide +kernel
theorem dX0_init_60 : decode cX0_init 60 = .ok (.iconst 0, 1) := by decide +kernel
theorem dX0_init_61 : decode cX0_init 61 = .ok (.putfield 38, 3) := by decide +kernel
theorem dX0_init_64 : decode cX0_init 64 = .ok (.aload_n 0, 1) := by decide +kernel
theorem dX0_init_65 : decode cX0_init 65 = .ok (.iconst 0, 1) := by decide +kernel
theorem dX0_init_66 : decode cX0_init 66 = .ok (.putfield 41, 3) := by decide +kernel
theorem dX0_init_69 : decode cX0_init 69 = .ok (.aload_n 0, 1) := by decide +kernel
theorem dX0_init_70 : decode cX0_init 70 = .ok (.iconst 0, 1) := by decide +kernel
theorem dX0_init_71 : decode cX0_init 71 = .ok (.putfield 44, 3) := by decide +kernel
theorem dX0_init_74 : decode cX0_init 74 = .ok (.return_, 1) := by decide +kernel
/-- LivesAhead$Chooser.<init>()V -/
def f_X0_init (σ : TH) (p0 : Nat) : Option (Unit × TH) :=
  gt_ (¬ (14 : Int32) < 0 ∧ (14 : Int32).toNatClampNeg ≤ 100000 ∧ kd_ σ (nx_ σ) = 0) <| lt_ (nx_ σ) fun a1 => lt_ (nw_ σ 20 ((14 : Int32).toNatClampNeg) ((14 : Int32).toNatClampNeg)) fun s2 => gt_ (kd_ s2 p0 = 2) <| lt_ (sr_ s2 100 p0 ((some a1))) fun s3 => gt_ (¬ (14 : Int32) < 0 ∧ (14 : Int32).toNatClampNeg ≤ 100000 ∧ kd_ s3 (nx_ s3) = 0) <| lt_ (nx_ s3) fun a4 => lt_ (nw_ s3 20 ((14 : Int32).toNatClampNeg) ((14 : Int32).toNatClampNeg)) fun s5 => lt_ (sr_ s5 101 p0 ((some a4))) fun s6 => gt_ (¬ (14 : Int32) < 0 ∧ (14 : Int32).toNatClampNeg ≤ 100000 ∧ kd_ s6 (nx_ s6) = 0) <| lt_ (nx_ s6) fun a7 => lt_ (nw_ s6 20 ((14 : Int32).toNatClampNeg) ((14 : Int32).toNatClampNeg)) fun s8 => lt_ (sr_ s8 102 p0 ((some a7))) fun s9 => gt_ (¬ (14 : Int32) < 0 ∧ (14 : Int32).toNatClampNeg ≤ 100000 ∧ kd_ s9 (nx_ s9) = 0) <| lt_ (nx_ s9) fun a10 => lt_ (nw_ s9 22 ((14 : Int32).toNatClampNeg) ((14 : Int32).toNatClampNeg)) fun s11 => lt_ (sr_ s11 103 p0 ((some a10))) fun s12 => gt_ (¬ (15 : Int32) < 0 ∧ (15 : Int32).toNatClampNeg ≤ 100000 ∧ kd_ s12 (nx_ s12) = 0) <| lt_ (nx_ s12) fun a13 => lt_ (nw_ s12 20 ((15 : Int32).toNatClampNeg) ((15 : Int32).toNatClampNeg)) fun s14 => lt_ (sr_ s14 104 p0 ((some a13))) fun s15 => lt_ (si_ s15 105 p0 (0 : Int32)) fun s16 => lt_ (si_ s16 106 p0 (0 : Int32)) fun s17 => lt_ (si_ s17 107 p0 (0 : Int32)) fun s18 => lt_ (si_ s18 108 p0 (0 : Int32)) fun s19 => lt_ (si_ s19 109 p0 (0 : Int32)) fun s20 => lt_ (si_ s20 110 p0 (0 : Int32)) fun s21 => some ((), s21)
set_option maxHeartbeats 4000000 in
set_option maxRecDepth 100000 in
theorem c_X0_init {l : Launch} {D : va_G} {cy : Nat → ClassId} {ka : Nat → Nat} {σ z : TH} {p0 : Nat} {r : Unit} (hf : f_X0_init σ p0 = some (r, z)) : ct_ l D cy ka yX0_init 1 20 [va_rf (some p0)] σ none z := by
  unfold f_X0_init at hf
  refine v_start (cc := cX0_init) (own := RX0) (maxL := 1) (ret := none) (nm := "<init>") (by decide +kernel) kw_196 rfl rfl (by simp [lg_sl, va_rf_cat, cat_i, cat_l]) ?_
  refine v_eqL (L2 := [(0, va_rf (some p0))]) (by simp [lv_args, va_rf_cat, cat_i, cat_l]) ?_
  refine v_aload_n (x := (some p0)) dX0_init_0 rfl 0 rfl ?_
  refine v_objInit kw_197 kw_40 kw_41 (by decide) (by decide) (cat_len (Nat.le_of_ble_eq_true rfl)) dX0_init_1 ?_
  refine v_aload_n (x := (some p0)) dX0_init_4 rfl 0 rfl ?_
  refine v_bipush (v := 14) dX0_init_5 (by decide) ?_
  refine v_newaI2 kw_135 hf dX0_init_7 (fun a1 s2 hts2 hk_a1 hf => ?_)
  obtain ⟨hk_p0, hf⟩ := gt_of hf
  refine v_putr2 cb_1 hk_p0 0 100 rfl (by decide) rfl (lk_n kw_198 rfl) (Or.inr ⟨rfl, rfl, rfl, rfl, kw_198⟩) (nr_ _ (Or.inr ⟨_, rfl⟩)) (fr9_ _ (Or.inr ⟨_, rfl⟩)) hf dX0_init_9 (fun s3 hts3 hf => ?_)
  have hk_p0 := tk_ hts3 hk_p0
  refine v_aload_n (x := (some p0)) dX0_init_12 rfl 0 rfl ?_
  refine v_bipush (v := 14) dX0_init_13 (by decide) ?_
  refine v_newaI2 kw_135 hf dX0_init_15 (fun a4 s5 hts5 hk_a4 hf => ?_)
  have hk_p0 := tk_ hts5 hk_p0
  refine v_putr2 cb_1 hk_p0 1 101 rfl (by decide) rfl (lk_n kw_199 rfl) (Or.inr ⟨rfl, rfl, rfl, rfl, kw_199⟩) (nr_ _ (Or.inr ⟨_, rfl⟩)) (fr9_ _ (Or.inr ⟨_, rfl⟩)) hf dX0_init_17 (fun s6 hts6 hf => ?_)
  have hk_p0 := tk_ hts6 hk_p0
  refine v_aload_n (x := (some p0)) dX0_init_20 rfl 0 rfl ?_
  refine v_bipush (v := 14) dX0_init_21 (by decide) ?_
  refine v_newaI2 kw_135 hf dX0_init_23 (fun a7 s8 hts8 hk_a7 hf => ?_)
  have hk_p0 := tk_ hts8 hk_p0
  refine v_putr2 cb_1 hk_p0 2 102 rfl (by decide) rfl (lk_n kw_200 rfl) (Or.inr ⟨rfl, rfl, rfl, rfl, kw_200⟩) (nr_ _ (Or.inr ⟨_, rfl⟩)) (fr9_ _ (Or.inr ⟨_, rfl⟩)) hf dX0_init_25 (fun s9 hts9 hf => ?_)
  have hk_p0 := tk_ hts9 hk_p0
  refine v_aload_n (x := (some p0)) dX0_init_28 rfl 0 rfl ?_
  refine v_bipush (v := 14) dX0_init_29 (by decide) ?_
  refine v_newaZ2 kw_235 hf dX0_init_31 (fun a10 s11 hts11 hk_a10 hf => ?_)
  have hk_p0 := tk_ hts11 hk_p0
  refine v_putr2 cb_1 hk_p0 3 103 rfl (by decide) rfl (lk_n kw_201 rfl) (Or.inr ⟨rfl, rfl, rfl, rfl, kw_201⟩) (nr_ _ (Or.inr ⟨_, rfl⟩)) (fr9_ _ (Or.inr ⟨_, rfl⟩)) hf dX0_init_33 (fun s12 hts12 hf => ?_)
  have hk_p0 := tk_ hts12 hk_p0
  refine v_aload_n (x := (some p0)) dX0_init_36 rfl 0 rfl ?_
  refine v_bipush (v := 15) dX0_init_37 (by decide) ?_
  refine v_newaI2 kw_135 hf dX0_init_39 (fun a13 s14 hts14 hk_a13 hf => ?_)
  have hk_p0 := tk_ hts14 hk_p0
  refine v_putr2 cb_1 hk_p0 4 104 rfl (by decide) rfl (lk_n kw_202 rfl) (Or.inr ⟨rfl, rfl, rfl, rfl, kw_202⟩) (nr_ _ (Or.inr ⟨_, rfl⟩)) (fr9_ _ (Or.inr ⟨_, rfl⟩)) hf dX0_init_41 (fun s15 hts15 hf => ?_)
  have hk_p0 := tk_ hts15 hk_p0
  refine v_aload_n (x := (some p0)) dX0_init_44 rfl 0 rfl ?_
  refine v_iconst (v := 0) dX0_init_45 (by decide) ?_
  refine v_puti2 cb_1 hk_p0 5 105 rfl (by decide) rfl (lk_n kw_203 rfl) (Or.inl rfl) rfl rfl hf dX0_init_46 (fun s16 hts16 hf => ?_)
  have hk_p0 := tk_ hts16 hk_p0
  refine v_aload_n (x := (some p0)) dX0_init_49 rfl 0 rfl ?_
  refine v_iconst (v := 0) dX0_init_50 (by decide) ?_
  refine v_puti2 cb_1 hk_p0 6 106 rfl (by decide) rfl (lk_n kw_204 rfl) (Or.inl rfl) rfl rfl hf dX0_init_51 (fun s17 hts17 hf => ?_)
  have hk_p0 := tk_ hts17 hk_p0
  refine v_aload_n (x := (some p0)) dX0_init_54 rfl 0 rfl ?_
  refine v_iconst (v := 0) dX0_init_55 (by decide) ?_
  refine v_puti2 cb_1 hk_p0 7 107 rfl (by decide) rfl (lk_n kw_205 rfl) (Or.inl rfl) rfl rfl hf dX0_init_56 (fun s18 hts18 hf => ?_)
  have hk_p0 := tk_ hts18 hk_p0
  refine v_aload_n (x := (some p0)) dX0_init_59 rfl 0 rfl ?_
  refine v_iconst (v := 0) dX0_init_60 (by decide) ?_
  refine v_puti2 cb_1 hk_p0 8 108 rfl (by decide) rfl (lk_n kw_206 rfl) (Or.inl rfl) rfl rfl hf dX0_init_61 (fun s19 hts19 hf => ?_)
  have hk_p0 := tk_ hts19 hk_p0
  refine v_aload_n (x := (some p0)) dX0_init_64 rfl 0 rfl ?_
  refine v_iconst (v := 0) dX0_init_65 (by decide) ?_
  refine v_puti2 cb_1 hk_p0 9 109 rfl (by decide) rfl (lk_n kw_208 rfl) (Or.inl rfl) rfl rfl hf dX0_init_66 (fun s20 hts20 hf => ?_)
  have hk_p0 := tk_ hts20 hk_p0
  refine v_aload_n (x := (some p0)) dX0_init_69 rfl 0 rfl ?_
  refine v_iconst (v := 0) dX0_init_70 (by decide) ?_
  refine v_puti2 cb_1 hk_p0 10 110 rfl (by decide) rfl (lk_n kw_210 rfl) (Or.inl rfl) rfl rfl hf dX0_init_71 (fun s21 hts21 hf => ?_)
  have hk_p0 := tk_ hts21 hk_p0
  exact v_vret hf dX0_init_74
theorem dX4_init_0 : decode cX4_init 0 = .ok (.aload_n 0, 1) := by decide +kernel
theorem dX4_init_1 : decode cX4_init 1 = .ok (.invokespecial 3, 3) := by decide +kernel
theorem dX4_init_4 : decode cX4_init 4 = .ok (.aload_n 0, 1) := by decide +kernel
theorem dX4_init_5 : decode cX4_init 5 = .ok (.bipush 21, 2) := by decide +kernel
theorem dX4_init_7 : decode cX4_init 7 = .ok (.newarray .int, 2) := by decide +kernel
theorem dX4_init_9 : decode cX4_init 9 = .ok (.putfield 9, 3) := by decide +kernel
theorem dX4_init_12 : decode cX4_init 12 = .ok (.aload_n 0, 1) := by decide +kernel
theorem dX4_init_13 : decode cX4_init 13 = .ok (.sipush 1024, 3) := by decide +kernel
theorem dX4_init_16 : decode cX4_init 16 = .ok (.newarray .byte, 2) := by decide +kernel
theorem dX4_init_18 : decode cX4_init 18 = .ok (.putfield 15, 3) := by decide +kernel
theorem dX4_init_21 : decode cX4_init 21 = .ok (.aload_n 0, 1) := by decide +kernel
theorem dX4_init_22 : decode cX4_init 22 = .ok (.iconst 0, 1) := by decide +kernel
theorem dX4_init_23 : decode cX4_init 23 = .ok (.putfield 19, 3) := by decide +kernel
theorem dX4_init_26 : decode cX4_init 26 = .ok (.aload_n 0, 1) := by decide +kernel
theorem dX4_init_27 : decode cX4_init 27 = .ok (.iconst 0, 1) := by decide +kernel
theorem dX4_init_28 : decode cX4_init 28 = .ok (.putfield 23, 3) := by decide +kernel
theorem dX4_init_31 : decode cX4_init 31 = .ok (.aload_n 0, 1) := by decide +kernel
theorem dX4_init_32 : decode cX4_init 32 = .ok (.iconst 0, 1) := by decide +kernel
theorem dX4_init_33 : decode cX4_init 33 = .ok (.putfield 26, 3) := by decide +kernel
theorem dX4_init_36 : decode cX4_init 36 = .ok (.aload_n 0, 1) := by decide +kernel
theorem dX4_init_37 : decode cX4_init 37 = .ok (.iconst 0, 1) := by decide +kernel
theorem dX4_init_38 : decode cX4_init 38 = .ok (.putfield 30, 3) := by decide +kernel
theorem dX4_init_41 : decode cX4_init 41 = .ok (.aload_n 0, 1) := by decide +kernel
theorem dX4_init_42 : decode cX4_init 42 = .ok (.iconst 0, 1) := by decide +kernel
theorem dX4_init_43 : decode cX4_init 43 = .ok (.putfield 33, 3) := by decide +kernel
theorem dX4_init_46 : decode cX4_init 46 = .ok (.aload_n 0, 1) := by decide +kernel
theorem dX4_init_47 : decode cX4_init 47 = .ok (.iconst 0, 1) := by decide +kernel
theorem dX4_init_48 : decode cX4_init 48 = .ok (.putfield 36, 3) := by decide +kernel
theorem dX4_init_51 : decode cX4_init 51 = .ok (.aload_n 0, 1) := by decide +kernel
theorem dX4_init_52 : decode cX4_init 52 = .ok (.iconst 0, 1) := by decide +kernel
theorem dX4_init_53 : decode cX4_init 53 = .ok (.putfield 39, 3) := by decide +kernel
theorem dX4_init_56 : decode cX4_init 56 = .ok (.aload_n 0, 1) := by decide +kernel
theorem dX4_init_57 : decode cX4_init 57 = .ok (.iconst 0, 1) := by decide +kernel
theorem dX4_init_58 : decode cX4_init 58 = .ok (.putfield 42, 3) := by decide +kernel
theorem dX4_init_61 : decode cX4_init 61 = .ok (.aload_n 0, 1) := by decide +kernel
theorem dX4_init_62 : decode cX4_init 62 = .ok (.iconst 0, 1) := by decide +kernel
theorem dX4_init_63 : decode cX4_init 63 = .ok (.putfield 45, 3) := by decide +kernel
theorem dX4_init_66 : decode cX4_init 66 = .ok (.aload_n 0, 1) := by decide +kernel
theorem dX4_init_67 : decode cX4_init 67 = .ok (.iconst 0, 1) := by decide +kernel
theorem dX4_init_68 : decode cX4_init 68 = .ok (.putfield 48, 3) := by decide +kernel
theorem dX4_init_71 : decode cX4_init 71 = .ok (.aload_n 0, 1) := by decide +kernel
theorem dX4_init_72 : decode cX4_init 72 = .ok (.iconst 0, 1) := by decide +kernel
theorem dX4_init_73 : decode cX4_init 73 = .ok (.putfield 51, 3) := by decide +kernel
theorem dX4_init_76 : decode cX4_init 76 = .ok (.aload_n 0, 1) := by decide +kernel
theorem dX4_init_77 : decode cX4_init 77 = .ok (.iconst 0, 1) := by decide +kernel
theorem dX4_init_78 : decode cX4_init 78 = .ok (.putfield 54, 3) := by decide +kernel
theorem dX4_init_81 : decode cX4_init 81 = .ok (.return_, 1) := by decide +kernel
/-- LivesAhead$Printer.<init>()V -/
def f_X4_init (σ : TH) (p0 : Nat) : Option (Unit × TH) :=
  gt_ (¬ (21 : Int32) < 0 ∧ (21 : Int32).toNatClampNeg ≤ 100000 ∧ kd_ σ (nx_ σ) = 0) <| lt_ (nx_ σ) fun a1 => lt_ (nw_ σ 20 ((21 : Int32).toNatClampNeg) ((21 : Int32).toNatClampNeg)) fun s2 => gt_ (kd_ s2 p0 = 6) <| lt_ (sr_ s2 500 p0 ((some a1))) fun s3 => gt_ (¬ (1024 : Int32) < 0 ∧ (1024 : Int32).toNatClampNeg ≤ 100000 ∧ kd_ s3 (nx_ s3) = 0) <| lt_ (nx_ s3) fun a4 => lt_ (nw_ s3 21 ((1024 : Int32).toNatClampNeg) ((1024 : Int32).toNatClampNeg)) fun s5 => lt_ (sr_ s5 501 p0 ((some a4))) fun s6 => lt_ (si_ s6 502 p0 (0 : Int32)) fun s7 => lt_ (si_ s7 503 p0 (0 : Int32)) fun s8 => lt_ (si_ s8 504 p0 (0 : Int32)) fun s9 => lt_ (si_ s9 505 p0 (0 : Int32)) fun s10 => lt_ (si_ s10 506 p0 (0 : Int32)) fun s11 => lt_ (si_ s11 507 p0 (0 : Int32)) fun s12 => lt_ (si_ s12 508 p0 (0 : Int32)) fun s13 => lt_ (si_ s13 509 p0 (0 : Int32)) fun s14 => lt_ (si_ s14 510 p0 (0 : Int32)) fun s15 => lt_ (si_ s15 511 p0 (0 : Int32)) fun s16 => lt_ (si_ s16 512 p0 (0 : Int32)) fun s17 => lt_ (si_ s17 513 p0 (0 : Int32)) fun s18 => some ((), s18)
set_option maxHeartbeats 4000000 in
set_option maxRecDepth 100000 in
theorem c_X4_init {l : Launch} {D : va_G} {cy : Nat → ClassId} {ka : Nat → Nat} {σ z : TH} {p0 : Nat} {r : Unit} (hf : f_X4_init σ p0 = some (r, z)) : ct_ l D cy ka yX4_init 1 20 [va_rf (some p0)] σ none z := by
  unfold f_X4_init at hf
  refine v_start (cc := cX4_init) (own := RX4) (maxL := 1) (ret := none) (nm := "<init>") (by decide +kernel) kw_141 rfl rfl (by simp [lg_sl, va_rf_cat, cat_i, cat_l]) ?_
  refine v_eqL (L2 := [(0, va_rf (some p0))]) (by simp [lv_args, va_rf_cat, cat_i, cat_l]) ?_
  refine v_aload_n (x := (some p0)) dX4_init_0 rfl 0 rfl ?_
  refine v_objInit kw_142 kw_40 kw_41 (by decide) (by decide) (cat_len (Nat.le_of_ble_eq_true rfl)) dX4_init_1 ?_
  refine v_aload_n (x := (some p0)) dX4_init_4 rfl 0 rfl ?_
  refine v_bipush (v := 21) dX4_init_5 (by decide) ?_
  refine v_newaI2 kw_135 hf dX4_init_7 (fun a1 s2 hts2 hk_a1 hf => ?_)
  obtain ⟨hk_p0, hf⟩ := gt_of hf
  refine v_putr2 cb_5 hk_p0 0 500 rfl (by decide) rfl (lk_n kw_143 rfl) (Or.inr ⟨rfl, rfl, rfl, rfl, kw_143⟩) (nr_ _ (Or.inr ⟨_, rfl⟩)) (fr9_ _ (Or.inr ⟨_, rfl⟩)) hf dX4_init_9 (fun s3 hts3 hf => ?_)
  have hk_p0 := tk_ hts3 hk_p0
  refine v_aload_n (x := (some p0)) dX4_init_12 rfl 0 rfl ?_
  refine v_sipush (v := 1024) dX4_init_13 (by decide) ?_
  refine v_newaB2 kw_136 hf dX4_init_16 (fun a4 s5 hts5 hk_a4 hf => ?_)
  have hk_p0 := tk_ hts5 hk_p0
  refine v_putr2 cb_5 hk_p0 1 501 rfl (by decide) rfl (lk_n kw_145 rfl) (Or.inr ⟨rfl, rfl, rfl, rfl, kw_145⟩) (nr_ _ (Or.inr ⟨_, rfl⟩)) (fr9_ _ (Or.inr ⟨_, rfl⟩)) hf dX4_init_18 (fun s6 hts6 hf => ?_)
  have hk_p0 := tk_ hts6 hk_p0
  refine v_aload_n (x := (some p0)) dX4_init_21 rfl 0 rfl ?_
  refine v_iconst (v := 0) dX4_init_22 (by decide) ?_
  refine v_puti2 cb_5 hk_p0 2 502 rfl (by decide) rfl (lk_n kw_147 rfl) (Or.inl rfl) rfl rfl hf dX4_init_23 (fun s7 hts7 hf => ?_)
  have hk_p0 := tk_ hts7 hk_p0
  refine v_aload_n (x := (some p0)) dX4_init_26 rfl 0 rfl ?_
  refine v_iconst (v := 0) dX4_init_27 (by decide) ?_
  refine v_puti2 cb_5 hk_p0 3 503 rfl (by decide) rfl (lk_n kw_149 rfl) (Or.inl rfl) rfl rfl hf dX4_init_28 (fun s8 hts8 hf => ?_)
  have hk_p0 := tk_ hts8 hk_p0
  refine v_aload_n (x := (some p0)) dX4_init_31 rfl 0 rfl ?_
  refine v_iconst (v := 0) dX4_init_32 (by decide) ?_
  refine v_puti2 cb_5 hk_p0 4 504 rfl (by decide) rfl (lk_n kw_151 rfl) (Or.inl rfl) rfl rfl hf dX4_init_33 (fun s9 hts9 hf => ?_)
  have hk_p0 := tk_ hts9 hk_p0
  refine v_aload_n (x := (some p0)) dX4_init_36 rfl 0 rfl ?_
  refine v_iconst (v := 0) dX4_init_37 (by decide) ?_
  refine v_puti2 cb_5 hk_p0 5 505 rfl (by decide) rfl (lk_n kw_153 rfl) (Or.inl rfl) rfl rfl hf dX4_init_38 (fun s10 hts10 hf => ?_)
  have hk_p0 := tk_ hts10 hk_p0
  refine v_aload_n (x := (some p0)) dX4_init_41 rfl 0 rfl ?_
  refine v_iconst (v := 0) dX4_init_42 (by decide) ?_
  refine v_puti2 cb_5 hk_p0 6 506 rfl (by decide) rfl (lk_n kw_155 rfl) (Or.inl rfl) rfl rfl hf dX4_init_43 (fun s11 hts11 hf => ?_)
  have hk_p0 := tk_ hts11 hk_p0
  refine v_aload_n (x := (some p0)) dX4_init_46 rfl 0 rfl ?_
  refine v_iconst (v := 0) dX4_init_47 (by decide) ?_
  refine v_puti2 cb_5 hk_p0 7 507 rfl (by decide) rfl (lk_n kw_156 rfl) (Or.inl rfl) rfl rfl hf dX4_init_48 (fun s12 hts12 hf => ?_)
  have hk_p0 := tk_ hts12 hk_p0
  refine v_aload_n (x := (some p0)) dX4_init_51 rfl 0 rfl ?_
  refine v_iconst (v := 0) dX4_init_52 (by decide) ?_
  refine v_puti2 cb_5 hk_p0 8 508 rfl (by decide) rfl (lk_n kw_157 rfl) (Or.inl rfl) rfl rfl hf dX4_init_53 (fun s13 hts13 hf => ?_)
  have hk_p0 := tk_ hts13 hk_p0
  refine v_aload_n (x := (some p0)) dX4_init_56 rfl 0 rfl ?_
  refine v_iconst (v := 0) dX4_init_57 (by decide) ?_
  refine v_puti2 cb_5 hk_p0 9 509 rfl (by decide) rfl (lk_n kw_158 rfl) (Or.inl rfl) rfl rfl hf dX4_init_58 (fun s14 hts14 hf => ?_)
  have hk_p0 := tk_ hts14 hk_p0
  refine v_aload_n (x := (some p0)) dX4_init_61 rfl 0 rfl ?_
  refine v_iconst (v := 0) dX4_init_62 (by decide) ?_
  refine v_puti2 cb_5 hk_p0 10 510 rfl (by decide) rfl (lk_n kw_159 rfl) (Or.inl rfl) rfl rfl hf dX4_init_63 (fun s15 hts15 hf => ?_)
  have hk_p0 := tk_ hts15 hk_p0
  refine v_aload_n (x := (some p0)) dX4_init_66 rfl 0 rfl ?_
  refine v_iconst (v := 0) dX4_init_67 (by decide) ?_
  refine v_puti2 cb_5 hk_p0 11 511 rfl (by decide) rfl (lk_n kw_160 rfl) (Or.inl rfl) rfl rfl hf dX4_init_68 (fun s16 hts16 hf => ?_)
  have hk_p0 := tk_ hts16 hk_p0
  refine v_aload_n (x := (some p0)) dX4_init_71 rfl 0 rfl ?_
  refine v_iconst (v := 0) dX4_init_72 (by decide) ?_
  refine v_puti2 cb_5 hk_p0 12 512 rfl (by decide) rfl (lk_n kw_161 rfl) (Or.inl rfl) rfl rfl hf dX4_init_73 (fun s17 hts17 hf => ?_)
  have hk_p0 := tk_ hts17 hk_p0
  refine v_aload_n (x := (some p0)) dX4_init_76 rfl 0 rfl ?_
  refine v_iconst (v := 0) dX4_init_77 (by decide) ?_
  refine v_puti2 cb_5 hk_p0 13 513 rfl (by decide) rfl (lk_n kw_162 rfl) (Or.inl rfl) rfl rfl hf dX4_init_78 (fun s18 hts18 hf => ?_)
  have hk_p0 := tk_ hts18 hk_p0
  exact v_vret hf dX4_init_81
theorem dX6_init_0 : decode cX6_init 0 = .ok (.aload_n 0, 1) := by decide +kernel
theorem dX6_init_1 : decode cX6_init 1 = .ok (.invokespecial 3, 3) := by decide +kernel
theorem dX6_init_4 : decode cX6_init 4 = .ok (.aload_n 0, 1) := by decide +kernel
theorem dX6_init_5 : decode cX6_init 5 = .ok (.sipush 400, 3) := by decide +kernel
theorem dX6_init_8 : decode cX6_init 8 = .ok (.newarray .byte, 2) := by decide +kernel
theorem dX6_init_10 : decode cX6_init 10 = .ok (.putfield 11, 3) := by decide +kernel
theorem dX6_init_13 : decode cX6_init 13 = .ok (.aload_n 0, 1) := by decide +kernel
theorem dX6_init_14 : decode cX6_init 14 = .ok (.iconst 0, 1) := by decide +kernel
theorem dX6_init_15 : decode cX6_init 15 = .ok (.putfield 15, 3) := by decide +kernel
theorem dX6_init_18 : decode cX6_init 18 = .ok (.aload_n 0, 1) := by decide +kernel
theorem dX6_init_19 : decode cX6_init 19 = .ok (.iconst 0, 1) := by decide +kernel
theorem dX6_init_20 : decode cX6_init 20 = .ok (.putfield 19, 3) := by decide +kernel
theorem dX6_init_23 : decode cX6_init 23 = .ok (.aload_n 0, 1) := by decide +kernel
theorem dX6_init_24 : decode cX6_init 24 = .ok (.iconst 0, 1) := by decide +kernel
theorem dX6_init_25 : decode cX6_init 25 = .ok (.putfield 22, 3) := by decide +kernel
theorem dX6_init_28 : decode cX6_init 28 = .ok (.aload_n 0, 1) := by decide +kernel
theorem dX6_init_29 : decode cX6_init 29 = .ok (.sipush 1024, 3) := by decide +kernel
theorem dX6_init_32 : decode cX6_init 32 = .ok (.newarray .int, 2) := by decide +kernel
theorem dX6_init_34 : decode cX6_init 34 = .ok (.putfield 25, 3) := by decide +kernel
theorem dX6_init_37 : decode cX6_init 37 = .ok (.aload_n 0, 1) := by decide +kernel
theorem dX6_init_38 : decode cX6_init 38 = .ok (.iconst 5, 1) := by decide +kernel
theorem dX6_init_39 : decode cX6_init 39 = .ok (.newarray .int, 2) := by decide +kernel
theorem dX6_init_41 : decode cX6_init 41 = .ok (.putfield 29, 3) := by decide +kernel
theorem dX6_init_44 : decode cX6_init 44 = .ok (.aload_n 0, 1) := by decide +kernel
theorem dX6_init_45 : decode cX6_init 45 = .ok (.iconst 0, 1) := by decide +kernel
theorem dX6_init_46 : decode cX6_init 46 = .ok (.putfield 32, 3) := by decide +kernel
theorem dX6_init_49 : decode cX6_init 49 = .ok (.aload_n 0, 1) := by decide +kernel
theorem dX6_init_50 : decode cX6_init 50 = .ok (.iconst 0, 1) := by decide +kernel
theorem dX6_init_51 : decode cX6_init 51 = .ok (.putfield 35, 3) := by decide +kernel
theorem dX6_init_54 : decode cX6_init 54 = .ok (.aload_n 0, 1) := by decide +kernel
theorem dX6_init_55 : decode cX6_init 55 = .ok (.iconst 0, 1) := by decide +kernel
theorem dX6_init_56 : decode cX6_init 56 = .ok (.putfield 39, 3) := by decide +kernel
theorem dX6_init_59 : decode cX6_init 59 = .ok (.aload_n 0, 1) := by decide +kernel
theorem dX6_init_60 : decode cX6_init 60 = .ok (.iconst 0, 1) := by decide +kernel
theorem dX6_init_61 : decode cX6_init 61 = .ok (.putfield 42, 3) := by decide +kernel
theorem dX6_init_64 : decode cX6_init 64 = .ok (.aload_n 0, 1) := by decide +kernel
theorem dX6_init_65 : decode cX6_init 65 = .ok (.iconst 0, 1) := by decide +kernel
theorem dX6_init_66 : decode cX6_init 66 = .ok (.putfield 45, 3) := by decide +kernel
theorem dX6_init_69 : decode cX6_init 69 = .ok (.aload_n 0, 1) := by decide +kernel
theorem dX6_init_70 : decode cX6_init 70 = .ok (.iconst 0, 1) := by decide +kernel
theorem dX6_init_71 : decode cX6_init 71 = .ok (.putfield 48, 3) := by decide +kernel
theorem dX6_init_74 : decode cX6_init 74 = .ok (.aload_n 0, 1) := by decide +kernel
theorem dX6_init_75 : decode cX6_init 75 = .ok (.iconst 0, 1) := by decide +kernel
theorem dX6_init_76 : decode cX6_init 76 = .ok (.putfield 51, 3) := by decide +kernel
theorem dX6_init_79 : decode cX6_init 79 = .ok (.aload_n 0, 1) := by decide +kernel
theorem dX6_init_80 : decode cX6_init 80 = .ok (.iconst 0, 1) := by decide +kernel
theorem dX6_init_81 : decode cX6_init 81 = .ok (.putfield 54, 3) := by decide +kernel
theorem dX6_init_84 : decode cX6_init 84 = .ok (.aload_n 0, 1) := by decide +kernel
theorem dX6_init_85 : decode cX6_init 85 = .ok (.iconst 0, 1) := by decide +kernel
theorem dX6_init_86 : decode cX6_init 86 = .ok (.putfield 57, 3) := by decide +kernel
theorem dX6_init_89 : decode cX6_init 89 = .ok (.aload_n 0, 1) := by decide +kernel
theorem dX6_init_90 : decode cX6_init 90 = .ok (.iconst 0, 1) := by decide +kernel
theorem dX6_init_91 : decode cX6_init 91 = .ok (.putfield 60, 3) := by decide +kernel
theorem dX6_init_94 : decode cX6_init 94 = .ok (.aload_n 0, 1) := by decide +kernel
theorem dX6_init_95 : decode cX6_init 95 = .ok (.iconst 0, 1) := by decide +kernel
theorem dX6_init_96 : decode cX6_init 96 = .ok (.putfield 63, 3) := by decide +kernel
theorem dX6_init_99 : decode cX6_init 99 = .ok (.aload_n 0, 1) := by decide +kernel
theorem dX6_init_100 : decode cX6_init 100 = .ok (.iconst 0, 1) := by decide +kernel
theorem dX6_init_101 : decode cX6_init 101 = .ok (.putfield 66, 3) := by decide +kernel
theorem dX6_init_104 : decode cX6_init 104 = .ok (.aload_n 0, 1) := by decide +kernel
theorem dX6_init_105 : decode cX6_init 105 = .ok (.iconst 0, 1) := by decide +kernel
theorem dX6_init_106 : decode cX6_init 106 = .ok (.putfield 69, 3) := by decide +kernel
theorem dX6_init_109 : decode cX6_init 109 = .ok (.return_, 1) := by decide +kernel
/-- LivesAhead$Reader.<init>()V -/
def f_X6_init (σ : TH) (p0 : Nat) : Option (Unit × TH) :=
  gt_ (¬ (400 : Int32) < 0 ∧ (400 : Int32).toNatClampNeg ≤ 100000 ∧ kd_ σ (nx_ σ) = 0) <| lt_ (nx_ σ) fun a1 => lt_ (nw_ σ 21 ((400 : Int32).toNatClampNeg) ((400 : Int32).toNatClampNeg)) fun s2 => gt_ (kd_ s2 p0 = 8) <| lt_ (sr_ s2 700 p0 ((some a1))) fun s3 => lt_ (si_ s3 701 p0 (0 : Int32)) fun s4 => lt_ (si_ s4 702 p0 (0 : Int32)) fun s5 => lt_ (si_ s5 703 p0 (0 : Int32)) fun s6 => gt_ (¬ (1024 : Int32) < 0 ∧ (1024 : Int32).toNatClampNeg ≤ 100000 ∧ kd_ s6 (nx_ s6) = 0) <| lt_ (nx_ s6) fun a7 => lt_ (nw_ s6 20 ((1024 : Int32).toNatClampNeg) ((1024 : Int32).toNatClampNeg)) fun s8 => lt_ (sr_ s8 704 p0 ((some a7))) fun s9 => gt_ (¬ (5 : Int32) < 0 ∧ (5 : Int32).toNatClampNeg ≤ 100000 ∧ kd_ s9 (nx_ s9) = 0) <| lt_ (nx_ s9) fun a10 => lt_ (nw_ s9 20 ((5 : Int32).toNatClampNeg) ((5 : Int32).toNatClampNeg)) fun s11 => lt_ (sr_ s11 705 p0 ((some a10))) fun s12 => lt_ (si_ s12 706 p0 (0 : Int32)) fun s13 => lt_ (si_ s13 707 p0 (0 : Int32)) fun s14 => lt_ (si_ s14 708 p0 (0 : Int32)) fun s15 => lt_ (si_ s15 709 p0 (0 : Int32)) fun s16 => lt_ (si_ s16 710 p0 (0 : Int32)) fun s17 => lt_ (si_ s17 711 p0 (0 : Int32)) fun s18 => lt_ (si_ s18 712 p0 (0 : Int32)) fun s19 => lt_ (si_ s19 713 p0 (0 : Int32)) fun s20 => lt_ (si_ s20 714 p0 (0 : Int32)) fun s21 => lt_ (si_ s21 715 p0 (0 : Int32)) fun s22 => lt_ (si_ s22 716 p0 (0 : Int32)) fun s23 => lt_ (si_ s23 717 p0 (0 : Int32)) fun s24 => lt_ (si_ s24 718 p0 (0 : Int32)) fun s25 => some ((), s25)
set_option maxHeartbeats 4000000 in
set_option maxRecDepth 100000 in
theorem c_X6_init {l : Launch} {D : va_G} {cy : Nat → ClassId} {ka : Nat → Nat} {σ z : TH} {p0 : Nat} {r : Unit} (hf : f_X6_init σ p0 = some (r, z)) : ct_ l D cy ka yX6_init 1 20 [va_rf (some p0)] σ none z := by
  unfold f_X6_init at hf
  refine v_start (cc := cX6_init) (own := RX6) (maxL := 1) (ret := none) (nm := "<init>") (by decide +kernel) kw_72 rfl rfl (by simp [lg_sl, va_rf_cat, cat_i, cat_l]) ?_
  refine v_eqL (L2 := [(0, va_rf (some p0))]) (by simp [lv_args, va_rf_cat, cat_i, cat_l]) ?_
  refine v_aload_n (x := (some p0)) dX6_init_0 rfl 0 rfl ?_
  refine v_objInit kw_73 kw_40 kw_41 (by decide) (by decide) (cat_len (Nat.le_of_ble_eq_true rfl)) dX6_init_1 ?_
  refine v_aload_n (x := (some p0)) dX6_init_4 rfl 0 rfl ?_
  refine v_sipush (v := 400) dX6_init_5 (by decide) ?_
  refine v_newaB2 kw_136 hf dX6_init_8 (fun a1 s2 hts2 hk_a1 hf => ?_)
  obtain ⟨hk_p0, hf⟩ := gt_of hf
  refine v_putr2 cb_7 hk_p0 0 700 rfl (by decide) rfl (lk_n kw_74 rfl) (Or.inr ⟨rfl, rfl, rfl, rfl, kw_74⟩) (nr_ _ (Or.inr ⟨_, rfl⟩)) (fr9_ _ (Or.inr ⟨_, rfl⟩)) hf dX6_init_10 (fun s3 hts3 hf => ?_)
  have hk_p0 := tk_ hts3 hk_p0
  refine v_aload_n (x := (some p0)) dX6_init_13 rfl 0 rfl ?_
  refine v_iconst (v := 0) dX6_init_14 (by decide) ?_
  refine v_puti2 cb_7 hk_p0 1 701 rfl (by decide) rfl (lk_n kw_75 rfl) (Or.inl rfl) rfl rfl hf dX6_init_15 (fun s4 hts4 hf => ?_)
  have hk_p0 := tk_ hts4 hk_p0
  refine v_aload_n (x := (some p0)) dX6_init_18 rfl 0 rfl ?_
  refine v_iconst (v := 0) dX6_init_19 (by decide) ?_
  refine v_puti2 cb_7 hk_p0 2 702 rfl (by decide) rfl (lk_n kw_77 rfl) (Or.inl rfl) rfl rfl hf dX6_init_20 (fun s5 hts5 hf => ?_)
  have hk_p0 := tk_ hts5 hk_p0
  refine v_aload_n (x := (some p0)) dX6_init_23 rfl 0 rfl ?_
  refine v_iconst (v := 0) dX6_init_24 (by decide) ?_
  refine v_puti2 cb_7 hk_p0 3 703 rfl (by decide) rfl (lk_n kw_79 rfl) (Or.inl rfl) rfl rfl hf dX6_init_25 (fun s6 hts6 hf => ?_)
  have hk_p0 := tk_ hts6 hk_p0
  refine v_aload_n (x := (some p0)) dX6_init_28 rfl 0 rfl ?_
  refine v_sipush (v := 1024) dX6_init_29 (by decide) ?_
  refine v_newaI2 kw_135 hf dX6_init_32 (fun a7 s8 hts8 hk_a7 hf => ?_)
  have hk_p0 := tk_ hts8 hk_p0
  refine v_putr2 cb_7 hk_p0 4 704 rfl (by decide) rfl (lk_n kw_81 rfl) (Or.inr ⟨rfl, rfl, rfl, rfl, kw_81⟩) (nr_ _ (Or.inr ⟨_, rfl⟩)) (fr9_ _ (Or.inr ⟨_, rfl⟩)) hf dX6_init_34 (fun s9 hts9 hf => ?_)
  have hk_p0 := tk_ hts9 hk_p0
  refine v_aload_n (x := (some p0)) dX6_init_37 rfl 0 rfl ?_
  refine v_iconst (v := 5) dX6_init_38 (by decide) ?_
  refine v_newaI2 kw_135 hf dX6_init_39 (fun a10 s11 hts11 hk_a10 hf => ?_)
  have hk_p0 := tk_ hts11 hk_p0
  refine v_putr2 cb_7 hk_p0 5 705 rfl (by decide) rfl (lk_n kw_82 rfl) (Or.inr ⟨rfl, rfl, rfl, rfl, kw_82⟩) (nr_ _ (Or.inr ⟨_, rfl⟩)) (fr9_ _ (Or.inr ⟨_, rfl⟩)) hf dX6_init_41 (fun s12 hts12 hf => ?_)
  have hk_p0 := tk_ hts12 hk_p0
  refine v_aload_n (x := (some p0)) dX6_init_44 rfl 0 rfl ?_
  refine v_iconst (v := 0) dX6_init_45 (by decide) ?_
  refine v_puti2 cb_7 hk_p0 6 706 rfl (by decide) rfl (lk_n kw_83 rfl) (Or.inl rfl) rfl rfl hf dX6_init_46 (fun s13 hts13 hf => ?_)
  have hk_p0 := tk_ hts13 hk_p0
  refine v_aload_n (x := (some p0)) dX6_init_49 rfl 0 rfl ?_
  refine v_iconst (v := 0) dX6_init_50 (by decide) ?_
  refine v_puti2 cb_7 hk_p0 7 707 rfl (by decide) rfl (lk_n kw_84 rfl) (Or.inl rfl) rfl rfl hf dX6_init_51 (fun s14 hts14 hf => ?_)
  have hk_p0 := tk_ hts14 hk_p0
  refine v_aload_n (x := (some p0)) dX6_init_54 rfl 0 rfl ?_
  refine v_iconst (v := 0) dX6_init_55 (by decide) ?_
  refine v_puti2 cb_7 hk_p0 8 708 rfl (by decide) rfl (lk_n kw_85 rfl) (Or.inl rfl) rfl rfl hf dX6_init_56 (fun s15 hts15 hf => ?_)
  have hk_p0 := tk_ hts15 hk_p0
  refine v_aload_n (x := (some p0)) dX6_init_59 rfl 0 rfl ?_
  refine v_iconst (v := 0) dX6_init_60 (by decide) ?_
  refine v_puti2 cb_7 hk_p0 9 709 rfl (by decide) rfl (lk_n kw_86 rfl) (Or.inl rfl) rfl rfl hf dX6_init_61 (fun s16 hts16 hf => ?_)
  have hk_p0 := tk_ hts16 hk_p0
  refine v_aload_n (x := (some p0)) dX6_init_64 rfl 0 rfl ?_
  refine v_iconst (v := 0) dX6_init_65 (by decide) ?_
  refine v_puti2 cb_7 hk_p0 10 710 rfl (by decide) rfl (lk_n kw_87 rfl) (Or.inl rfl) rfl rfl hf dX6_init_66 (fun s17 hts17 hf => ?_)
  have hk_p0 := tk_ hts17 hk_p0
  refine v_aload_n (x := (some p0)) dX6_init_69 rfl 0 rfl ?_
  refine v_iconst (v := 0) dX6_init_70 (by decide) ?_
  refine v_puti2 cb_7 hk_p0 11 711 rfl (by decide) rfl (lk_n kw_88 rfl) (Or.inl rfl) rfl rfl hf dX6_init_71 (fun s18 hts18 hf => ?_)
  have hk_p0 := tk_ hts18 hk_p0
  refine v_aload_n (x := (some p0)) dX6_init_74 rfl 0 rfl ?_
  refine v_iconst (v := 0) dX6_init_75 (by decide) ?_
  refine v_puti2 cb_7 hk_p0 12 712 rfl (by decide) rfl (lk_n kw_89 rfl) (Or.inl rfl) rfl rfl hf dX6_init_76 (fun s19 hts19 hf => ?_)
  have hk_p0 := tk_ hts19 hk_p0
  refine v_aload_n (x := (some p0)) dX6_init_79 rfl 0 rfl ?_
  refine v_iconst (v := 0) dX6_init_80 (by decide) ?_
  refine v_puti2 cb_7 hk_p0 13 713 rfl (by decide) rfl (lk_n kw_90 rfl) (Or.inl rfl) rfl rfl hf dX6_init_81 (fun s20 hts20 hf => ?_)
  have hk_p0 := tk_ hts20 hk_p0
  refine v_aload_n (x := (some p0)) dX6_init_84 rfl 0 rfl ?_
  refine v_iconst (v := 0) dX6_init_85 (by decide) ?_
  refine v_puti2 cb_7 hk_p0 14 714 rfl (by decide) rfl (lk_n kw_91 rfl) (Or.inl rfl) rfl rfl hf dX6_init_86 (fun s21 hts21 hf => ?_)
  have hk_p0 := tk_ hts21 hk_p0
  refine v_aload_n (x := (some p0)) dX6_init_89 rfl 0 rfl ?_
  refine v_iconst (v := 0) dX6_init_90 (by decide) ?_
  refine v_puti2 cb_7 hk_p0 15 715 rfl (by decide) rfl (lk_n kw_92 rfl) (Or.inl rfl) rfl rfl hf dX6_init_91 (fun s22 hts22 hf => ?_)
  have hk_p0 := tk_ hts22 hk_p0
  refine v_aload_n (x := (some p0)) dX6_init_94 rfl 0 rfl ?_
  refine v_iconst (v := 0) dX6_init_95 (by decide) ?_
  refine v_puti2 cb_7 hk_p0 16 716 rfl (by decide) rfl (lk_n kw_93 rfl) (Or.inl rfl) rfl rfl hf dX6_init_96 (fun s23 hts23 hf => ?_)
  have hk_p0 := tk_ hts23 hk_p0
  refine v_aload_n (x := (some p0)) dX6_init_99 rfl 0 rfl ?_
  refine v_iconst (v := 0) dX6_init_100 (by decide) ?_
  refine v_puti2 cb_7 hk_p0 17 717 rfl (by decide) rfl (lk_n kw_94 rfl) (Or.inl rfl) rfl rfl hf dX6_init_101 (fun s24 hts24 hf => ?_)
  have hk_p0 := tk_ hts24 hk_p0
  refine v_aload_n (x := (some p0)) dX6_init_104 rfl 0 rfl ?_
  refine v_iconst (v := 0) dX6_init_105 (by decide) ?_
  refine v_puti2 cb_7 hk_p0 18 718 rfl (by decide) rfl (lk_n kw_95 rfl) (Or.inl rfl) rfl rfl hf dX6_init_106 (fun s25 hts25 hf => ?_)
  have hk_p0 := tk_ hts25 hk_p0
  exact v_vret hf dX6_init_109
theorem dX11_keeps_0 : decode cX11_keeps 0 = .ok (.iload_n 1, 1) := by decide +kernel
theorem dX11_keeps_1 : decode cX11_keeps 1 = .ok (.invokestatic 195, 3) := by decide +kernel
theorem dX11_keeps_4 : decode cX11_keeps 4 = .ok (.ifCond .eq 14, 3) := by decide +kernel
theorem dX11_keeps_7 : decode cX11_keeps 7 = .ok (.iload_n 2, 1) := by decide +kernel
theorem dX11_keeps_8 : decode cX11_keeps 8 = .ok (.iconst 1, 1) := by decide +kernel
theorem dX11_keeps_9 : decode cX11_keeps 9 = .ok (.sipush 3650, 3) := by decide +kernel
theorem dX11_keeps_12 : decode cX11_keeps 12 = .ok (.invokestatic 93, 3) := by decide +kernel
theorem dX11_keeps_15 : decode cX11_keeps 15 = .ok (.ifCond .ne 9, 3) := by decide +kernel
theorem dX11_keeps_18 : decode cX11_keeps 18 = .ok (.aload_n 0, 1) := by decide +kernel
theorem dX11_keeps_19 : decode cX11_keeps 19 = .ok (.iconst 2, 1) := by decide +kernel
theorem dX11_keeps_20 : decode cX11_keeps 20 = .ok (.invokevirtual 121, 3) := by decide +kernel
theorem dX11_keeps_23 : decode cX11_keeps 23 = .ok (.ireturn, 1) := by decide +kernel
theorem dX11_keeps_24 : decode cX11_keeps 24 = .ok (.aload_n 0, 1) := by decide +kernel
theorem dX11_keeps_25 : decode cX11_keeps 25 = .ok (.getfield 34, 3) := by decide +kernel
theorem dX11_keeps_28 : decode cX11_keeps 28 = .ok (.iload_n 1, 1) := by decide +kernel
theorem dX11_keeps_29 : decode cX11_keeps 29 = .ok (.iload_n 2, 1) := by decide +kernel
theorem dX11_keeps_30 : decode cX11_keeps 30 = .ok (.iastore, 1) := by decide +kernel
theorem dX11_keeps_31 : decode cX11_keeps 31 = .ok (.aload_n 0, 1) := by decide +kernel
theorem dX11_keeps_32 : decode cX11_keeps 32 = .ok (.invokevirtual 128, 3) := by decide +kernel
theorem dX11_keeps_35 : decode cX11_keeps 35 = .ok (.ireturn, 1) := by decide +kernel
def f_X11_keeps_b18 (σ : TH) (l0 : Nat) : Option (Int32 × TH) :=
  gt_ (kd_ σ l0 = 13) <| bd_ (f_X11_denied σ l0 (2 : Int32)) fun x3 s4 => gt_ (x3 = 0 ∨ x3 = 1) <| some (x3, s4)
set_option maxHeartbeats 4000000 in
set_option maxRecDepth 100000 in
theorem t_X11_keeps_b18 {l : Launch} {D : va_G} {cy : Nat → ClassId} {ka : Nat → Nat} {σ0 z : TH} {r : Int32}  {σ : TH} {l0 : Nat} (hf : f_X11_keeps_b18 σ l0 = some (r, z)) : v_ l D cy ka cX11_keeps RX11 3 (some FieldType.boolean) "keeps" 2 42 (qf_ D cy σ0 z (some (.int r))) σ0 z σ 18 [(0, va_rf (some l0))] [] := by
  unfold f_X11_keeps_b18 at hf
  refine v_aload_n (x := (some l0)) dX11_keeps_18 rfl 0 rfl ?_
  refine v_iconst (v := 2) dX11_keeps_19 (by decide) ?_
  obtain ⟨hk_l0, hf⟩ := gt_of hf
  obtain ⟨x3, s4, hcs4, hf⟩ := bd_of hf
  have hts4 := c_X11_denied (l := l) (D := D) (cy := cy) (ka := ka) hcs4
  refine v_callV cb_12 hk_l0 (As := [.int (2 : Int32)]) (rest := []) hts4 yb_X11_denied kw_421 kw_423 kp_6 rfl ⟨Nat.le_of_ble_eq_true rfl, Nat.le_of_ble_eq_true rfl⟩ rfl (cat_len (Nat.le_of_ble_eq_true rfl)) dX11_keeps_20 ?_
  have hk_l0 := tk_ hts4.1 hk_l0
  show v_ l D cy ka cX11_keeps RX11 3 (some FieldType.boolean) "keeps" 2 42 (qf_ D cy σ0 z (some (.int r))) σ0 z _ 23 [(0, va_rf (some l0))] [.int x3]
  obtain ⟨hb9, hf⟩ := gt_of hf
  exact v_zret hf (nz_ hb9) dX11_keeps_23
/-- LivesAhead.keeps(II)Z -/
def f_X11_keeps (σ : TH) (p0 : Nat) (p1 : Int32) (p2 : Int32) : Option (Int32 × TH) :=
  bd_ (f_X11_isKind σ p1) fun x1 s2 => if x1 = 0 then (f_X11_keeps_b18 s2 p0) else (bd_ (f_X11_within s2 p2 (1 : Int32) (3650 : Int32)) fun x5 s6 => if x5 = 0 then (f_X11_keeps_b18 s6 p0) else (gt_ (kd_ s6 p0 = 13) <| lt_ (fr_ s6 1207 p0) fun r7 => nn_ r7 fun a8 => gt_ (kd_ s6 a8 = 20) <| gt_ (¬ (p1 < 0 ∨ ln_ s6 a8 ≤ p1.toNatClampNeg)) <| lt_ (sa_ s6 a8 p1.toNatClampNeg p2) fun s9 => bd_ (f_X11_allowed s9 p0) fun x10 s11 => gt_ (x10 = 0 ∨ x10 = 1) <| some (x10, s11)))
set_option maxHeartbeats 4000000 in
set_option maxRecDepth 100000 in
theorem c_X11_keeps {l : Launch} {D : va_G} {cy : Nat → ClassId} {ka : Nat → Nat} {σ z : TH} {p0 : Nat} {p1 : Int32} {p2 : Int32} {r : Int32} (hf : f_X11_keeps σ p0 p1 p2 = some (r, z)) : ct_ l D cy ka yX11_keeps 2 42 [va_rf (some p0), .int p1, .int p2] σ (some (.int r)) z := by
  unfold f_X11_keeps at hf
  refine v_start (cc := cX11_keeps) (own := RX11) (maxL := 3) (ret := (some FieldType.boolean)) (nm := "keeps") (by decide +kernel) kw_567 rfl rfl (by simp [lg_sl, va_rf_cat, cat_i, cat_l]) ?_
  refine v_eqL (L2 := [(0, va_rf (some p0)), (1, .int p1), (2, .int p2)]) (by simp [lv_args, va_rf_cat, cat_i, cat_l]) ?_
  refine v_iload_n (x := p1) dX11_keeps_0 rfl 1 rfl ?_
  obtain ⟨x1, s2, hcs2, hf⟩ := bd_of hf
  have hts2 := c_X11_isKind (l := l) (D := D) (cy := cy) (ka := ka) hcs2
  refine v_callS (As := [.int p1]) (rest := []) hts2 yb_X11_isKind kw_568 kw_569 rfl ⟨Nat.le_of_ble_eq_true rfl, Nat.le_of_ble_eq_true rfl⟩ rfl (cat_len (Nat.le_of_ble_eq_true rfl)) dX11_keeps_1 ?_
  show v_ l D cy ka cX11_keeps RX11 3 (some FieldType.boolean) "keeps" 2 42 (qf_ D cy σ z (some (.int r))) σ z _ 4 [(0, va_rf (some p0)), (1, .int p1), (2, .int p2)] [.int x1]
  refine v_if_eq (tgt := 18) hf dX11_keeps_4 (by decide) (fun hq hf => ?_) (fun hq hf => ?_)
  · refine v_sub [0] (L2 := [(0, va_rf (some p0))]) rfl ?_
    exact t_X11_keeps_b18  hf
  · refine v_iload_n (x := p2) dX11_keeps_7 rfl 2 rfl ?_
    refine v_iconst (v := 1) dX11_keeps_8 (by decide) ?_
    refine v_sipush (v := 3650) dX11_keeps_9 (by decide) ?_
    obtain ⟨x5, s6, hcs6, hf⟩ := bd_of hf
    have hts6 := c_X11_within (l := l) (D := D) (cy := cy) (ka := ka) hcs6
    refine v_callS (As := [.int p2, .int (1 : Int32), .int (3650 : Int32)]) (rest := []) hts6 yb_X11_within kw_304 kw_305 rfl ⟨Nat.le_of_ble_eq_true rfl, Nat.le_of_ble_eq_true rfl⟩ rfl (cat_len (Nat.le_of_ble_eq_true rfl)) dX11_keeps_12 ?_
    show v_ l D cy ka cX11_keeps RX11 3 (some FieldType.boolean) "keeps" 2 42 (qf_ D cy σ z (some (.int r))) σ z _ 15 [(0, va_rf (some p0)), (1, .int p1), (2, .int p2)] [.int x5]
    refine v_if_ne (tgt := 24) hf dX11_keeps_15 (by decide) (fun hq hf => ?_) (fun hq hf => ?_)
    · refine v_sub [0] (L2 := [(0, va_rf (some p0))]) rfl ?_
      exact t_X11_keeps_b18  hf
    · refine v_aload_n (x := (some p0)) dX11_keeps_24 rfl 0 rfl ?_
      obtain ⟨hk_p0, hf⟩ := gt_of hf
      refine v_getr cb_12 hk_p0 7 1207 rfl (by decide) rfl (lk_n kw_246 rfl) hf dX11_keeps_25 (fun r7 hf => ?_)
      refine v_iload_n (x := p1) dX11_keeps_28 rfl 1 rfl ?_
      refine v_iload_n (x := p2) dX11_keeps_29 rfl 2 rfl ?_
      obtain ⟨a8, rfl, hf⟩ := nn_of hf
      obtain ⟨hk_a8, hf⟩ := gt_of hf
      refine v_iast2 hk_a8 hf dX11_keeps_30 (fun s9 hts9 hf => ?_)
      have hk_p0 := tk_ hts9 hk_p0
      refine v_aload_n (x := (some p0)) dX11_keeps_31 rfl 0 rfl ?_
      obtain ⟨x10, s11, hcs11, hf⟩ := bd_of hf
      have hts11 := c_X11_allowed (l := l) (D := D) (cy := cy) (ka := ka) hcs11
      refine v_callV cb_12 hk_p0 (As := []) (rest := []) hts11 yb_X11_allowed kw_425 kw_427 kp_7 rfl ⟨Nat.le_of_ble_eq_true rfl, Nat.le_of_ble_eq_true rfl⟩ rfl (cat_len (Nat.le_of_ble_eq_true rfl)) dX11_keeps_32 ?_
      have hk_p0 := tk_ hts11.1 hk_p0
      show v_ l D cy ka cX11_keeps RX11 3 (some FieldType.boolean) "keeps" 2 42 (qf_ D cy σ z (some (.int r))) σ z _ 35 [(0, va_rf (some p0)), (1, .int p1), (2, .int p2)] [.int x10]
      obtain ⟨hb9, hf⟩ := gt_of hf
      exact v_zret hf (nz_ hb9) dX11_keeps_35
theorem dX6_holds_0 : decode cX6_holds 0 = .ok (.iload_n 1, 1) := by decide +kernel
theorem dX6_holds_1 : decode cX6_holds 1 = .ok (.iconst 0, 1) := by decide +kernel
theorem dX6_holds_2 : decode cX6_holds 2 = .ok (.aload_n 0, 1) := by decide +kernel
theorem dX6_holds_3 : decode cX6_holds 3 = .ok (.getfield 15, 3) := by decide +kernel
theorem dX6_holds_6 : decode cX6_holds 6 = .ok (.invokestatic 72, 3) := by decide +kernel
theorem dX6_holds_9 : decode cX6_holds 9 = .ok (.ireturn, 1) := by decide +kernel
/-- LivesAhead$Reader.holds(I)Z -/
def f_X6_holds (σ : TH) (p0 : Nat) (p1 : Int32) : Option (Int32 × TH) :=
  gt_ (kd_ σ p0 = 8) <| lt_ (fi_ σ 701 p0) fun x1 => bd_ (f_X11_within σ p1 (0 : Int32) x1) fun x2 s3 => gt_ (x2 = 0 ∨ x2 = 1) <| some (x2, s3)
set_option maxHeartbeats 4000000 in
set_option maxRecDepth 100000 in
theorem c_X6_holds {l : Launch} {D : va_G} {cy : Nat → ClassId} {ka : Nat → Nat} {σ z : TH} {p0 : Nat} {p1 : Int32} {r : Int32} (hf : f_X6_holds σ p0 p1 = some (r, z)) : ct_ l D cy ka yX6_holds 1 22 [va_rf (some p0), .int p1] σ (some (.int r)) z := by
  unfold f_X6_holds at hf
  refine v_start (cc := cX6_holds) (own := RX6) (maxL := 2) (ret := (some FieldType.boolean)) (nm := "holds") (by decide +kernel) kw_658 rfl rfl (by simp [lg_sl, va_rf_cat, cat_i, cat_l]) ?_
  refine v_eqL (L2 := [(0, va_rf (some p0)), (1, .int p1)]) (by simp [lv_args, va_rf_cat, cat_i, cat_l]) ?_
  refine v_iload_n (x := p1) dX6_holds_0 rfl 1 rfl ?_
  refine v_iconst (v := 0) dX6_holds_1 (by decide) ?_
  refine v_aload_n (x := (some p0)) dX6_holds_2 rfl 0 rfl ?_
  obtain ⟨hk_p0, hf⟩ := gt_of hf
  refine v_geti cb_7 hk_p0 1 701 rfl (by decide) rfl (lk_n kw_75 rfl) hf dX6_holds_3 (fun x1 hf => ?_)
  obtain ⟨x2, s3, hcs3, hf⟩ := bd_of hf
  have hts3 := c_X11_within (l := l) (D := D) (cy := cy) (ka := ka) hcs3
  refine v_callSN (As := [.int p1, .int (0 : Int32), .int x1]) (rest := []) hts3 yb_X11_within kw_659 kw_305 rfl ⟨Nat.le_of_ble_eq_true rfl, Nat.le_of_ble_eq_true rfl⟩ rfl (cat_len (Nat.le_of_ble_eq_true rfl)) dX6_holds_6 ?_
  have hk_p0 := tk_ hts3.1 hk_p0
  show v_ l D cy ka cX6_holds RX6 2 (some FieldType.boolean) "holds" 1 22 (qf_ D cy σ z (some (.int r))) σ z _ 9 [(0, va_rf (some p0)), (1, .int p1)] [.int x2]
  obtain ⟨hb9, hf⟩ := gt_of hf
  exact v_zret hf (nz_ hb9) dX6_holds_9
theorem dX6_begin_0 : decode cX6_begin 0 = .ok (.aload_n 0, 1) := by decide +kernel
theorem dX6_begin_1 : decode cX6_begin 1 = .ok (.iload_n 2, 1) := by decide +kernel
theorem dX6_begin_2 : decode cX6_begin 2 = .ok (.putfield 35, 3) := by decide +kernel
theorem dX6_begin_5 : decode cX6_begin 5 = .ok (.aload_n 0, 1) := by decide +kernel
theorem dX6_begin_6 : decode cX6_begin 6 = .ok (.iload_n 1, 1) := by decide +kernel
theorem dX6_begin_7 : decode cX6_begin 7 = .ok (.putfield 39, 3) := by decide +kernel
theorem dX6_begin_10 : decode cX6_begin 10 = .ok (.aload_n 0, 1) := by decide +kernel
theorem dX6_begin_11 : decode cX6_begin 11 = .ok (.iconst 0, 1) := by decide +kernel
theorem dX6_begin_12 : decode cX6_begin 12 = .ok (.putfield 42, 3) := by decide +kernel
theorem dX6_begin_15 : decode cX6_begin 15 = .ok (.aload_n 0, 1) := by decide +kernel
theorem dX6_begin_16 : decode cX6_begin 16 = .ok (.iconst 0, 1) := by decide +kernel
theorem dX6_begin_17 : decode cX6_begin 17 = .ok (.putfield 19, 3) := by decide +kernel
theorem dX6_begin_20 : decode cX6_begin 20 = .ok (.aload_n 0, 1) := by decide +kernel
theorem dX6_begin_21 : decode cX6_begin 21 = .ok (.iconst 0, 1) := by decide +kernel
theorem dX6_begin_22 : decode cX6_begin 22 = .ok (.putfield 22, 3) := by decide +kernel
theorem dX6_begin_25 : decode cX6_begin 25 = .ok (.aload_n 0, 1) := by decide +kernel
theorem dX6_begin_26 : decode cX6_begin 26 = .ok (.iconst 0, 1) := by decide +kernel
theorem dX6_begin_27 : decode cX6_begin 27 = .ok (.putfield 32, 3) := by decide +kernel
theorem dX6_begin_30 : decode cX6_begin 30 = .ok (.aload_n 0, 1) := by decide +kernel
theorem dX6_begin_31 : decode cX6_begin 31 = .ok (.iload_n 2, 1) := by decide +kernel
theorem dX6_begin_32 : decode cX6_begin 32 = .ok (.ifCond .eq 7, 3) := by decide +kernel
theorem dX6_begin_35 : decode cX6_begin 35 = .ok (.iconst 2, 1) := by decide +kernel
theorem dX6_begin_36 : decode cX6_begin 36 = .ok (.goto 4, 3) := by decide +kernel
theorem dX6_begin_39 : decode cX6_begin 39 = .ok (.iconst 0, 1) := by decide +kernel
theorem dX6_begin_40 : decode cX6_begin 40 = .ok (.putfield 45, 3) := by decide +kernel
theorem dX6_begin_43 : decode cX6_begin 43 = .ok (.aload_n 0, 1) := by decide +kernel
theorem dX6_begin_44 : decode cX6_begin 44 = .ok (.iconst 0, 1) := by decide +kernel
theorem dX6_begin_45 : decode cX6_begin 45 = .ok (.putfield 48, 3) := by decide +kernel
theorem dX6_begin_48 : decode cX6_begin 48 = .ok (.aload_n 0, 1) := by decide +kernel
theorem dX6_begin_49 : decode cX6_begin 49 = .ok (.iconst 0, 1) := by decide +kernel
theorem dX6_begin_50 : decode cX6_begin 50 = .ok (.putfield 51, 3) := by decide +kernel
theorem dX6_begin_53 : decode cX6_begin 53 = .ok (.aload_n 0, 1) := by decide +kernel
theorem dX6_begin_54 : decode cX6_begin 54 = .ok (.iconst 0, 1) := by decide +kernel
theorem dX6_begin_55 : decode cX6_begin 55 = .ok (.putfield 57, 3) := by decide +kernel
theorem dX6_begin_58 : decode cX6_begin 58 = .ok (.aload_n 0, 1) := by decide +kernel
theorem dX6_begin_59 : decode cX6_begin 59 = .ok (.iconst 0, 1) := by decide +kernel
theorem dX6_begin_60 : decode cX6_begin 60 = .ok (.putfield 60, 3) := by decide +kernel
theorem dX6_begin_63 : decode cX6_begin 63 = .ok (.aload_n 0, 1) := by decide +kernel
theorem dX6_begin_64 : decode cX6_begin 64 = .ok (.iconst 0, 1) := by decide +kernel
theorem dX6_begin_65 : decode cX6_begin 65 = .ok (.putfield 63, 3) := by decide +kernel
theorem dX6_begin_68 : decode cX6_begin 68 = .ok (.aload_n 0, 1) := by decide +kernel
theorem dX6_begin_69 : decode cX6_begin 69 = .ok (.iconst 0, 1) := by decide +kernel
theorem dX6_begin_70 : decode cX6_begin 70 = .ok (.putfield 66, 3) := by decide +kernel
theorem dX6_begin_73 : decode cX6_begin 73 = .ok (.aload_n 0, 1) := by decide +kernel
theorem dX6_begin_74 : decode cX6_begin 74 = .ok (.iconst 0, 1) := by decide +kernel
theorem dX6_begin_75 : decode cX6_begin 75 = .ok (.putfield 69, 3) := by decide +kernel
theorem dX6_begin_78 : decode cX6_begin 78 = .ok (.return_, 1) := by decide +kernel
def f_X6_begin_b40 (σ : TH) (l0 : Nat) (t0 : Int32) (t1 : Option Nat) : Option (Unit × TH) :=
  nn_ t1 fun a7 => gt_ (kd_ σ a7 = 8) <| lt_ (si_ σ 710 a7 t0) fun s8 => gt_ (kd_ s8 l0 = 8) <| lt_ (si_ s8 711 l0 (0 : Int32)) fun s9 => lt_ (si_ s9 712 l0 (0 : Int32)) fun s10 => lt_ (si_ s10 714 l0 (0 : Int32)) fun s11 => lt_ (si_ s11 715 l0 (0 : Int32)) fun s12 => lt_ (si_ s12 716 l0 (0 : Int32)) fun s13 => lt_ (si_ s13 717 l0 (0 : Int32)) fun s14 => lt_ (si_ s14 718 l0 (0 : Int32)) fun s15 => some ((), s15)
set_option maxHeartbeats 4000000 in
set_option maxRecDepth 100000 in
theorem t_X6_begin_b40 {l : Launch} {D : va_G} {cy : Nat → ClassId} {ka : Nat → Nat} {σ0 z : TH} {r : Unit}  {σ : TH} {l0 : Nat} {t0 : Int32} {t1 : Option Nat} (hf : f_X6_begin_b40 σ l0 t0 t1 = some (r, z)) : v_ l D cy ka cX6_begin RX6 3 none "begin" 0 0 (qf_ D cy σ0 z none) σ0 z σ 40 [(0, va_rf (some l0))] [.int t0, va_rf t1] := by
  unfold f_X6_begin_b40 at hf
  obtain ⟨a7, rfl, hf⟩ := nn_of hf
  obtain ⟨hk_a7, hf⟩ := gt_of hf
  refine v_puti2 cb_7 hk_a7 10 710 rfl (by decide) rfl (lk_n kw_87 rfl) (Or.inl rfl) rfl rfl hf dX6_begin_40 (fun s8 hts8 hf => ?_)
  refine v_aload_n (x := (some l0)) dX6_begin_43 rfl 0 rfl ?_
  refine v_iconst (v := 0) dX6_begin_44 (by decide) ?_
  obtain ⟨hk_l0, hf⟩ := gt_of hf
  refine v_puti2 cb_7 hk_l0 11 711 rfl (by decide) rfl (lk_n kw_88 rfl) (Or.inl rfl) rfl rfl hf dX6_begin_45 (fun s9 hts9 hf => ?_)
  have hk_l0 := tk_ hts9 hk_l0
  refine v_aload_n (x := (some l0)) dX6_begin_48 rfl 0 rfl ?_
  refine v_iconst (v := 0) dX6_begin_49 (by decide) ?_
  refine v_puti2 cb_7 hk_l0 12 712 rfl (by decide) rfl (lk_n kw_89 rfl) (Or.inl rfl) rfl rfl hf dX6_begin_50 (fun s10 hts10 hf => ?_)
  have hk_l0 := tk_ hts10 hk_l0
  refine v_aload_n (x := (some l0)) dX6_begin_53 rfl 0 rfl ?_
  refine v_iconst (v := 0) dX6_begin_54 (by decide) ?_
  refine v_puti2 cb_7 hk_l0 14 714 rfl (by decide) rfl (lk_n kw_91 rfl) (Or.inl rfl) rfl rfl hf dX6_begin_55 (fun s11 hts11 hf => ?_)
  have hk_l0 := tk_ hts11 hk_l0
  refine v_aload_n (x := (some l0)) dX6_begin_58 rfl 0 rfl ?_
  refine v_iconst (v := 0) dX6_begin_59 (by decide) ?_
  refine v_puti2 cb_7 hk_l0 15 715 rfl (by decide) rfl (lk_n kw_92 rfl) (Or.inl rfl) rfl rfl hf dX6_begin_60 (fun s12 hts12 hf => ?_)
  have hk_l0 := tk_ hts12 hk_l0
  refine v_aload_n (x := (some l0)) dX6_begin_63 rfl 0 rfl ?_
  refine v_iconst (v := 0) dX6_begin_64 (by decide) ?_
  refine v_puti2 cb_7 hk_l0 16 716 rfl (by decide) rfl (lk_n kw_93 rfl) (Or.inl rfl) rfl rfl hf dX6_begin_65 (fun s13 hts13 hf => ?_)
  have hk_l0 := tk_ hts13 hk_l0
  refine v_aload_n (x := (some l0)) dX6_begin_68 rfl 0 rfl ?_
  refine v_iconst (v := 0) dX6_begin_69 (by decide) ?_
  refine v_puti2 cb_7 hk_l0 17 717 rfl (by decide) rfl (lk_n kw_94 rfl) (Or.inl rfl) rfl rfl hf dX6_begin_70 (fun s14 hts14 hf => ?_)
  have hk_l0 := tk_ hts14 hk_l0
  refine v_aload_n (x := (some l0)) dX6_begin_73 rfl 0 rfl ?_
  refine v_iconst (v := 0) dX6_begin_74 (by decide) ?_
  refine v_puti2 cb_7 hk_l0 18 718 rfl (by decide) rfl (lk_n kw_95 rfl) (Or.inl rfl) rfl rfl hf dX6_begin_75 (fun s15 hts15 hf => ?_)
  have hk_l0 := tk_ hts15 hk_l0
  exact v_vret hf dX6_begin_78
/-- LivesAhead$Reader.begin(IZ)V -/
def f_X6_begin (σ : TH) (p0 : Nat) (p1 : Int32) (p2 : Int32) : Option (Unit × TH) :=
  gt_ (kd_ σ p0 = 8) <| gt_ (p2 = 0 ∨ p2 = 1) <| lt_ (si_ σ 707 p0 p2) fun s1 => lt_ (si_ s1 708 p0 p1) fun s2 => lt_ (si_ s2 709 p0 (0 : Int32)) fun s3 => lt_ (si_ s3 702 p0 (0 : Int32)) fun s4 => lt_ (si_ s4 703 p0 (0 : Int32)) fun s5 => lt_ (si_ s5 706 p0 (0 : Int32)) fun s6 => if p2 = 0 then (f_X6_begin_b40 s6 p0 (0 : Int32) (some p0)) else (f_X6_begin_b40 s6 p0 (2 : Int32) (some p0))
set_option maxHeartbeats 4000000 in
set_option maxRecDepth 100000 in
theorem c_X6_begin {l : Launch} {D : va_G} {cy : Nat → ClassId} {ka : Nat → Nat} {σ z : TH} {p0 : Nat} {p1 : Int32} {p2 : Int32} {r : Unit} (hf : f_X6_begin σ p0 p1 p2 = some (r, z)) : ct_ l D cy ka yX6_begin 0 0 [va_rf (some p0), .int p1, .int p2] σ none z := by
  unfold f_X6_begin at hf
  refine v_start (cc := cX6_begin) (own := RX6) (maxL := 3) (ret := none) (nm := "begin") (by decide +kernel) kw_667 rfl rfl (by simp [lg_sl, va_rf_cat, cat_i, cat_l]) ?_
  refine v_eqL (L2 := [(0, va_rf (some p0)), (1, .int p1), (2, .int p2)]) (by simp [lv_args, va_rf_cat, cat_i, cat_l]) ?_
  refine v_aload_n (x := (some p0)) dX6_begin_0 rfl 0 rfl ?_
  refine v_iload_n (x := p2) dX6_begin_1 rfl 2 rfl ?_
  obtain ⟨hk_p0, hf⟩ := gt_of hf
  obtain ⟨hbs1, hf⟩ := gt_of hf
  refine v_puti2 cb_7 hk_p0 7 707 rfl (by decide) rfl (lk_n kw_84 rfl) (Or.inl rfl) (nz_ hbs1) (fz_ hbs1) hf dX6_begin_2 (fun s1 hts1 hf => ?_)
  have hk_p0 := tk_ hts1 hk_p0
  refine v_aload_n (x := (some p0)) dX6_begin_5 rfl 0 rfl ?_
  refine v_iload_n (x := p1) dX6_begin_6 rfl 1 rfl ?_
  refine v_puti2 cb_7 hk_p0 8 708 rfl (by decide) rfl (lk_n kw_85 rfl) (Or.inl rfl) rfl rfl hf dX6_begin_7 (fun s2 hts2 hf => ?_)
  have hk_p0 := tk_ hts2 hk_p0
  refine v_aload_n (x := (some p0)) dX6_begin_10 rfl 0 rfl ?_
  refine v_iconst (v := 0) dX6_begin_11 (by decide) ?_
  refine v_puti2 cb_7 hk_p0 9 709 rfl (by decide) rfl (lk_n kw_86 rfl) (Or.inl rfl) rfl rfl hf dX6_begin_12 (fun s3 hts3 hf => ?_)
  have hk_p0 := tk_ hts3 hk_p0
  refine v_aload_n (x := (some p0)) dX6_begin_15 rfl 0 rfl ?_
  refine v_iconst (v := 0) dX6_begin_16 (by decide) ?_
  refine v_puti2 cb_7 hk_p0 2 702 rfl (by decide) rfl (lk_n kw_77 rfl) (Or.inl rfl) rfl rfl hf dX6_begin_17 (fun s4 hts4 hf => ?_)
  have hk_p0 := tk_ hts4 hk_p0
  refine v_aload_n (x := (some p0)) dX6_begin_20 rfl 0 rfl ?_
  refine v_iconst (v := 0) dX6_begin_21 (by decide) ?_
  refine v_puti2 cb_7 hk_p0 3 703 rfl (by decide) rfl (lk_n kw_79 rfl) (Or.inl rfl) rfl rfl hf dX6_begin_22 (fun s5 hts5 hf => ?_)
  have hk_p0 := tk_ hts5 hk_p0
  refine v_aload_n (x := (some p0)) dX6_begin_25 rfl 0 rfl ?_
  refine v_iconst (v := 0) dX6_begin_26 (by decide) ?_
  refine v_puti2 cb_7 hk_p0 6 706 rfl (by decide) rfl (lk_n kw_83 rfl) (Or.inl rfl) rfl rfl hf dX6_begin_27 (fun s6 hts6 hf => ?_)
  have hk_p0 := tk_ hts6 hk_p0
  refine v_aload_n (x := (some p0)) dX6_begin_30 rfl 0 rfl ?_
  refine v_iload_n (x := p2) dX6_begin_31 rfl 2 rfl ?_
  refine v_if_eq (tgt := 39) hf dX6_begin_32 (by decide) (fun hq hf => ?_) (fun hq hf => ?_)
  · refine v_iconst (v := 0) dX6_begin_39 (by decide) ?_
    refine v_sub [0] (L2 := [(0, va_rf (some p0))]) rfl ?_
    exact t_X6_begin_b40  hf
  · refine v_iconst (v := 2) dX6_begin_35 (by decide) ?_
    refine v_goto (tgt := 40) dX6_begin_36 (by decide) ?_
    refine v_sub [0] (L2 := [(0, va_rf (some p0))]) rfl ?_
    exact t_X6_begin_b40  hf
theorem dX6_byteAt_0 : decode cX6_byteAt 0 = .ok (.iload_n 1, 1) := by decide +kernel
theorem dX6_byteAt_1 : decode cX6_byteAt 1 = .ok (.ifCond .lt 27, 3) := by decide +kernel
theorem dX6_byteAt_4 : decode cX6_byteAt 4 = .ok (.iload_n 1, 1) := by decide +kernel
theorem dX6_byteAt_5 : decode cX6_byteAt 5 = .ok (.aload_n 0, 1) := by decide +kernel
theorem dX6_byteAt_6 : decode cX6_byteAt 6 = .ok (.getfield 39, 3) := by decide +kernel
theorem dX6_byteAt_9 : decode cX6_byteAt 9 = .ok (.if_icmp .ge 19, 3) := by decide +kernel
theorem dX6_byteAt_12 : decode cX6_byteAt 12 = .ok (.iload_n 1, 1) := by decide +kernel
theorem dX6_byteAt_13 : decode cX6_byteAt 13 = .ok (.sipush 400, 3) := by decide +kernel
theorem dX6_byteAt_16 : decode cX6_byteAt 16 = .ok (.if_icmp .ge 12, 3) := by decide +kernel
theorem dX6_byteAt_19 : decode cX6_byteAt 19 = .ok (.aload_n 0, 1) := by decide +kernel
theorem dX6_byteAt_20 : decode cX6_byteAt 20 = .ok (.getfield 11, 3) := by decide +kernel
theorem dX6_byteAt_23 : decode cX6_byteAt 23 = .ok (.iload_n 1, 1) := by decide +kernel
theorem dX6_byteAt_24 : decode cX6_byteAt 24 = .ok (.baload, 1) := by decide +kernel
theorem dX6_byteAt_25 : decode cX6_byteAt 25 = .ok (.goto 4, 3) := by decide +kernel
theorem dX6_byteAt_28 : decode cX6_byteAt 28 = .ok (.iconst 0, 1) := by decide +kernel
theorem dX6_byteAt_29 : decode cX6_byteAt 29 = .ok (.ireturn, 1) := by decide +kernel
def f_X6_byteAt_b29 (σ : TH) (t0 : Int32) : Option (Int32 × TH) :=
  some (t0, σ)
set_option maxHeartbeats 4000000 in
set_option maxRecDepth 100000 in
theorem t_X6_byteAt_b29 {l : Launch} {D : va_G} {cy : Nat → ClassId} {ka : Nat → Nat} {σ0 z : TH} {r : Int32}  {σ : TH} {t0 : Int32} (hf : f_X6_byteAt_b29 σ t0 = some (r, z)) : v_ l D cy ka cX6_byteAt RX6 2 (some FieldType.int) "byteAt" 0 0 (qf_ D cy σ0 z (some (.int r))) σ0 z σ 29 [] [.int t0] := by
  unfold f_X6_byteAt_b29 at hf
  exact v_iret hf dX6_byteAt_29
def f_X6_byteAt_b28 (σ : TH) : Option (Int32 × TH) :=
  f_X6_byteAt_b29 σ (0 : Int32)
set_option maxHeartbeats 4000000 in
set_option maxRecDepth 100000 in
theorem t_X6_byteAt_b28 {l : Launch} {D : va_G} {cy : Nat → ClassId} {ka : Nat → Nat} {σ0 z : TH} {r : Int32}  {σ : TH}  (hf : f_X6_byteAt_b28 σ  = some (r, z)) : v_ l D cy ka cX6_byteAt RX6 2 (some FieldType.int) "byteAt" 0 0 (qf_ D cy σ0 z (some (.int r))) σ0 z σ 28 [] [] := by
  unfold f_X6_byteAt_b28 at hf
  refine v_iconst (v := 0) dX6_byteAt_28 (by decide) ?_
  refine v_sub [] (L2 := []) rfl ?_
  exact t_X6_byteAt_b29  hf
/-- LivesAhead$Reader.byteAt(I)I -/
def f_X6_byteAt (σ : TH) (p0 : Nat) (p1 : Int32) : Option (Int32 × TH) :=
  if p1 < 0 then (f_X6_byteAt_b28 σ ) else (gt_ (kd_ σ p0 = 8) <| lt_ (fi_ σ 708 p0) fun x1 => if x1 ≤ p1 then (f_X6_byteAt_b28 σ ) else (if (400 : Int32) ≤ p1 then (f_X6_byteAt_b28 σ ) else (lt_ (fr_ σ 700 p0) fun r2 => nn_ r2 fun a3 => gt_ (kd_ σ a3 = 21) <| gt_ (¬ (p1 < 0 ∨ ln_ σ a3 ≤ p1.toNatClampNeg)) <| lt_ (ai_ σ a3 p1.toNatClampNeg) fun x4 => f_X6_byteAt_b29 σ x4)))
set_option maxHeartbeats 4000000 in
set_option maxRecDepth 100000 in
theorem c_X6_byteAt {l : Launch} {D : va_G} {cy : Nat → ClassId} {ka : Nat → Nat} {σ z : TH} {p0 : Nat} {p1 : Int32} {r : Int32} (hf : f_X6_byteAt σ p0 p1 = some (r, z)) : ct_ l D cy ka yX6_byteAt 0 0 [va_rf (some p0), .int p1] σ (some (.int r)) z := by
  unfold f_X6_byteAt at hf
  refine v_start (cc := cX6_byteAt) (own := RX6) (maxL := 2) (ret := (some FieldType.int)) (nm := "byteAt") (by decide +kernel) kw_671 rfl rfl (by simp [lg_sl, va_rf_cat, cat_i, cat_l]) ?_
  refine v_eqL (L2 := [(0, va_rf (some p0)), (1, .int p1)]) (by simp [lv_args, va_rf_cat, cat_i, cat_l]) ?_
  refine v_iload_n (x := p1) dX6_byteAt_0 rfl 1 rfl ?_
  refine v_if_lt (tgt := 28) hf dX6_byteAt_1 (by decide) (fun hq hf => ?_) (fun hq hf => ?_)
  · refine v_sub [] (L2 := []) rfl ?_
    exact t_X6_byteAt_b28  hf
  · refine v_iload_n (x := p1) dX6_byteAt_4 rfl 1 rfl ?_
    refine v_aload_n (x := (some p0)) dX6_byteAt_5 rfl 0 rfl ?_
    obtain ⟨hk_p0, hf⟩ := gt_of hf
    refine v_geti cb_7 hk_p0 8 708 rfl (by decide) rfl (lk_n kw_85 rfl) hf dX6_byteAt_6 (fun x1 hf => ?_)
    refine v_icmp_ge (tgt := 28) hf dX6_byteAt_9 (by decide) (fun hq hf => ?_) (fun hq hf => ?_)
    · refine v_sub [] (L2 := []) rfl ?_
      exact t_X6_byteAt_b28  hf
    · refine v_iload_n (x := p1) dX6_byteAt_12 rfl 1 rfl ?_
      refine v_sipush (v := 400) dX6_byteAt_13 (by decide) ?_
      refine v_icmp_ge (tgt := 28) hf dX6_byteAt_16 (by decide) (fun hq hf => ?_) (fun hq hf => ?_)
      · refine v_sub [] (L2 := []) rfl ?_
        exact t_X6_byteAt_b28  hf
      · refine v_aload_n (x := (some p0)) dX6_byteAt_19 rfl 0 rfl ?_
        refine v_getr cb_7 hk_p0 0 700 rfl (by decide) rfl (lk_n kw_74 rfl) hf dX6_byteAt_20 (fun r2 hf => ?_)
        refine v_iload_n (x := p1) dX6_byteAt_23 rfl 1 rfl ?_
        obtain ⟨a3, rfl, hf⟩ := nn_of hf
        obtain ⟨hk_a3, hf⟩ := gt_of hf
        refine v_bald hk_a3 hf dX6_byteAt_24 (fun x4 hf => ?_)
        refine v_goto (tgt := 29) dX6_byteAt_25 (by decide) ?_
        refine v_sub [] (L2 := []) rfl ?_
        exact t_X6_byteAt_b29  hf
theorem dX6_emit_0 : decode cX6_emit 0 = .ok (.aload_n 0, 1) := by decide +kernel
theorem dX6_emit_1 : decode cX6_emit 1 = .ok (.getfield 32, 3) := by decide +kernel
theorem dX6_emit_4 : decode cX6_emit 4 = .ok (.istore_n 3, 1) := by decide +kernel
theorem dX6_emit_5 : decode cX6_emit 5 = .ok (.iload_n 3, 1) := by decide +kernel
theorem dX6_emit_6 : decode cX6_emit 6 = .ok (.sipush 1024, 3) := by decide +kernel
theorem dX6_emit_9 : decode cX6_emit 9 = .ok (.if_icmp .ge 25, 3) := by decide +kernel
theorem dX6_emit_12 : decode cX6_emit 12 = .ok (.aload_n 0, 1) := by decide +kernel
theorem dX6_emit_13 : decode cX6_emit 13 = .ok (.getfield 25, 3) := by decide +kernel
theorem dX6_emit_16 : decode cX6_emit 16 = .ok (.iload_n 3, 1) := by decide +kernel
theorem dX6_emit_17 : decode cX6_emit 17 = .ok (.iload_n 1, 1) := by decide +kernel
theorem dX6_emit_18 : decode cX6_emit 18 = .ok (.bipush 16, 2) := by decide +kernel
theorem dX6_emit_20 : decode cX6_emit 20 = .ok (.ishl, 1) := by decide +kernel
theorem dX6_emit_21 : decode cX6_emit 21 = .ok (.iload_n 2, 1) := by decide +kernel
theorem dX6_emit_22 : decode cX6_emit 22 = .ok (.ior, 1) := by decide +kernel
theorem dX6_emit_23 : decode cX6_emit 23 = .ok (.iastore, 1) := by decide +kernel
theorem dX6_emit_24 : decode cX6_emit 24 = .ok (.aload_n 0, 1) := by decide +kernel
theorem dX6_emit_25 : decode cX6_emit 25 = .ok (.dup, 1) := by decide +kernel
theorem dX6_emit_26 : decode cX6_emit 26 = .ok (.getfield 32, 3) := by decide +kernel
theorem dX6_emit_29 : decode cX6_emit 29 = .ok (.iconst 1, 1) := by decide +kernel
theorem dX6_emit_30 : decode cX6_emit 30 = .ok (.iadd, 1) := by decide +kernel
theorem dX6_emit_31 : decode cX6_emit 31 = .ok (.putfield 32, 3) := by decide +kernel
theorem dX6_emit_34 : decode cX6_emit 34 = .ok (.iload_n 3, 1) := by decide +kernel
theorem dX6_emit_35 : decode cX6_emit 35 = .ok (.ireturn, 1) := by decide +kernel
def f_X6_emit_b34 (σ : TH) (l3 : Int32) : Option (Int32 × TH) :=
  some (l3, σ)
set_option maxHeartbeats 4000000 in
set_option maxRecDepth 100000 in
theorem t_X6_emit_b34 {l : Launch} {D : va_G} {cy : Nat → ClassId} {ka : Nat → Nat} {σ0 z : TH} {r : Int32}  {σ : TH} {l3 : Int32} (hf : f_X6_emit_b34 σ l3 = some (r, z)) : v_ l D cy ka cX6_emit RX6 4 (some FieldType.int) "emit" 0 0 (qf_ D cy σ0 z (some (.int r))) σ0 z σ 34 [(3, .int l3)] [] := by
  unfold f_X6_emit_b34 at hf
  refine v_iload_n (x := l3) dX6_emit_34 rfl 0 rfl ?_
  exact v_iret hf dX6_emit_35
/-- LivesAhead$Reader.emit(II)I -/
def f_X6_emit (σ : TH) (p0 : Nat) (p1 : Int32) (p2 : Int32) : Option (Int32 × TH) :=
  gt_ (kd_ σ p0 = 8) <| lt_ (fi_ σ 706 p0) fun x1 => if (1024 : Int32) ≤ x1 then (f_X6_emit_b34 σ x1) else (lt_ (fr_ σ 704 p0) fun r2 => nn_ r2 fun a3 => gt_ (kd_ σ a3 = 20) <| gt_ (¬ (x1 < 0 ∨ ln_ σ a3 ≤ x1.toNatClampNeg)) <| lt_ (sa_ σ a3 x1.toNatClampNeg ((p1 <<< ((16 : Int32) &&& 31)) ||| p2)) fun s4 => lt_ (fi_ s4 706 p0) fun x5 => lt_ (si_ s4 706 p0 (x5 + (1 : Int32))) fun s6 => f_X6_emit_b34 s6 x1)
set_option maxHeartbeats 4000000 in
set_option maxRecDepth 100000 in
theorem c_X6_emit {l : Launch} {D : va_G} {cy : Nat → ClassId} {ka : Nat → Nat} {σ z : TH} {p0 : Nat} {p1 : Int32} {p2 : Int32} {r : Int32} (hf : f_X6_emit σ p0 p1 p2 = some (r, z)) : ct_ l D cy ka yX6_emit 0 0 [va_rf (some p0), .int p1, .int p2] σ (some (.int r)) z := by
  unfold f_X6_emit at hf
  refine v_start (cc := cX6_emit) (own := RX6) (maxL := 4) (ret := (some FieldType.int)) (nm := "emit") (by decide +kernel) kw_691 rfl rfl (by simp [lg_sl, va_rf_cat, cat_i, cat_l]) ?_
  refine v_eqL (L2 := [(0, va_rf (some p0)), (1, .int p1), (2, .int p2)]) (by simp [lv_args, va_rf_cat, cat_i, cat_l]) ?_
  refine v_aload_n (x := (some p0)) dX6_emit_0 rfl 0 rfl ?_
  obtain ⟨hk_p0, hf⟩ := gt_of hf
  refine v_geti cb_7 hk_p0 6 706 rfl (by decide) rfl (lk_n kw_83 rfl) hf dX6_emit_1 (fun x1 hf => ?_)
  refine v_istore_n [(3, .int x1), (0, va_rf (some p0)), (1, .int p1), (2, .int p2)] dX6_emit_4 rfl (by decide) rfl ?_
  refine v_iload_n (x := x1) dX6_emit_5 rfl 0 rfl ?_
  refine v_sipush (v := 1024) dX6_emit_6 (by decide) ?_
  refine v_icmp_ge (tgt := 34) hf dX6_emit_9 (by decide) (fun hq hf => ?_) (fun hq hf => ?_)
  · refine v_sub [0] (L2 := [(3, .int x1)]) rfl ?_
    exact t_X6_emit_b34  hf
  · refine v_aload_n (x := (some p0)) dX6_emit_12 rfl 1 rfl ?_
    refine v_getr cb_7 hk_p0 4 704 rfl (by decide) rfl (lk_n kw_81 rfl) hf dX6_emit_13 (fun r2 hf => ?_)
    refine v_iload_n (x := x1) dX6_emit_16 rfl 0 rfl ?_
    refine v_iload_n (x := p1) dX6_emit_17 rfl 2 rfl ?_
    refine v_bipush (v := 16) dX6_emit_18 (by decide) ?_
    refine v_ishl dX6_emit_20 ?_
    refine v_iload_n (x := p2) dX6_emit_21 rfl 3 rfl ?_
    refine v_ior dX6_emit_22 ?_
    obtain ⟨a3, rfl, hf⟩ := nn_of hf
    obtain ⟨hk_a3, hf⟩ := gt_of hf
    refine v_iast2 hk_a3 hf dX6_emit_23 (fun s4 hts4 hf => ?_)
    have hk_p0 := tk_ hts4 hk_p0
    refine v_aload_n (x := (some p0)) dX6_emit_24 rfl 1 rfl ?_
    refine v_dup dX6_emit_25 (va_rf_cat _) ?_
    refine v_geti cb_7 hk_p0 6 706 rfl (by decide) rfl (lk_n kw_83 rfl) hf dX6_emit_26 (fun x5 hf => ?_)
    refine v_iconst (v := 1) dX6_emit_29 (by decide) ?_
    refine v_iadd dX6_emit_30 ?_
    refine v_puti2 cb_7 hk_p0 6 706 rfl (by decide) rfl (lk_n kw_83 rfl) (Or.inl rfl) rfl rfl hf dX6_emit_31 (fun s6 hts6 hf => ?_)
    have hk_p0 := tk_ hts6 hk_p0
    refine v_sub [0] (L2 := [(3, .int x1)]) rfl ?_
    exact t_X6_emit_b34  hf
theorem dX6_closeComparison_0 : decode cX6_closeComparison 0 = .ok (.aload_n 0, 1) := by decide +kernel
theorem dX6_closeComparison_1 : decode cX6_closeComparison 1 = .ok (.getfield 45, 3) := by decide +kernel
theorem dX6_closeComparison_4 : decode cX6_closeComparison 4 = .ok (.bipush 10, 2) := by decide +kernel
theorem dX6_closeComparison_6 : decode cX6_closeComparison 6 = .ok (.if_icmp .ne 17, 3) := by decide +kernel
theorem dX6_closeComparison_9 : decode cX6_closeComparison 9 = .ok (.aload_n 0, 1) := by decide +kernel
theorem dX6_closeComparison_10 : decode cX6_closeComparison 10 = .ok (.bipush 6, 2) := by decide +kernel
theorem dX6_closeComparison_12 : decode cX6_closeComparison 12 = .ok (.iconst 0, 1) := by decide +kernel
theorem dX6_closeComparison_13 : decode cX6_closeComparison 13 = .ok (.invokevirtual 134, 3) := by decide +kernel
theorem dX6_closeComparison_16 : decode cX6_closeComparison 16 = .ok (.pop, 1) := by decide +kernel
theorem dX6_closeComparison_17 : decode cX6_closeComparison 17 = .ok (.aload_n 0, 1) := by decide +kernel
theorem dX6_closeComparison_18 : decode cX6_closeComparison 18 = .ok (.bipush 11, 2) := by decide +kernel
theorem dX6_closeComparison_20 : decode cX6_closeComparison 20 = .ok (.putfield 45, 3) := by decide +kernel
theorem dX6_closeComparison_23 : decode cX6_closeComparison 23 = .ok (.return_, 1) := by decide +kernel
def f_X6_closeComparison_b23 (σ : TH) : Option (Unit × TH) :=
  some ((), σ)
set_option maxHeartbeats 4000000 in
set_option maxRecDepth 100000 in
theorem t_X6_closeComparison_b23 {l : Launch} {D : va_G} {cy : Nat → ClassId} {ka : Nat → Nat} {σ0 z : TH} {r : Unit}  {σ : TH}  (hf : f_X6_closeComparison_b23 σ  = some (r, z)) : v_ l D cy ka cX6_closeComparison RX6 1 none "closeComparison" 1 23 (qf_ D cy σ0 z none) σ0 z σ 23 [] [] := by
  unfold f_X6_closeComparison_b23 at hf
  exact v_vret hf dX6_closeComparison_23
/-- LivesAhead$Reader.closeComparison()V -/
def f_X6_closeComparison (σ : TH) (p0 : Nat) : Option (Unit × TH) :=
  gt_ (kd_ σ p0 = 8) <| lt_ (fi_ σ 710 p0) fun x1 => if x1 = (10 : Int32) then (bd_ (f_X6_emit σ p0 (6 : Int32) (0 : Int32)) fun x2 s3 => lt_ (si_ s3 710 p0 (11 : Int32)) fun s4 => f_X6_closeComparison_b23 s4 ) else (f_X6_closeComparison_b23 σ )
set_option maxHeartbeats 4000000 in
set_option maxRecDepth 100000 in
theorem c_X6_closeComparison {l : Launch} {D : va_G} {cy : Nat → ClassId} {ka : Nat → Nat} {σ z : TH} {p0 : Nat} {r : Unit} (hf : f_X6_closeComparison σ p0 = some (r, z)) : ct_ l D cy ka yX6_closeComparison 1 23 [va_rf (some p0)] σ none z := by
  unfold f_X6_closeComparison at hf
  refine v_start (cc := cX6_closeComparison) (own := RX6) (maxL := 1) (ret := none) (nm := "closeComparison") (by decide +kernel) kw_802 rfl rfl (by simp [lg_sl, va_rf_cat, cat_i, cat_l]) ?_
  refine v_eqL (L2 := [(0, va_rf (some p0))]) (by simp [lv_args, va_rf_cat, cat_i, cat_l]) ?_
  refine v_aload_n (x := (some p0)) dX6_closeComparison_0 rfl 0 rfl ?_
  obtain ⟨hk_p0, hf⟩ := gt_of hf
  refine v_geti cb_7 hk_p0 10 710 rfl (by decide) rfl (lk_n kw_87 rfl) hf dX6_closeComparison_1 (fun x1 hf => ?_)
  refine v_bipush (v := 10) dX6_closeComparison_4 (by decide) ?_
  refine v_icmp_ne (tgt := 23) hf dX6_closeComparison_6 (by decide) (fun hq hf => ?_) (fun hq hf => ?_)
  · refine v_aload_n (x := (some p0)) dX6_closeComparison_9 rfl 0 rfl ?_
    refine v_bipush (v := 6) dX6_closeComparison_10 (by decide) ?_
    refine v_iconst (v := 0) dX6_closeComparison_12 (by decide) ?_
    obtain ⟨x2, s3, hcs3, hf⟩ := bd_of hf
    have hts3 := c_X6_emit (l := l) (D := D) (cy := cy) (ka := ka) hcs3
    refine v_callV cb_7 hk_p0 (As := [.int (6 : Int32), .int (0 : Int32)]) (rest := []) hts3 yb_X6_emit kw_688 kw_690 kp_23 rfl ⟨Nat.le_of_ble_eq_true rfl, Nat.le_of_ble_eq_true rfl⟩ rfl (cat_len (Nat.le_of_ble_eq_true rfl)) dX6_closeComparison_13 ?_
    have hk_p0 := tk_ hts3.1 hk_p0
    show v_ l D cy ka cX6_closeComparison RX6 1 none "closeComparison" 1 23 (qf_ D cy σ z none) σ z _ 16 [(0, va_rf (some p0))] [.int x2]
    refine v_pop dX6_closeComparison_16 rfl ?_
    refine v_aload_n (x := (some p0)) dX6_closeComparison_17 rfl 0 rfl ?_
    refine v_bipush (v := 11) dX6_closeComparison_18 (by decide) ?_
    refine v_puti2 cb_7 hk_p0 10 710 rfl (by decide) rfl (lk_n kw_87 rfl) (Or.inl rfl) rfl rfl hf dX6_closeComparison_20 (fun s4 hts4 hf => ?_)
    have hk_p0 := tk_ hts4 hk_p0
    refine v_sub [] (L2 := []) rfl ?_
    exact t_X6_closeComparison_b23  hf
  · refine v_sub [] (L2 := []) rfl ?_
    exact t_X6_closeComparison_b23  hf
theorem dX6_fail_0 : decode cX6_fail 0 = .ok (.aload_n 0, 1) := by decide +kernel
theorem dX6_fail_1 : decode cX6_fail 1 = .ok (.iload_n 1, 1) := by decide +kernel
theorem dX6_fail_2 : decode cX6_fail 2 = .ok (.putfield 19, 3) := by decide +kernel
theorem dX6_fail_5 : decode cX6_fail 5 = .ok (.aload_n 0, 1) := by decide +kernel
theorem dX6_fail_6 : decode cX6_fail 6 = .ok (.iload_n 2, 1) := by decide +kernel
theorem dX6_fail_7 : decode cX6_fail 7 = .ok (.putfield 22, 3) := by decide +kernel
theorem dX6_fail_10 : decode cX6_fail 10 = .ok (.return_, 1) := by decide +kernel
/-- LivesAhead$Reader.fail(II)V -/
def f_X6_fail (σ : TH) (p0 : Nat) (p1 : Int32) (p2 : Int32) : Option (Unit × TH) :=
  gt_ (kd_ σ p0 = 8) <| lt_ (si_ σ 702 p0 p1) fun s1 => lt_ (si_ s1 703 p0 p2) fun s2 => some ((), s2)
set_option maxHeartbeats 4000000 in
set_option maxRecDepth 100000 in
theorem c_X6_fail {l : Launch} {D : va_G} {cy : Nat → ClassId} {ka : Nat → Nat} {σ z : TH} {p0 : Nat} {p1 : Int32} {p2 : Int32} {r : Unit} (hf : f_X6_fail σ p0 p1 p2 = some (r, z)) : ct_ l D cy ka yX6_fail 0 0 [va_rf (some p0), .int p1, .int p2] σ none z := by
  unfold f_X6_fail at hf
  refine v_start (cc := cX6_fail) (own := RX6) (maxL := 3) (ret := none) (nm := "fail") (by decide +kernel) kw_679 rfl rfl (by simp [lg_sl, va_rf_cat, cat_i, cat_l]) ?_
  refine v_eqL (L2 := [(0, va_rf (some p0)), (1, .int p1), (2, .int p2)]) (by simp [lv_args, va_rf_cat, cat_i, cat_l]) ?_
  refine v_aload_n (x := (some p0)) dX6_fail_0 rfl 0 rfl ?_
  refine v_iload_n (x := p1) dX6_fail_1 rfl 1 rfl ?_
  obtain ⟨hk_p0, hf⟩ := gt_of hf
  refine v_puti2 cb_7 hk_p0 2 702 rfl (by decide) rfl (lk_n kw_77 rfl) (Or.inl rfl) rfl rfl hf dX6_fail_2 (fun s1 hts1 hf => ?_)
  have hk_p0 := tk_ hts1 hk_p0
  refine v_aload_n (x := (some p0)) dX6_fail_5 rfl 0 rfl ?_
  refine v_iload_n (x := p2) dX6_fail_6 rfl 2 rfl ?_
  refine v_puti2 cb_7 hk_p0 3 703 rfl (by decide) rfl (lk_n kw_79 rfl) (Or.inl rfl) rfl rfl hf dX6_fail_7 (fun s2 hts2 hf => ?_)
  have hk_p0 := tk_ hts2 hk_p0
  exact v_vret hf dX6_fail_10
theorem dX6_finish_0 : decode cX6_finish 0 = .ok (.aload_n 0, 1) := by decide +kernel
theorem dX6_finish_1 : decode cX6_finish 1 = .ok (.getfield 35, 3) := by decide +kernel
theorem dX6_finish_4 : decode cX6_finish 4 = .ok (.ifCond .eq 28, 3) := by decide +kernel
theorem dX6_finish_7 : decode cX6_finish 7 = .ok (.aload_n 0, 1) := by decide +kernel
theorem dX6_finish_8 : decode cX6_finish 8 = .ok (.invokevirtual 118, 3) := by decide +kernel
theorem dX6_finish_11 : decode cX6_finish 11 = .ok (.aload_n 0, 1) := by decide +kernel
theorem dX6_finish_12 : decode cX6_finish 12 = .ok (.getfield 45, 3) := by decide +kernel
theorem dX6_finish_15 : decode cX6_finish 15 = .ok (.bipush 11, 2) := by decide +kernel
theorem dX6_finish_17 : decode cX6_finish 17 = .ok (.if_icmp .eq 45, 3) := by decide +kernel
theorem dX6_finish_20 : decode cX6_finish 20 = .ok (.aload_n 0, 1) := by decide +kernel
theorem dX6_finish_21 : decode cX6_finish 21 = .ok (.iconst 1, 1) := by decide +kernel
theorem dX6_finish_22 : decode cX6_finish 22 = .ok (.aload_n 0, 1) := by decide +kernel
theorem dX6_finish_23 : decode cX6_finish 23 = .ok (.getfield 39, 3) := by decide +kernel
theorem dX6_finish_26 : decode cX6_finish 26 = .ok (.invokevirtual 121, 3) := by decide +kernel
theorem dX6_finish_29 : decode cX6_finish 29 = .ok (.goto 33, 3) := by decide +kernel
theorem dX6_finish_32 : decode cX6_finish 32 = .ok (.aload_n 0, 1) := by decide +kernel
theorem dX6_finish_33 : decode cX6_finish 33 = .ok (.getfield 45, 3) := by decide +kernel
theorem dX6_finish_36 : decode cX6_finish 36 = .ok (.ifCond .ne 17, 3) := by decide +kernel
theorem dX6_finish_39 : decode cX6_finish 39 = .ok (.aload_n 0, 1) := by decide +kernel
theorem dX6_finish_40 : decode cX6_finish 40 = .ok (.getfield 57, 3) := by decide +kernel
theorem dX6_finish_43 : decode cX6_finish 43 = .ok (.ifCond .gt 10, 3) := by decide +kernel
theorem dX6_finish_46 : decode cX6_finish 46 = .ok (.aload_n 0, 1) := by decide +kernel
theorem dX6_finish_47 : decode cX6_finish 47 = .ok (.getfield 51, 3) := by decide +kernel
theorem dX6_finish_50 : decode cX6_finish 50 = .ok (.ifCond .ne 12, 3) := by decide +kernel
theorem dX6_finish_53 : decode cX6_finish 53 = .ok (.aload_n 0, 1) := by decide +kernel
theorem dX6_finish_54 : decode cX6_finish 54 = .ok (.iconst 1, 1) := by decide +kernel
theorem dX6_finish_55 : decode cX6_finish 55 = .ok (.aload_n 0, 1) := by decide +kernel
theorem dX6_finish_56 : decode cX6_finish 56 = .ok (.getfield 39, 3) := by decide +kernel
theorem dX6_finish_59 : decode cX6_finish 59 = .ok (.invokevirtual 121, 3) := by decide +kernel
theorem dX6_finish_62 : decode cX6_finish 62 = .ok (.return_, 1) := by decide +kernel
def f_X6_finish_b62 (σ : TH) : Option (Unit × TH) :=
  some ((), σ)
set_option maxHeartbeats 4000000 in
set_option maxRecDepth 100000 in
theorem t_X6_finish_b62 {l : Launch} {D : va_G} {cy : Nat → ClassId} {ka : Nat → Nat} {σ0 z : TH} {r : Unit}  {σ : TH}  (hf : f_X6_finish_b62 σ  = some (r, z)) : v_ l D cy ka cX6_finish RX6 1 none "finish" 2 43 (qf_ D cy σ0 z none) σ0 z σ 62 [] [] := by
  unfold f_X6_finish_b62 at hf
  exact v_vret hf dX6_finish_62
def f_X6_finish_b53 (σ : TH) (l0 : Nat) : Option (Unit × TH) :=
  gt_ (kd_ σ l0 = 8) <| lt_ (fi_ σ 708 l0) fun x4 => bd_ (f_X6_fail σ l0 (1 : Int32) x4) fun x5 s6 => f_X6_finish_b62 s6 
set_option maxHeartbeats 4000000 in
set_option maxRecDepth 100000 in
theorem t_X6_finish_b53 {l : Launch} {D : va_G} {cy : Nat → ClassId} {ka : Nat → Nat} {σ0 z : TH} {r : Unit}  {σ : TH} {l0 : Nat} (hf : f_X6_finish_b53 σ l0 = some (r, z)) : v_ l D cy ka cX6_finish RX6 1 none "finish" 2 43 (qf_ D cy σ0 z none) σ0 z σ 53 [(0, va_rf (some l0))] [] := by
  unfold f_X6_finish_b53 at hf
  refine v_aload_n (x := (some l0)) dX6_finish_53 rfl 0 rfl ?_
  refine v_iconst (v := 1) dX6_finish_54 (by decide) ?_
  refine v_aload_n (x := (some l0)) dX6_finish_55 rfl 0 rfl ?_
  obtain ⟨hk_l0, hf⟩ := gt_of hf
  refine v_geti cb_7 hk_l0 8 708 rfl (by decide) rfl (lk_n kw_85 rfl) hf dX6_finish_56 (fun x4 hf => ?_)
  obtain ⟨x5, s6, hcs6, hf⟩ := bd_of hf
  have hts6 := c_X6_fail (l := l) (D := D) (cy := cy) (ka := ka) hcs6
  refine v_callV cb_7 hk_l0 (As := [.int (1 : Int32), .int x4]) (rest := []) hts6 yb_X6_fail kw_676 kw_678 kp_20 rfl ⟨Nat.le_of_ble_eq_true rfl, Nat.le_of_ble_eq_true rfl⟩ rfl (cat_len (Nat.le_of_ble_eq_true rfl)) dX6_finish_59 ?_
  have hk_l0 := tk_ hts6.1 hk_l0
  show v_ l D cy ka cX6_finish RX6 1 none "finish" 2 43 (qf_ D cy σ0 z none) σ0 z _ 62 [(0, va_rf (some l0))] []
  refine v_sub [] (L2 := []) rfl ?_
  exact t_X6_finish_b62  hf
/-- LivesAhead$Reader.finish()V -/
def f_X6_finish (σ : TH) (p0 : Nat) : Option (Unit × TH) :=
  gt_ (kd_ σ p0 = 8) <| lt_ (fi_ σ 707 p0) fun x1 => if x1 = 0 then (lt_ (fi_ σ 710 p0) fun x2 => if x2 = 0 then (lt_ (fi_ σ 714 p0) fun x3 => if 0 < x3 then (f_X6_finish_b53 σ p0) else (lt_ (fi_ σ 712 p0) fun x7 => if x7 = 0 then (f_X6_finish_b53 σ p0) else (f_X6_finish_b62 σ ))) else (f_X6_finish_b53 σ p0)) else (bd_ (f_X6_closeComparison σ p0) fun x8 s9 => lt_ (fi_ s9 710 p0) fun x10 => if x10 = (11 : Int32) then (f_X6_finish_b62 s9 ) else (lt_ (fi_ s9 708 p0) fun x11 => bd_ (f_X6_fail s9 p0 (1 : Int32) x11) fun x12 s13 => f_X6_finish_b62 s13 ))
set_option maxHeartbeats 4000000 in
set_option maxRecDepth 100000 in
theorem c_X6_finish {l : Launch} {D : va_G} {cy : Nat → ClassId} {ka : Nat → Nat} {σ z : TH} {p0 : Nat} {r : Unit} (hf : f_X6_finish σ p0 = some (r, z)) : ct_ l D cy ka yX6_finish 2 43 [va_rf (some p0)] σ none z := by
  unfold f_X6_finish at hf
  refine v_start (cc := cX6_finish) (own := RX6) (maxL := 1) (ret := none) (nm := "finish") (by decide +kernel) kw_850 rfl rfl (by simp [lg_sl, va_rf_cat, cat_i, cat_l]) ?_
  refine v_eqL (L2 := [(0, va_rf (some p0))]) (by simp [lv_args, va_rf_cat, cat_i, cat_l]) ?_
  refine v_aload_n (x := (some p0)) dX6_finish_0 rfl 0 rfl ?_
  obtain ⟨hk_p0, hf⟩ := gt_of hf
  refine v_geti cb_7 hk_p0 7 707 rfl (by decide) rfl (lk_n kw_84 rfl) hf dX6_finish_1 (fun x1 hf => ?_)
  refine v_if_eq (tgt := 32) hf dX6_finish_4 (by decide) (fun hq hf => ?_) (fun hq hf => ?_)
  · refine v_aload_n (x := (some p0)) dX6_finish_32 rfl 0 rfl ?_
    refine v_geti cb_7 hk_p0 10 710 rfl (by decide) rfl (lk_n kw_87 rfl) hf dX6_finish_33 (fun x2 hf => ?_)
    refine v_if_ne (tgt := 53) hf dX6_finish_36 (by decide) (fun hq hf => ?_) (fun hq hf => ?_)
    · refine v_aload_n (x := (some p0)) dX6_finish_39 rfl 0 rfl ?_
      refine v_geti cb_7 hk_p0 14 714 rfl (by decide) rfl (lk_n kw_91 rfl) hf dX6_finish_40 (fun x3 hf => ?_)
      refine v_if_gt (tgt := 53) hf dX6_finish_43 (by decide) (fun hq hf => ?_) (fun hq hf => ?_)
      · refine v_sub [0] (L2 := [(0, va_rf (some p0))]) rfl ?_
        exact t_X6_finish_b53  hf
      · refine v_aload_n (x := (some p0)) dX6_finish_46 rfl 0 rfl ?_
        refine v_geti cb_7 hk_p0 12 712 rfl (by decide) rfl (lk_n kw_89 rfl) hf dX6_finish_47 (fun x7 hf => ?_)
        refine v_if_ne (tgt := 62) hf dX6_finish_50 (by decide) (fun hq hf => ?_) (fun hq hf => ?_)
        · refine v_sub [0] (L2 := [(0, va_rf (some p0))]) rfl ?_
          exact t_X6_finish_b53  hf
        · refine v_sub [] (L2 := []) rfl ?_
          exact t_X6_finish_b62  hf
    · refine v_sub [0] (L2 := [(0, va_rf (some p0))]) rfl ?_
      exact t_X6_finish_b53  hf
  · refine v_aload_n (x := (some p0)) dX6_finish_7 rfl 0 rfl ?_
    obtain ⟨x8, s9, hcs9, hf⟩ := bd_of hf
    have hts9 := c_X6_closeComparison (l := l) (D := D) (cy := cy) (ka := ka) hcs9
    refine v_callV cb_7 hk_p0 (As := []) (rest := []) hts9 yb_X6_closeComparison kw_799 kw_801 kp_33 rfl ⟨Nat.le_of_ble_eq_true rfl, Nat.le_of_ble_eq_true rfl⟩ rfl (cat_len (Nat.le_of_ble_eq_true rfl)) dX6_finish_8 ?_
    have hk_p0 := tk_ hts9.1 hk_p0
    show v_ l D cy ka cX6_finish RX6 1 none "finish" 2 43 (qf_ D cy σ z none) σ z _ 11 [(0, va_rf (some p0))] []
    refine v_aload_n (x := (some p0)) dX6_finish_11 rfl 0 rfl ?_
    refine v_geti cb_7 hk_p0 10 710 rfl (by decide) rfl (lk_n kw_87 rfl) hf dX6_finish_12 (fun x10 hf => ?_)
    refine v_bipush (v := 11) dX6_finish_15 (by decide) ?_
    refine v_icmp_eq (tgt := 62) hf dX6_finish_17 (by decide) (fun hq hf => ?_) (fun hq hf => ?_)
    · refine v_sub [] (L2 := []) rfl ?_
      exact t_X6_finish_b62  hf
    · refine v_aload_n (x := (some p0)) dX6_finish_20 rfl 0 rfl ?_
      refine v_iconst (v := 1) dX6_finish_21 (by decide) ?_
      refine v_aload_n (x := (some p0)) dX6_finish_22 rfl 0 rfl ?_
      refine v_geti cb_7 hk_p0 8 708 rfl (by decide) rfl (lk_n kw_85 rfl) hf dX6_finish_23 (fun x11 hf => ?_)
      obtain ⟨x12, s13, hcs13, hf⟩ := bd_of hf
      have hts13 := c_X6_fail (l := l) (D := D) (cy := cy) (ka := ka) hcs13
      refine v_callV cb_7 hk_p0 (As := [.int (1 : Int32), .int x11]) (rest := []) hts13 yb_X6_fail kw_676 kw_678 kp_20 rfl ⟨Nat.le_of_ble_eq_true rfl, Nat.le_of_ble_eq_true rfl⟩ rfl (cat_len (Nat.le_of_ble_eq_true rfl)) dX6_finish_26 ?_
      have hk_p0 := tk_ hts13.1 hk_p0
      show v_ l D cy ka cX6_finish RX6 1 none "finish" 2 43 (qf_ D cy σ z none) σ z _ 29 [(0, va_rf (some p0))] []
      refine v_goto (tgt := 62) dX6_finish_29 (by decide) ?_
      refine v_sub [] (L2 := []) rfl ?_
      exact t_X6_finish_b62  hf
theorem dX6_isDigit_0 : decode cX6_isDigit 0 = .ok (.iload_n 0, 1) := by decide +kernel
theorem dX6_isDigit_1 : decode cX6_isDigit 1 = .ok (.bipush 48, 2) := by decide +kernel
theorem dX6_isDigit_3 : decode cX6_isDigit 3 = .ok (.if_icmp .lt 13, 3) := by decide +kernel
theorem dX6_isDigit_6 : decode cX6_isDigit 6 = .ok (.iload_n 0, 1) := by decide +kernel
theorem dX6_isDigit_7 : decode cX6_isDigit 7 = .ok (.bipush 57, 2) := by decide +kernel
theorem dX6_isDigit_9 : decode cX6_isDigit 9 = .ok (.if_icmp .gt 7, 3) := by decide +kernel
theorem dX6_isDigit_12 : decode cX6_isDigit 12 = .ok (.iconst 1, 1) := by decide +kernel
theorem dX6_isDigit_13 : decode cX6_isDigit 13 = .ok (.goto 4, 3) := by decide +kernel
theorem dX6_isDigit_16 : decode cX6_isDigit 16 = .ok (.iconst 0, 1) := by decide +kernel
theorem dX6_isDigit_17 : decode cX6_isDigit 17 = .ok (.ireturn, 1) := by decide +kernel
def f_X6_isDigit_b17 (σ : TH) (t0 : Int32) : Option (Int32 × TH) :=
  gt_ (t0 = 0 ∨ t0 = 1) <| some (t0, σ)
set_option maxHeartbeats 4000000 in
set_option maxRecDepth 100000 in
theorem t_X6_isDigit_b17 {l : Launch} {D : va_G} {cy : Nat → ClassId} {ka : Nat → Nat} {σ0 z : TH} {r : Int32}  {σ : TH} {t0 : Int32} (hf : f_X6_isDigit_b17 σ t0 = some (r, z)) : v_ l D cy ka cX6_isDigit RX6 1 (some FieldType.boolean) "isDigit" 0 0 (qf_ D cy σ0 z (some (.int r))) σ0 z σ 17 [] [.int t0] := by
  unfold f_X6_isDigit_b17 at hf
  obtain ⟨hb9, hf⟩ := gt_of hf
  exact v_zret hf (nz_ hb9) dX6_isDigit_17
def f_X6_isDigit_b16 (σ : TH) : Option (Int32 × TH) :=
  f_X6_isDigit_b17 σ (0 : Int32)
set_option maxHeartbeats 4000000 in
set_option maxRecDepth 100000 in
theorem t_X6_isDigit_b16 {l : Launch} {D : va_G} {cy : Nat → ClassId} {ka : Nat → Nat} {σ0 z : TH} {r : Int32}  {σ : TH}  (hf : f_X6_isDigit_b16 σ  = some (r, z)) : v_ l D cy ka cX6_isDigit RX6 1 (some FieldType.boolean) "isDigit" 0 0 (qf_ D cy σ0 z (some (.int r))) σ0 z σ 16 [] [] := by
  unfold f_X6_isDigit_b16 at hf
  refine v_iconst (v := 0) dX6_isDigit_16 (by decide) ?_
  refine v_sub [] (L2 := []) rfl ?_
  exact t_X6_isDigit_b17  hf
/-- LivesAhead$Reader.isDigit(I)Z -/
def f_X6_isDigit (σ : TH) (p0 : Int32) : Option (Int32 × TH) :=
  if p0 < (48 : Int32) then (f_X6_isDigit_b16 σ ) else (if (57 : Int32) < p0 then (f_X6_isDigit_b16 σ ) else (f_X6_isDigit_b17 σ (1 : Int32)))
set_option maxHeartbeats 4000000 in
set_option maxRecDepth 100000 in
theorem c_X6_isDigit {l : Launch} {D : va_G} {cy : Nat → ClassId} {ka : Nat → Nat} {σ z : TH} {p0 : Int32} {r : Int32} (hf : f_X6_isDigit σ p0 = some (r, z)) : ct_ l D cy ka yX6_isDigit 0 0 [.int p0] σ (some (.int r)) z := by
  unfold f_X6_isDigit at hf
  refine v_start (cc := cX6_isDigit) (own := RX6) (maxL := 1) (ret := (some FieldType.boolean)) (nm := "isDigit") (by decide +kernel) kw_709 rfl rfl (by simp [lg_sl, va_rf_cat, cat_i, cat_l]) ?_
  refine v_eqL (L2 := [(0, .int p0)]) (by simp [lv_args, va_rf_cat, cat_i, cat_l]) ?_
  refine v_iload_n (x := p0) dX6_isDigit_0 rfl 0 rfl ?_
  refine v_bipush (v := 48) dX6_isDigit_1 (by decide) ?_
  refine v_icmp_lt (tgt := 16) hf dX6_isDigit_3 (by decide) (fun hq hf => ?_) (fun hq hf => ?_)
  · refine v_sub [] (L2 := []) rfl ?_
    exact t_X6_isDigit_b16  hf
  · refine v_iload_n (x := p0) dX6_isDigit_6 rfl 0 rfl ?_
    refine v_bipush (v := 57) dX6_isDigit_7 (by decide) ?_
    refine v_icmp_gt (tgt := 16) hf dX6_isDigit_9 (by decide) (fun hq hf => ?_) (fun hq hf => ?_)
    · refine v_sub [] (L2 := []) rfl ?_
      exact t_X6_isDigit_b16  hf
    · refine v_iconst (v := 1) dX6_isDigit_12 (by decide) ?_
      refine v_goto (tgt := 17) dX6_isDigit_13 (by decide) ?_
      refine v_sub [] (L2 := []) rfl ?_
      exact t_X6_isDigit_b17  hf
theorem dX6_isLetter_0 : decode cX6_isLetter 0 = .ok (.iload_n 0, 1) := by decide +kernel
theorem dX6_isLetter_1 : decode cX6_isLetter 1 = .ok (.bipush 97, 2) := by decide +kernel
theorem dX6_isLetter_3 : decode cX6_isLetter 3 = .ok (.if_icmp .lt 13, 3) := by decide +kernel
theorem dX6_isLetter_6 : decode cX6_isLetter 6 = .ok (.iload_n 0, 1) := by decide +kernel
theorem dX6_isLetter_7 : decode cX6_isLetter 7 = .ok (.bipush 122, 2) := by decide +kernel
theorem dX6_isLetter_9 : decode cX6_isLetter 9 = .ok (.if_icmp .gt 7, 3) := by decide +kernel
theorem dX6_isLetter_12 : decode cX6_isLetter 12 = .ok (.iconst 1, 1) := by decide +kernel
theorem dX6_isLetter_13 : decode cX6_isLetter 13 = .ok (.goto 4, 3) := by decide +kernel
theorem dX6_isLetter_16 : decode cX6_isLetter 16 = .ok (.iconst 0, 1) := by decide +kernel
theorem dX6_isLetter_17 : decode cX6_isLetter 17 = .ok (.ireturn, 1) := by decide +kernel
def f_X6_isLetter_b17 (σ : TH) (t0 : Int32) : Option (Int32 × TH) :=
  gt_ (t0 = 0 ∨ t0 = 1) <| some (t0, σ)
set_option maxHeartbeats 4000000 in
set_option maxRecDepth 100000 in
theorem t_X6_isLetter_b17 {l : Launch} {D : va_G} {cy : Nat → ClassId} {ka : Nat → Nat} {σ0 z : TH} {r : Int32}  {σ : TH} {t0 : Int32} (hf : f_X6_isLetter_b17 σ t0 = some (r, z)) : v_ l D cy ka cX6_isLetter RX6 1 (some FieldType.boolean) "isLetter" 0 0 (qf_ D cy σ0 z (some (.int r))) σ0 z σ 17 [] [.int t0] := by
  unfold f_X6_isLetter_b17 at hf
  obtain ⟨hb9, hf⟩ := gt_of hf
  exact v_zret hf (nz_ hb9) dX6_isLetter_17
def f_X6_isLetter_b16 (σ : TH) : Option (Int32 × TH) :=
  f_X6_isLetter_b17 σ (0 : Int32)
set_option maxHeartbeats 4000000 in
set_option maxRecDepth 100000 in
theorem t_X6_isLetter_b16 {l : Launch} {D : va_G} {cy : Nat → ClassId} {ka : Nat → Nat} {σ0 z : TH} {r : Int32}  {σ : TH}  (hf : f_X6_isLetter_b16 σ  = some (r, z)) : v_ l D cy ka cX6_isLetter RX6 1 (some FieldType.boolean) "isLetter" 0 0 (qf_ D cy σ0 z (some (.int r))) σ0 z σ 16 [] [] := by
  unfold f_X6_isLetter_b16 at hf
  refine v_iconst (v := 0) dX6_isLetter_16 (by decide) ?_
  refine v_sub [] (L2 := []) rfl ?_
  exact t_X6_isLetter_b17  hf
/-- LivesAhead$Reader.isLetter(I)Z -/
def f_X6_isLetter (σ : TH) (p0 : Int32) : Option (Int32 × TH) :=
  if p0 < (97 : Int32) then (f_X6_isLetter_b16 σ ) else (if (122 : Int32) < p0 then (f_X6_isLetter_b16 σ ) else (f_X6_isLetter_b17 σ (1 : Int32)))
set_option maxHeartbeats 4000000 in
set_option maxRecDepth 100000 in
theorem c_X6_isLetter {l : Launch} {D : va_G} {cy : Nat → ClassId} {ka : Nat → Nat} {σ z : TH} {p0 : Int32} {r : Int32} (hf : f_X6_isLetter σ p0 = some (r, z)) : ct_ l D cy ka yX6_isLetter 0 0 [.int p0] σ (some (.int r)) z := by
  unfold f_X6_isLetter at hf
  refine v_start (cc := cX6_isLetter) (own := RX6) (maxL := 1) (ret := (some FieldType.boolean)) (nm := "isLetter") (by decide +kernel) kw_702 rfl rfl (by simp [lg_sl, va_rf_cat, cat_i, cat_l]) ?_
  refine v_eqL (L2 := [(0, .int p0)]) (by simp [lv_args, va_rf_cat, cat_i, cat_l]) ?_
  refine v_iload_n (x := p0) dX6_isLetter_0 rfl 0 rfl ?_
  refine v_bipush (v := 97) dX6_isLetter_1 (by decide) ?_
  refine v_icmp_lt (tgt := 16) hf dX6_isLetter_3 (by decide) (fun hq hf => ?_) (fun hq hf => ?_)
  · refine v_sub [] (L2 := []) rfl ?_
    exact t_X6_isLetter_b16  hf
  · refine v_iload_n (x := p0) dX6_isLetter_6 rfl 0 rfl ?_
    refine v_bipush (v := 122) dX6_isLetter_7 (by decide) ?_
    refine v_icmp_gt (tgt := 16) hf dX6_isLetter_9 (by decide) (fun hq hf => ?_) (fun hq hf => ?_)
    · refine v_sub [] (L2 := []) rfl ?_
      exact t_X6_isLetter_b16  hf
    · refine v_iconst (v := 1) dX6_isLetter_12 (by decide) ?_
      refine v_goto (tgt := 17) dX6_isLetter_13 (by decide) ?_
      refine v_sub [] (L2 := []) rfl ?_
      exact t_X6_isLetter_b17  hf
theorem dX6_beginPiece_0 : decode cX6_beginPiece 0 = .ok (.aload_n 0, 1) := by decide +kernel
theorem dX6_beginPiece_1 : decode cX6_beginPiece 1 = .ok (.iload_n 1, 1) := by decide +kernel
theorem dX6_beginPiece_2 : decode cX6_beginPiece 2 = .ok (.putfield 51, 3) := by decide +kernel
theorem dX6_beginPiece_5 : decode cX6_beginPiece 5 = .ok (.aload_n 0, 1) := by decide +kernel
theorem dX6_beginPiece_6 : decode cX6_beginPiece 6 = .ok (.dup, 1) := by decide +kernel
theorem dX6_beginPiece_7 : decode cX6_beginPiece 7 = .ok (.getfield 63, 3) := by decide +kernel
theorem dX6_beginPiece_10 : decode cX6_beginPiece 10 = .ok (.iconst 1, 1) := by decide +kernel
theorem dX6_beginPiece_11 : decode cX6_beginPiece 11 = .ok (.iadd, 1) := by decide +kernel
theorem dX6_beginPiece_12 : decode cX6_beginPiece 12 = .ok (.putfield 63, 3) := by decide +kernel
theorem dX6_beginPiece_15 : decode cX6_beginPiece 15 = .ok (.aload_n 0, 1) := by decide +kernel
theorem dX6_beginPiece_16 : decode cX6_beginPiece 16 = .ok (.getfield 63, 3) := by decide +kernel
theorem dX6_beginPiece_19 : decode cX6_beginPiece 19 = .ok (.bipush 60, 2) := by decide +kernel
theorem dX6_beginPiece_21 : decode cX6_beginPiece 21 = .ok (.if_icmp .le 12, 3) := by decide +kernel
theorem dX6_beginPiece_24 : decode cX6_beginPiece 24 = .ok (.aload_n 0, 1) := by decide +kernel
theorem dX6_beginPiece_25 : decode cX6_beginPiece 25 = .ok (.iconst 3, 1) := by decide +kernel
theorem dX6_beginPiece_26 : decode cX6_beginPiece 26 = .ok (.aload_n 0, 1) := by decide +kernel
theorem dX6_beginPiece_27 : decode cX6_beginPiece 27 = .ok (.getfield 42, 3) := by decide +kernel
theorem dX6_beginPiece_30 : decode cX6_beginPiece 30 = .ok (.invokevirtual 121, 3) := by decide +kernel
theorem dX6_beginPiece_33 : decode cX6_beginPiece 33 = .ok (.return_, 1) := by decide +kernel
def f_X6_beginPiece_b33 (σ : TH) : Option (Unit × TH) :=
  some ((), σ)
set_option maxHeartbeats 4000000 in
set_option maxRecDepth 100000 in
theorem t_X6_beginPiece_b33 {l : Launch} {D : va_G} {cy : Nat → ClassId} {ka : Nat → Nat} {σ0 z : TH} {r : Unit}  {σ : TH}  (hf : f_X6_beginPiece_b33 σ  = some (r, z)) : v_ l D cy ka cX6_beginPiece RX6 2 none "beginPiece" 1 22 (qf_ D cy σ0 z none) σ0 z σ 33 [] [] := by
  unfold f_X6_beginPiece_b33 at hf
  exact v_vret hf dX6_beginPiece_33
/-- LivesAhead$Reader.beginPiece(I)V -/
def f_X6_beginPiece (σ : TH) (p0 : Nat) (p1 : Int32) : Option (Unit × TH) :=
  gt_ (kd_ σ p0 = 8) <| lt_ (si_ σ 712 p0 p1) fun s1 => lt_ (fi_ s1 716 p0) fun x2 => lt_ (si_ s1 716 p0 (x2 + (1 : Int32))) fun s3 => lt_ (fi_ s3 716 p0) fun x4 => if x4 ≤ (60 : Int32) then (f_X6_beginPiece_b33 s3 ) else (lt_ (fi_ s3 709 p0) fun x5 => bd_ (f_X6_fail s3 p0 (3 : Int32) x5) fun x6 s7 => f_X6_beginPiece_b33 s7 )
set_option maxHeartbeats 4000000 in
set_option maxRecDepth 100000 in
theorem c_X6_beginPiece {l : Launch} {D : va_G} {cy : Nat → ClassId} {ka : Nat → Nat} {σ z : TH} {p0 : Nat} {p1 : Int32} {r : Unit} (hf : f_X6_beginPiece σ p0 p1 = some (r, z)) : ct_ l D cy ka yX6_beginPiece 1 22 [va_rf (some p0), .int p1] σ none z := by
  unfold f_X6_beginPiece at hf
  refine v_start (cc := cX6_beginPiece) (own := RX6) (maxL := 2) (ret := none) (nm := "beginPiece") (by decide +kernel) kw_683 rfl rfl (by simp [lg_sl, va_rf_cat, cat_i, cat_l]) ?_
  refine v_eqL (L2 := [(0, va_rf (some p0)), (1, .int p1)]) (by simp [lv_args, va_rf_cat, cat_i, cat_l]) ?_
  refine v_aload_n (x := (some p0)) dX6_beginPiece_0 rfl 0 rfl ?_
  refine v_iload_n (x := p1) dX6_beginPiece_1 rfl 1 rfl ?_
  obtain ⟨hk_p0, hf⟩ := gt_of hf
  refine v_puti2 cb_7 hk_p0 12 712 rfl (by decide) rfl (lk_n kw_89 rfl) (Or.inl rfl) rfl rfl hf dX6_beginPiece_2 (fun s1 hts1 hf => ?_)
  have hk_p0 := tk_ hts1 hk_p0
  refine v_aload_n (x := (some p0)) dX6_beginPiece_5 rfl 0 rfl ?_
  refine v_dup dX6_beginPiece_6 (va_rf_cat _) ?_
  refine v_geti cb_7 hk_p0 16 716 rfl (by decide) rfl (lk_n kw_93 rfl) hf dX6_beginPiece_7 (fun x2 hf => ?_)
  refine v_iconst (v := 1) dX6_beginPiece_10 (by decide) ?_
  refine v_iadd dX6_beginPiece_11 ?_
  refine v_puti2 cb_7 hk_p0 16 716 rfl (by decide) rfl (lk_n kw_93 rfl) (Or.inl rfl) rfl rfl hf dX6_beginPiece_12 (fun s3 hts3 hf => ?_)
  have hk_p0 := tk_ hts3 hk_p0
  refine v_aload_n (x := (some p0)) dX6_beginPiece_15 rfl 0 rfl ?_
  refine v_geti cb_7 hk_p0 16 716 rfl (by decide) rfl (lk_n kw_93 rfl) hf dX6_beginPiece_16 (fun x4 hf => ?_)
  refine v_bipush (v := 60) dX6_beginPiece_19 (by decide) ?_
  refine v_icmp_le (tgt := 33) hf dX6_beginPiece_21 (by decide) (fun hq hf => ?_) (fun hq hf => ?_)
  · refine v_sub [] (L2 := []) rfl ?_
    exact t_X6_beginPiece_b33  hf
  · refine v_aload_n (x := (some p0)) dX6_beginPiece_24 rfl 0 rfl ?_
    refine v_iconst (v := 3) dX6_beginPiece_25 (by decide) ?_
    refine v_aload_n (x := (some p0)) dX6_beginPiece_26 rfl 0 rfl ?_
    refine v_geti cb_7 hk_p0 9 709 rfl (by decide) rfl (lk_n kw_86 rfl) hf dX6_beginPiece_27 (fun x5 hf => ?_)
    obtain ⟨x6, s7, hcs7, hf⟩ := bd_of hf
    have hts7 := c_X6_fail (l := l) (D := D) (cy := cy) (ka := ka) hcs7
    refine v_callV cb_7 hk_p0 (As := [.int (3 : Int32), .int x5]) (rest := []) hts7 yb_X6_fail kw_676 kw_678 kp_20 rfl ⟨Nat.le_of_ble_eq_true rfl, Nat.le_of_ble_eq_true rfl⟩ rfl (cat_len (Nat.le_of_ble_eq_true rfl)) dX6_beginPiece_30 ?_
    have hk_p0 := tk_ hts7.1 hk_p0
    show v_ l D cy ka cX6_beginPiece RX6 2 none "beginPiece" 1 22 (qf_ D cy σ z none) σ z _ 33 [(0, va_rf (some p0)), (1, .int p1)] []
    refine v_sub [] (L2 := []) rfl ?_
    exact t_X6_beginPiece_b33  hf
theorem dX6_aimSkip_0 : decode cX6_aimSkip 0 = .ok (.iload_n 1, 1) := by decide +kernel
theorem dX6_aimSkip_1 : decode cX6_aimSkip 1 = .ok (.ifCond .lt 39, 3) := by decide +kernel
theorem dX6_aimSkip_4 : decode cX6_aimSkip 4 = .ok (.iload_n 1, 1) := by decide +kernel
theorem dX6_aimSkip_5 : decode cX6_aimSkip 5 = .ok (.iconst 5, 1) := by decide +kernel
theorem dX6_aimSkip_6 : decode cX6_aimSkip 6 = .ok (.if_icmp .ge 34, 3) := by decide +kernel
theorem dX6_aimSkip_9 : decode cX6_aimSkip 9 = .ok (.aload_n 0, 1) := by decide +kernel
theorem dX6_aimSkip_10 : decode cX6_aimSkip 10 = .ok (.getfield 29, 3) := by decide +kernel
theorem dX6_aimSkip_13 : decode cX6_aimSkip 13 = .ok (.iload_n 1, 1) := by decide +kernel
theorem dX6_aimSkip_14 : decode cX6_aimSkip 14 = .ok (.iaload, 1) := by decide +kernel
theorem dX6_aimSkip_15 : decode cX6_aimSkip 15 = .ok (.istore_n 2, 1) := by decide +kernel
theorem dX6_aimSkip_16 : decode cX6_aimSkip 16 = .ok (.iload_n 2, 1) := by decide +kernel
theorem dX6_aimSkip_17 : decode cX6_aimSkip 17 = .ok (.ifCond .lt 23, 3) := by decide +kernel
theorem dX6_aimSkip_20 : decode cX6_aimSkip 20 = .ok (.iload_n 2, 1) := by decide +kernel
theorem dX6_aimSkip_21 : decode cX6_aimSkip 21 = .ok (.sipush 1024, 3) := by decide +kernel
theorem dX6_aimSkip_24 : decode cX6_aimSkip 24 = .ok (.if_icmp .ge 16, 3) := by decide +kernel
theorem dX6_aimSkip_27 : decode cX6_aimSkip 27 = .ok (.aload_n 0, 1) := by decide +kernel
theorem dX6_aimSkip_28 : decode cX6_aimSkip 28 = .ok (.getfield 25, 3) := by decide +kernel
theorem dX6_aimSkip_31 : decode cX6_aimSkip 31 = .ok (.iload_n 2, 1) := by decide +kernel
theorem dX6_aimSkip_32 : decode cX6_aimSkip 32 = .ok (.dup2, 1) := by decide +kernel
theorem dX6_aimSkip_33 : decode cX6_aimSkip 33 = .ok (.iaload, 1) := by decide +kernel
theorem dX6_aimSkip_34 : decode cX6_aimSkip 34 = .ok (.aload_n 0, 1) := by decide +kernel
theorem dX6_aimSkip_35 : decode cX6_aimSkip 35 = .ok (.getfield 32, 3) := by decide +kernel
theorem dX6_aimSkip_38 : decode cX6_aimSkip 38 = .ok (.ior, 1) := by decide +kernel
theorem dX6_aimSkip_39 : decode cX6_aimSkip 39 = .ok (.iastore, 1) := by decide +kernel
theorem dX6_aimSkip_40 : decode cX6_aimSkip 40 = .ok (.return_, 1) := by decide +kernel
def f_X6_aimSkip_b40 (σ : TH) : Option (Unit × TH) :=
  some ((), σ)
set_option maxHeartbeats 4000000 in
set_option maxRecDepth 100000 in
theorem t_X6_aimSkip_b40 {l : Launch} {D : va_G} {cy : Nat → ClassId} {ka : Nat → Nat} {σ0 z : TH} {r : Unit}  {σ : TH}  (hf : f_X6_aimSkip_b40 σ  = some (r, z)) : v_ l D cy ka cX6_aimSkip RX6 3 none "aimSkip" 0 0 (qf_ D cy σ0 z none) σ0 z σ 40 [] [] := by
  unfold f_X6_aimSkip_b40 at hf
  exact v_vret hf dX6_aimSkip_40
/-- LivesAhead$Reader.aimSkip(I)V -/
def f_X6_aimSkip (σ : TH) (p0 : Nat) (p1 : Int32) : Option (Unit × TH) :=
  if p1 < 0 then (f_X6_aimSkip_b40 σ ) else (if (5 : Int32) ≤ p1 then (f_X6_aimSkip_b40 σ ) else (gt_ (kd_ σ p0 = 8) <| lt_ (fr_ σ 705 p0) fun r1 => nn_ r1 fun a2 => gt_ (kd_ σ a2 = 20) <| gt_ (¬ (p1 < 0 ∨ ln_ σ a2 ≤ p1.toNatClampNeg)) <| lt_ (ai_ σ a2 p1.toNatClampNeg) fun x3 => if x3 < 0 then (f_X6_aimSkip_b40 σ ) else (if (1024 : Int32) ≤ x3 then (f_X6_aimSkip_b40 σ ) else (lt_ (fr_ σ 704 p0) fun r4 => nn_ r4 fun a5 => gt_ (kd_ σ a5 = 20) <| gt_ (¬ (x3 < 0 ∨ ln_ σ a5 ≤ x3.toNatClampNeg)) <| lt_ (ai_ σ a5 x3.toNatClampNeg) fun x6 => lt_ (fi_ σ 706 p0) fun x7 => gt_ (¬ (x3 < 0 ∨ ln_ σ a5 ≤ x3.toNatClampNeg)) <| lt_ (sa_ σ a5 x3.toNatClampNeg (x6 ||| x7)) fun s8 => f_X6_aimSkip_b40 s8 ))))
set_option maxHeartbeats 4000000 in
set_option maxRecDepth 100000 in
theorem c_X6_aimSkip {l : Launch} {D : va_G} {cy : Nat → ClassId} {ka : Nat → Nat} {σ z : TH} {p0 : Nat} {p1 : Int32} {r : Unit} (hf : f_X6_aimSkip σ p0 p1 = some (r, z)) : ct_ l D cy ka yX6_aimSkip 0 0 [va_rf (some p0), .int p1] σ none z := by
  unfold f_X6_aimSkip at hf
  refine v_start (cc := cX6_aimSkip) (own := RX6) (maxL := 3) (ret := none) (nm := "aimSkip") (by decide +kernel) kw_695 rfl rfl (by simp [lg_sl, va_rf_cat, cat_i, cat_l]) ?_
  refine v_eqL (L2 := [(0, va_rf (some p0)), (1, .int p1)]) (by simp [lv_args, va_rf_cat, cat_i, cat_l]) ?_
  refine v_iload_n (x := p1) dX6_aimSkip_0 rfl 1 rfl ?_
  refine v_if_lt (tgt := 40) hf dX6_aimSkip_1 (by decide) (fun hq hf => ?_) (fun hq hf => ?_)
  · refine v_sub [] (L2 := []) rfl ?_
    exact t_X6_aimSkip_b40  hf
  · refine v_iload_n (x := p1) dX6_aimSkip_4 rfl 1 rfl ?_
    refine v_iconst (v := 5) dX6_aimSkip_5 (by decide) ?_
    refine v_icmp_ge (tgt := 40) hf dX6_aimSkip_6 (by decide) (fun hq hf => ?_) (fun hq hf => ?_)
    · refine v_sub [] (L2 := []) rfl ?_
      exact t_X6_aimSkip_b40  hf
    · refine v_aload_n (x := (some p0)) dX6_aimSkip_9 rfl 0 rfl ?_
      obtain ⟨hk_p0, hf⟩ := gt_of hf
      refine v_getr cb_7 hk_p0 5 705 rfl (by decide) rfl (lk_n kw_82 rfl) hf dX6_aimSkip_10 (fun r1 hf => ?_)
      refine v_iload_n (x := p1) dX6_aimSkip_13 rfl 1 rfl ?_
      obtain ⟨a2, rfl, hf⟩ := nn_of hf
      obtain ⟨hk_a2, hf⟩ := gt_of hf
      refine v_iald hk_a2 hf dX6_aimSkip_14 (fun x3 hf => ?_)
      refine v_istore_n [(2, .int x3), (0, va_rf (some p0)), (1, .int p1)] dX6_aimSkip_15 rfl (by decide) rfl ?_
      refine v_iload_n (x := x3) dX6_aimSkip_16 rfl 0 rfl ?_
      refine v_if_lt (tgt := 40) hf dX6_aimSkip_17 (by decide) (fun hq hf => ?_) (fun hq hf => ?_)
      · refine v_sub [] (L2 := []) rfl ?_
        exact t_X6_aimSkip_b40  hf
      · refine v_iload_n (x := x3) dX6_aimSkip_20 rfl 0 rfl ?_
        refine v_sipush (v := 1024) dX6_aimSkip_21 (by decide) ?_
        refine v_icmp_ge (tgt := 40) hf dX6_aimSkip_24 (by decide) (fun hq hf => ?_) (fun hq hf => ?_)
        · refine v_sub [] (L2 := []) rfl ?_
          exact t_X6_aimSkip_b40  hf
        · refine v_aload_n (x := (some p0)) dX6_aimSkip_27 rfl 1 rfl ?_
          refine v_getr cb_7 hk_p0 4 704 rfl (by decide) rfl (lk_n kw_81 rfl) hf dX6_aimSkip_28 (fun r4 hf => ?_)
          refine v_iload_n (x := x3) dX6_aimSkip_31 rfl 0 rfl ?_
          refine v_dup2 dX6_aimSkip_32 rfl (va_rf_cat _) ?_
          obtain ⟨a5, rfl, hf⟩ := nn_of hf
          obtain ⟨hk_a5, hf⟩ := gt_of hf
          refine v_iald hk_a5 hf dX6_aimSkip_33 (fun x6 hf => ?_)
          refine v_aload_n (x := (some p0)) dX6_aimSkip_34 rfl 1 rfl ?_
          refine v_geti cb_7 hk_p0 6 706 rfl (by decide) rfl (lk_n kw_83 rfl) hf dX6_aimSkip_35 (fun x7 hf => ?_)
          refine v_ior dX6_aimSkip_38 ?_
          refine v_iast2 hk_a5 hf dX6_aimSkip_39 (fun s8 hts8 hf => ?_)
          have hk_p0 := tk_ hts8 hk_p0
          refine v_sub [] (L2 := []) rfl ?_
          exact t_X6_aimSkip_b40  hf
theorem dX6_closeIf_0 : decode cX6_closeIf 0 = .ok (.aload_n 0, 1) := by decide +kernel
theorem dX6_closeIf_1 : decode cX6_closeIf 1 = .ok (.getfield 57, 3) := by decide +kernel
theorem dX6_closeIf_4 : decode cX6_closeIf 4 = .ok (.ifCond .eq 10, 3) := by decide +kernel
theorem dX6_closeIf_7 : decode cX6_closeIf 7 = .ok (.aload_n 0, 1) := by decide +kernel
theorem dX6_closeIf_8 : decode cX6_closeIf 8 = .ok (.getfield 51, 3) := by decide +kernel
theorem dX6_closeIf_11 : decode cX6_closeIf 11 = .ok (.ifCond .ne 13, 3) := by decide +kernel
theorem dX6_closeIf_14 : decode cX6_closeIf 14 = .ok (.aload_n 0, 1) := by decide +kernel
theorem dX6_closeIf_15 : decode cX6_closeIf 15 = .ok (.iconst 1, 1) := by decide +kernel
theorem dX6_closeIf_16 : decode cX6_closeIf 16 = .ok (.aload_n 0, 1) := by decide +kernel
theorem dX6_closeIf_17 : decode cX6_closeIf 17 = .ok (.getfield 42, 3) := by decide +kernel
theorem dX6_closeIf_20 : decode cX6_closeIf 20 = .ok (.invokevirtual 121, 3) := by decide +kernel
theorem dX6_closeIf_23 : decode cX6_closeIf 23 = .ok (.return_, 1) := by decide +kernel
theorem dX6_closeIf_24 : decode cX6_closeIf 24 = .ok (.aload_n 0, 1) := by decide +kernel
theorem dX6_closeIf_25 : decode cX6_closeIf 25 = .ok (.dup, 1) := by decide +kernel
theorem dX6_closeIf_26 : decode cX6_closeIf 26 = .ok (.getfield 57, 3) := by decide +kernel
theorem dX6_closeIf_29 : decode cX6_closeIf 29 = .ok (.iconst 1, 1) := by decide +kernel
theorem dX6_closeIf_30 : decode cX6_closeIf 30 = .ok (.isub, 1) := by decide +kernel
theorem dX6_closeIf_31 : decode cX6_closeIf 31 = .ok (.putfield 57, 3) := by decide +kernel
theorem dX6_closeIf_34 : decode cX6_closeIf 34 = .ok (.aload_n 0, 1) := by decide +kernel
theorem dX6_closeIf_35 : decode cX6_closeIf 35 = .ok (.aload_n 0, 1) := by decide +kernel
theorem dX6_closeIf_36 : decode cX6_closeIf 36 = .ok (.getfield 57, 3) := by decide +kernel
theorem dX6_closeIf_39 : decode cX6_closeIf 39 = .ok (.invokevirtual 138, 3) := by decide +kernel
theorem dX6_closeIf_42 : decode cX6_closeIf 42 = .ok (.aload_n 0, 1) := by decide +kernel
theorem dX6_closeIf_43 : decode cX6_closeIf 43 = .ok (.dup, 1) := by decide +kernel
theorem dX6_closeIf_44 : decode cX6_closeIf 44 = .ok (.getfield 60, 3) := by decide +kernel
theorem dX6_closeIf_47 : decode cX6_closeIf 47 = .ok (.iconst 1, 1) := by decide +kernel
theorem dX6_closeIf_48 : decode cX6_closeIf 48 = .ok (.aload_n 0, 1) := by decide +kernel
theorem dX6_closeIf_49 : decode cX6_closeIf 49 = .ok (.getfield 57, 3) := by decide +kernel
theorem dX6_closeIf_52 : decode cX6_closeIf 52 = .ok (.ishl, 1) := by decide +kernel
theorem dX6_closeIf_53 : decode cX6_closeIf 53 = .ok (.iconst (-1), 1) := by decide +kernel
theorem dX6_closeIf_54 : decode cX6_closeIf 54 = .ok (.ixor, 1) := by decide +kernel
theorem dX6_closeIf_55 : decode cX6_closeIf 55 = .ok (.iand, 1) := by decide +kernel
theorem dX6_closeIf_56 : decode cX6_closeIf 56 = .ok (.putfield 60, 3) := by decide +kernel
theorem dX6_closeIf_59 : decode cX6_closeIf 59 = .ok (.aload_n 0, 1) := by decide +kernel
theorem dX6_closeIf_60 : decode cX6_closeIf 60 = .ok (.iconst 2, 1) := by decide +kernel
theorem dX6_closeIf_61 : decode cX6_closeIf 61 = .ok (.putfield 51, 3) := by decide +kernel
theorem dX6_closeIf_64 : decode cX6_closeIf 64 = .ok (.return_, 1) := by decide +kernel
def f_X6_closeIf_b14 (σ : TH) (l0 : Nat) : Option (Unit × TH) :=
  gt_ (kd_ σ l0 = 8) <| lt_ (fi_ σ 709 l0) fun x2 => bd_ (f_X6_fail σ l0 (1 : Int32) x2) fun x3 s4 => some ((), s4)
set_option maxHeartbeats 4000000 in
set_option maxRecDepth 100000 in
theorem t_X6_closeIf_b14 {l : Launch} {D : va_G} {cy : Nat → ClassId} {ka : Nat → Nat} {σ0 z : TH} {r : Unit}  {σ : TH} {l0 : Nat} (hf : f_X6_closeIf_b14 σ l0 = some (r, z)) : v_ l D cy ka cX6_closeIf RX6 1 none "closeIf" 1 22 (qf_ D cy σ0 z none) σ0 z σ 14 [(0, va_rf (some l0))] [] := by
  unfold f_X6_closeIf_b14 at hf
  refine v_aload_n (x := (some l0)) dX6_closeIf_14 rfl 0 rfl ?_
  refine v_iconst (v := 1) dX6_closeIf_15 (by decide) ?_
  refine v_aload_n (x := (some l0)) dX6_closeIf_16 rfl 0 rfl ?_
  obtain ⟨hk_l0, hf⟩ := gt_of hf
  refine v_geti cb_7 hk_l0 9 709 rfl (by decide) rfl (lk_n kw_86 rfl) hf dX6_closeIf_17 (fun x2 hf => ?_)
  obtain ⟨x3, s4, hcs4, hf⟩ := bd_of hf
  have hts4 := c_X6_fail (l := l) (D := D) (cy := cy) (ka := ka) hcs4
  refine v_callV cb_7 hk_l0 (As := [.int (1 : Int32), .int x2]) (rest := []) hts4 yb_X6_fail kw_676 kw_678 kp_20 rfl ⟨Nat.le_of_ble_eq_true rfl, Nat.le_of_ble_eq_true rfl⟩ rfl (cat_len (Nat.le_of_ble_eq_true rfl)) dX6_closeIf_20 ?_
  have hk_l0 := tk_ hts4.1 hk_l0
  show v_ l D cy ka cX6_closeIf RX6 1 none "closeIf" 1 22 (qf_ D cy σ0 z none) σ0 z _ 23 [(0, va_rf (some l0))] []
  exact v_vret hf dX6_closeIf_23
/-- LivesAhead$Reader.closeIf()V -/
def f_X6_closeIf (σ : TH) (p0 : Nat) : Option (Unit × TH) :=
  gt_ (kd_ σ p0 = 8) <| lt_ (fi_ σ 714 p0) fun x1 => if x1 = 0 then (f_X6_closeIf_b14 σ p0) else (lt_ (fi_ σ 712 p0) fun x5 => if x5 = 0 then (f_X6_closeIf_b14 σ p0) else (lt_ (fi_ σ 714 p0) fun x6 => lt_ (si_ σ 714 p0 (x6 - (1 : Int32))) fun s7 => lt_ (fi_ s7 714 p0) fun x8 => bd_ (f_X6_aimSkip s7 p0 x8) fun x9 s10 => lt_ (fi_ s10 715 p0) fun x11 => lt_ (fi_ s10 714 p0) fun x12 => lt_ (si_ s10 715 p0 (x11 &&& (((1 : Int32) <<< (x12 &&& 31)) ^^^ (-1 : Int32)))) fun s13 => lt_ (si_ s13 712 p0 (2 : Int32)) fun s14 => some ((), s14)))
set_option maxHeartbeats 4000000 in
set_option maxRecDepth 100000 in
theorem c_X6_closeIf {l : Launch} {D : va_G} {cy : Nat → ClassId} {ka : Nat → Nat} {σ z : TH} {p0 : Nat} {r : Unit} (hf : f_X6_closeIf σ p0 = some (r, z)) : ct_ l D cy ka yX6_closeIf 1 22 [va_rf (some p0)] σ none z := by
  unfold f_X6_closeIf at hf
  refine v_start (cc := cX6_closeIf) (own := RX6) (maxL := 1) (ret := none) (nm := "closeIf") (by decide +kernel) kw_699 rfl rfl (by simp [lg_sl, va_rf_cat, cat_i, cat_l]) ?_
  refine v_eqL (L2 := [(0, va_rf (some p0))]) (by simp [lv_args, va_rf_cat, cat_i, cat_l]) ?_
  refine v_aload_n (x := (some p0)) dX6_closeIf_0 rfl 0 rfl ?_
  obtain ⟨hk_p0, hf⟩ := gt_of hf
  refine v_geti cb_7 hk_p0 14 714 rfl (by decide) rfl (lk_n kw_91 rfl) hf dX6_closeIf_1 (fun x1 hf => ?_)
  refine v_if_eq (tgt := 14) hf dX6_closeIf_4 (by decide) (fun hq hf => ?_) (fun hq hf => ?_)
  · refine v_sub [0] (L2 := [(0, va_rf (some p0))]) rfl ?_
    exact t_X6_closeIf_b14  hf
  · refine v_aload_n (x := (some p0)) dX6_closeIf_7 rfl 0 rfl ?_
    refine v_geti cb_7 hk_p0 12 712 rfl (by decide) rfl (lk_n kw_89 rfl) hf dX6_closeIf_8 (fun x5 hf => ?_)
    refine v_if_ne (tgt := 24) hf dX6_closeIf_11 (by decide) (fun hq hf => ?_) (fun hq hf => ?_)
    · refine v_sub [0] (L2 := [(0, va_rf (some p0))]) rfl ?_
      exact t_X6_closeIf_b14  hf
    · refine v_aload_n (x := (some p0)) dX6_closeIf_24 rfl 0 rfl ?_
      refine v_dup dX6_closeIf_25 (va_rf_cat _) ?_
      refine v_geti cb_7 hk_p0 14 714 rfl (by decide) rfl (lk_n kw_91 rfl) hf dX6_closeIf_26 (fun x6 hf => ?_)
      refine v_iconst (v := 1) dX6_closeIf_29 (by decide) ?_
      refine v_isub dX6_closeIf_30 ?_
      refine v_puti2 cb_7 hk_p0 14 714 rfl (by decide) rfl (lk_n kw_91 rfl) (Or.inl rfl) rfl rfl hf dX6_closeIf_31 (fun s7 hts7 hf => ?_)
      have hk_p0 := tk_ hts7 hk_p0
      refine v_aload_n (x := (some p0)) dX6_closeIf_34 rfl 0 rfl ?_
      refine v_aload_n (x := (some p0)) dX6_closeIf_35 rfl 0 rfl ?_
      refine v_geti cb_7 hk_p0 14 714 rfl (by decide) rfl (lk_n kw_91 rfl) hf dX6_closeIf_36 (fun x8 hf => ?_)
      obtain ⟨x9, s10, hcs10, hf⟩ := bd_of hf
      have hts10 := c_X6_aimSkip (l := l) (D := D) (cy := cy) (ka := ka) hcs10
      refine v_callV cb_7 hk_p0 (As := [.int x8]) (rest := []) hts10 yb_X6_aimSkip kw_692 kw_694 kp_24 rfl ⟨Nat.le_of_ble_eq_true rfl, Nat.le_of_ble_eq_true rfl⟩ rfl (cat_len (Nat.le_of_ble_eq_true rfl)) dX6_closeIf_39 ?_
      have hk_p0 := tk_ hts10.1 hk_p0
      show v_ l D cy ka cX6_closeIf RX6 1 none "closeIf" 1 22 (qf_ D cy σ z none) σ z _ 42 [(0, va_rf (some p0))] []
      refine v_aload_n (x := (some p0)) dX6_closeIf_42 rfl 0 rfl ?_
      refine v_dup dX6_closeIf_43 (va_rf_cat _) ?_
      refine v_geti cb_7 hk_p0 15 715 rfl (by decide) rfl (lk_n kw_92 rfl) hf dX6_closeIf_44 (fun x11 hf => ?_)
      refine v_iconst (v := 1) dX6_closeIf_47 (by decide) ?_
      refine v_aload_n (x := (some p0)) dX6_closeIf_48 rfl 0 rfl ?_
      refine v_geti cb_7 hk_p0 14 714 rfl (by decide) rfl (lk_n kw_91 rfl) hf dX6_closeIf_49 (fun x12 hf => ?_)
      refine v_ishl dX6_closeIf_52 ?_
      refine v_iconst (v := (-1)) dX6_closeIf_53 (by decide) ?_
      refine v_ixor dX6_closeIf_54 ?_
      refine v_iand dX6_closeIf_55 ?_
      refine v_puti2 cb_7 hk_p0 15 715 rfl (by decide) rfl (lk_n kw_92 rfl) (Or.inl rfl) rfl rfl hf dX6_closeIf_56 (fun s13 hts13 hf => ?_)
      have hk_p0 := tk_ hts13 hk_p0
      refine v_aload_n (x := (some p0)) dX6_closeIf_59 rfl 0 rfl ?_
      refine v_iconst (v := 2) dX6_closeIf_60 (by decide) ?_
      refine v_puti2 cb_7 hk_p0 12 712 rfl (by decide) rfl (lk_n kw_89 rfl) (Or.inl rfl) rfl rfl hf dX6_closeIf_61 (fun s14 hts14 hf => ?_)
      have hk_p0 := tk_ hts14 hk_p0
      exact v_vret hf dX6_closeIf_64
theorem dX6_turnToElse_0 : decode cX6_turnToElse 0 = .ok (.aload_n 0, 1) := by decide +kernel
theorem dX6_turnToElse_1 : decode cX6_turnToElse 1 = .ok (.getfield 57, 3) := by decide +kernel
theorem dX6_turnToElse_4 : decode cX6_turnToElse 4 = .ok (.iconst 1, 1) := by decide +kernel
theorem dX6_turnToElse_5 : decode cX6_turnToElse 5 = .ok (.isub, 1) := by decide +kernel
theorem dX6_turnToElse_6 : decode cX6_turnToElse 6 = .ok (.istore_n 1, 1) := by decide +kernel
theorem dX6_turnToElse_7 : decode cX6_turnToElse 7 = .ok (.iload_n 1, 1) := by decide +kernel
theorem dX6_turnToElse_8 : decode cX6_turnToElse 8 = .ok (.ifCond .lt 26, 3) := by decide +kernel
theorem dX6_turnToElse_11 : decode cX6_turnToElse 11 = .ok (.iload_n 1, 1) := by decide +kernel
theorem dX6_turnToElse_12 : decode cX6_turnToElse 12 = .ok (.iconst 5, 1) := by decide +kernel
theorem dX6_turnToElse_13 : decode cX6_turnToElse 13 = .ok (.if_icmp .ge 21, 3) := by decide +kernel
theorem dX6_turnToElse_16 : decode cX6_turnToElse 16 = .ok (.aload_n 0, 1) := by decide +kernel
theorem dX6_turnToElse_17 : decode cX6_turnToElse 17 = .ok (.getfield 51, 3) := by decide +kernel
theorem dX6_turnToElse_20 : decode cX6_turnToElse 20 = .ok (.ifCond .eq 14, 3) := by decide +kernel
theorem dX6_turnToElse_23 : decode cX6_turnToElse 23 = .ok (.aload_n 0, 1) := by decide +kernel
theorem dX6_turnToElse_24 : decode cX6_turnToElse 24 = .ok (.getfield 60, 3) := by decide +kernel
theorem dX6_turnToElse_27 : decode cX6_turnToElse 27 = .ok (.iconst 1, 1) := by decide +kernel
theorem dX6_turnToElse_28 : decode cX6_turnToElse 28 = .ok (.iload_n 1, 1) := by decide +kernel
theorem dX6_turnToElse_29 : decode cX6_turnToElse 29 = .ok (.ishl, 1) := by decide +kernel
theorem dX6_turnToElse_30 : decode cX6_turnToElse 30 = .ok (.iand, 1) := by decide +kernel
theorem dX6_turnToElse_31 : decode cX6_turnToElse 31 = .ok (.ifCond .eq 13, 3) := by decide +kernel
theorem dX6_turnToElse_34 : decode cX6_turnToElse 34 = .ok (.aload_n 0, 1) := by decide +kernel
theorem dX6_turnToElse_35 : decode cX6_turnToElse 35 = .ok (.iconst 1, 1) := by decide +kernel
theorem dX6_turnToElse_36 : decode cX6_turnToElse 36 = .ok (.aload_n 0, 1) := by decide +kernel
theorem dX6_turnToElse_37 : decode cX6_turnToElse 37 = .ok (.getfield 42, 3) := by decide +kernel
theorem dX6_turnToElse_40 : decode cX6_turnToElse 40 = .ok (.invokevirtual 121, 3) := by decide +kernel
theorem dX6_turnToElse_43 : decode cX6_turnToElse 43 = .ok (.return_, 1) := by decide +kernel
theorem dX6_turnToElse_44 : decode cX6_turnToElse 44 = .ok (.aload_n 0, 1) := by decide +kernel
theorem dX6_turnToElse_45 : decode cX6_turnToElse 45 = .ok (.bipush 14, 2) := by decide +kernel
theorem dX6_turnToElse_47 : decode cX6_turnToElse 47 = .ok (.iconst 0, 1) := by decide +kernel
theorem dX6_turnToElse_48 : decode cX6_turnToElse 48 = .ok (.invokevirtual 134, 3) := by decide +kernel
theorem dX6_turnToElse_51 : decode cX6_turnToElse 51 = .ok (.istore_n 2, 1) := by decide +kernel
theorem dX6_turnToElse_52 : decode cX6_turnToElse 52 = .ok (.aload_n 0, 1) := by decide +kernel
theorem dX6_turnToElse_53 : decode cX6_turnToElse 53 = .ok (.iload_n 1, 1) := by decide +kernel
theorem dX6_turnToElse_54 : decode cX6_turnToElse 54 = .ok (.invokevirtual 138, 3) := by decide +kernel
theorem dX6_turnToElse_57 : decode cX6_turnToElse 57 = .ok (.aload_n 0, 1) := by decide +kernel
theorem dX6_turnToElse_58 : decode cX6_turnToElse 58 = .ok (.getfield 29, 3) := by decide +kernel
theorem dX6_turnToElse_61 : decode cX6_turnToElse 61 = .ok (.iload_n 1, 1) := by decide +kernel
theorem dX6_turnToElse_62 : decode cX6_turnToElse 62 = .ok (.iload_n 2, 1) := by decide +kernel
theorem dX6_turnToElse_63 : decode cX6_turnToElse 63 = .ok (.iastore, 1) := by decide +kernel
theorem dX6_turnToElse_64 : decode cX6_turnToElse 64 = .ok (.aload_n 0, 1) := by decide +kernel
theorem dX6_turnToElse_65 : decode cX6_turnToElse 65 = .ok (.dup, 1) := by decide +kernel
theorem dX6_turnToElse_66 : decode cX6_turnToElse 66 = .ok (.getfield 60, 3) := by decide +kernel
theorem dX6_turnToElse_69 : decode cX6_turnToElse 69 = .ok (.iconst 1, 1) := by decide +kernel
theorem dX6_turnToElse_70 : decode cX6_turnToElse 70 = .ok (.iload_n 1, 1) := by decide +kernel
theorem dX6_turnToElse_71 : decode cX6_turnToElse 71 = .ok (.ishl, 1) := by decide +kernel
theorem dX6_turnToElse_72 : decode cX6_turnToElse 72 = .ok (.ior, 1) := by decide +kernel
theorem dX6_turnToElse_73 : decode cX6_turnToElse 73 = .ok (.putfield 60, 3) := by decide +kernel
theorem dX6_turnToElse_76 : decode cX6_turnToElse 76 = .ok (.aload_n 0, 1) := by decide +kernel
theorem dX6_turnToElse_77 : decode cX6_turnToElse 77 = .ok (.iconst 0, 1) := by decide +kernel
theorem dX6_turnToElse_78 : decode cX6_turnToElse 78 = .ok (.putfield 51, 3) := by decide +kernel
theorem dX6_turnToElse_81 : decode cX6_turnToElse 81 = .ok (.return_, 1) := by decide +kernel
def f_X6_turnToElse_b34 (σ : TH) (l0 : Nat) : Option (Unit × TH) :=
  gt_ (kd_ σ l0 = 8) <| lt_ (fi_ σ 709 l0) fun x3 => bd_ (f_X6_fail σ l0 (1 : Int32) x3) fun x4 s5 => some ((), s5)
set_option maxHeartbeats 4000000 in
set_option maxRecDepth 100000 in
theorem t_X6_turnToElse_b34 {l : Launch} {D : va_G} {cy : Nat → ClassId} {ka : Nat → Nat} {σ0 z : TH} {r : Unit}  {σ : TH} {l0 : Nat} (hf : f_X6_turnToElse_b34 σ l0 = some (r, z)) : v_ l D cy ka cX6_turnToElse RX6 3 none "turnToElse" 1 23 (qf_ D cy σ0 z none) σ0 z σ 34 [(0, va_rf (some l0))] [] := by
  unfold f_X6_turnToElse_b34 at hf
  refine v_aload_n (x := (some l0)) dX6_turnToElse_34 rfl 0 rfl ?_
  refine v_iconst (v := 1) dX6_turnToElse_35 (by decide) ?_
  refine v_aload_n (x := (some l0)) dX6_turnToElse_36 rfl 0 rfl ?_
  obtain ⟨hk_l0, hf⟩ := gt_of hf
  refine v_geti cb_7 hk_l0 9 709 rfl (by decide) rfl (lk_n kw_86 rfl) hf dX6_turnToElse_37 (fun x3 hf => ?_)
  obtain ⟨x4, s5, hcs5, hf⟩ := bd_of hf
  have hts5 := c_X6_fail (l := l) (D := D) (cy := cy) (ka := ka) hcs5
  refine v_callV cb_7 hk_l0 (As := [.int (1 : Int32), .int x3]) (rest := []) hts5 yb_X6_fail kw_676 kw_678 kp_20 rfl ⟨Nat.le_of_ble_eq_true rfl, Nat.le_of_ble_eq_true rfl⟩ rfl (cat_len (Nat.le_of_ble_eq_true rfl)) dX6_turnToElse_40 ?_
  have hk_l0 := tk_ hts5.1 hk_l0
  show v_ l D cy ka cX6_turnToElse RX6 3 none "turnToElse" 1 23 (qf_ D cy σ0 z none) σ0 z _ 43 [(0, va_rf (some l0))] []
  exact v_vret hf dX6_turnToElse_43
/-- LivesAhead$Reader.turnToElse()V -/
def f_X6_turnToElse (σ : TH) (p0 : Nat) : Option (Unit × TH) :=
  gt_ (kd_ σ p0 = 8) <| lt_ (fi_ σ 714 p0) fun x1 => lt_ (x1 - (1 : Int32)) fun x2 => if x2 < 0 then (f_X6_turnToElse_b34 σ p0) else (if (5 : Int32) ≤ x2 then (f_X6_turnToElse_b34 σ p0) else (lt_ (fi_ σ 712 p0) fun x6 => if x6 = 0 then (f_X6_turnToElse_b34 σ p0) else (lt_ (fi_ σ 715 p0) fun x7 => if (x7 &&& ((1 : Int32) <<< (x2 &&& 31))) = 0 then (bd_ (f_X6_emit σ p0 (14 : Int32) (0 : Int32)) fun x8 s9 => bd_ (f_X6_aimSkip s9 p0 x2) fun x10 s11 => lt_ (fr_ s11 705 p0) fun r12 => nn_ r12 fun a13 => gt_ (kd_ s11 a13 = 20) <| gt_ (¬ (x2 < 0 ∨ ln_ s11 a13 ≤ x2.toNatClampNeg)) <| lt_ (sa_ s11 a13 x2.toNatClampNeg x8) fun s14 => lt_ (fi_ s14 715 p0) fun x15 => lt_ (si_ s14 715 p0 (x15 ||| ((1 : Int32) <<< (x2 &&& 31)))) fun s16 => lt_ (si_ s16 712 p0 (0 : Int32)) fun s17 => some ((), s17)) else (f_X6_turnToElse_b34 σ p0))))
set_option maxHeartbeats 4000000 in
set_option maxRecDepth 100000 in
theorem c_X6_turnToElse {l : Launch} {D : va_G} {cy : Nat → ClassId} {ka : Nat → Nat} {σ z : TH} {p0 : Nat} {r : Unit} (hf : f_X6_turnToElse σ p0 = some (r, z)) : ct_ l D cy ka yX6_turnToElse 1 23 [va_rf (some p0)] σ none z := by
  unfold f_X6_turnToElse at hf
  refine v_start (cc := cX6_turnToElse) (own := RX6) (maxL := 3) (ret := none) (nm := "turnToElse") (by decide +kernel) kw_687 rfl rfl (by simp [lg_sl, va_rf_cat, cat_i, cat_l]) ?_
  refine v_eqL (L2 := [(0, va_rf (some p0))]) (by simp [lv_args, va_rf_cat, cat_i, cat_l]) ?_
  refine v_aload_n (x := (some p0)) dX6_turnToElse_0 rfl 0 rfl ?_
  obtain ⟨hk_p0, hf⟩ := gt_of hf
  refine v_geti cb_7 hk_p0 14 714 rfl (by decide) rfl (lk_n kw_91 rfl) hf dX6_turnToElse_1 (fun x1 hf => ?_)
  refine v_iconst (v := 1) dX6_turnToElse_4 (by decide) ?_
  refine v_isub dX6_turnToElse_5 ?_
  obtain ⟨x2, ex2⟩ : ∃ y : Int32, y = x1 - (1 : Int32) := ⟨_, rfl⟩
  rw [lt_e, ← ex2] at hf
  rw [← ex2]
  refine v_istore_n [(1, .int x2), (0, va_rf (some p0))] dX6_turnToElse_6 rfl (by decide) rfl ?_
  refine v_iload_n (x := x2) dX6_turnToElse_7 rfl 0 rfl ?_
  refine v_if_lt (tgt := 34) hf dX6_turnToElse_8 (by decide) (fun hq hf => ?_) (fun hq hf => ?_)
  · refine v_sub [1] (L2 := [(0, va_rf (some p0))]) rfl ?_
    exact t_X6_turnToElse_b34  hf
  · refine v_iload_n (x := x2) dX6_turnToElse_11 rfl 0 rfl ?_
    refine v_iconst (v := 5) dX6_turnToElse_12 (by decide) ?_
    refine v_icmp_ge (tgt := 34) hf dX6_turnToElse_13 (by decide) (fun hq hf => ?_) (fun hq hf => ?_)
    · refine v_sub [1] (L2 := [(0, va_rf (some p0))]) rfl ?_
      exact t_X6_turnToElse_b34  hf
    · refine v_aload_n (x := (some p0)) dX6_turnToElse_16 rfl 1 rfl ?_
      refine v_geti cb_7 hk_p0 12 712 rfl (by decide) rfl (lk_n kw_89 rfl) hf dX6_turnToElse_17 (fun x6 hf => ?_)
      refine v_if_eq (tgt := 34) hf dX6_turnToElse_20 (by decide) (fun hq hf => ?_) (fun hq hf => ?_)
      · refine v_sub [1] (L2 := [(0, va_rf (some p0))]) rfl ?_
        exact t_X6_turnToElse_b34  hf
      · refine v_aload_n (x := (some p0)) dX6_turnToElse_23 rfl 1 rfl ?_
        refine v_geti cb_7 hk_p0 15 715 rfl (by decide) rfl (lk_n kw_92 rfl) hf dX6_turnToElse_24 (fun x7 hf => ?_)
        refine v_iconst (v := 1) dX6_turnToElse_27 (by decide) ?_
        refine v_iload_n (x := x2) dX6_turnToElse_28 rfl 0 rfl ?_
        refine v_ishl dX6_turnToElse_29 ?_
        refine v_iand dX6_turnToElse_30 ?_
        refine v_if_eq (tgt := 44) hf dX6_turnToElse_31 (by decide) (fun hq hf => ?_) (fun hq hf => ?_)
        · refine v_aload_n (x := (some p0)) dX6_turnToElse_44 rfl 1 rfl ?_
          refine v_bipush (v := 14) dX6_turnToElse_45 (by decide) ?_
          refine v_iconst (v := 0) dX6_turnToElse_47 (by decide) ?_
          obtain ⟨x8, s9, hcs9, hf⟩ := bd_of hf
          have hts9 := c_X6_emit (l := l) (D := D) (cy := cy) (ka := ka) hcs9
          refine v_callV cb_7 hk_p0 (As := [.int (14 : Int32), .int (0 : Int32)]) (rest := []) hts9 yb_X6_emit kw_688 kw_690 kp_23 rfl ⟨Nat.le_of_ble_eq_true rfl, Nat.le_of_ble_eq_true rfl⟩ rfl (cat_len (Nat.le_of_ble_eq_true rfl)) dX6_turnToElse_48 ?_
          have hk_p0 := tk_ hts9.1 hk_p0
          show v_ l D cy ka cX6_turnToElse RX6 3 none "turnToElse" 1 23 (qf_ D cy σ z none) σ z _ 51 [(1, .int x2), (0, va_rf (some p0))] [.int x8]
          refine v_istore_n [(2, .int x8), (1, .int x2), (0, va_rf (some p0))] dX6_turnToElse_51 rfl (by decide) rfl ?_
          refine v_aload_n (x := (some p0)) dX6_turnToElse_52 rfl 2 rfl ?_
          refine v_iload_n (x := x2) dX6_turnToElse_53 rfl 1 rfl ?_
          obtain ⟨x10, s11, hcs11, hf⟩ := bd_of hf
          have hts11 := c_X6_aimSkip (l := l) (D := D) (cy := cy) (ka := ka) hcs11
          refine v_callV cb_7 hk_p0 (As := [.int x2]) (rest := []) hts11 yb_X6_aimSkip kw_692 kw_694 kp_24 rfl ⟨Nat.le_of_ble_eq_true rfl, Nat.le_of_ble_eq_true rfl⟩ rfl (cat_len (Nat.le_of_ble_eq_true rfl)) dX6_turnToElse_54 ?_
          have hk_p0 := tk_ hts11.1 hk_p0
          show v_ l D cy ka cX6_turnToElse RX6 3 none "turnToElse" 1 23 (qf_ D cy σ z none) σ z _ 57 [(2, .int x8), (1, .int x2), (0, va_rf (some p0))] []
          refine v_aload_n (x := (some p0)) dX6_turnToElse_57 rfl 2 rfl ?_
          refine v_getr cb_7 hk_p0 5 705 rfl (by decide) rfl (lk_n kw_82 rfl) hf dX6_turnToElse_58 (fun r12 hf => ?_)
          refine v_iload_n (x := x2) dX6_turnToElse_61 rfl 1 rfl ?_
          refine v_iload_n (x := x8) dX6_turnToElse_62 rfl 0 rfl ?_
          obtain ⟨a13, rfl, hf⟩ := nn_of hf
          obtain ⟨hk_a13, hf⟩ := gt_of hf
          refine v_iast2 hk_a13 hf dX6_turnToElse_63 (fun s14 hts14 hf => ?_)
          have hk_p0 := tk_ hts14 hk_p0
          refine v_aload_n (x := (some p0)) dX6_turnToElse_64 rfl 2 rfl ?_
          refine v_dup dX6_turnToElse_65 (va_rf_cat _) ?_
          refine v_geti cb_7 hk_p0 15 715 rfl (by decide) rfl (lk_n kw_92 rfl) hf dX6_turnToElse_66 (fun x15 hf => ?_)
          refine v_iconst (v := 1) dX6_turnToElse_69 (by decide) ?_
          refine v_iload_n (x := x2) dX6_turnToElse_70 rfl 1 rfl ?_
          refine v_ishl dX6_turnToElse_71 ?_
          refine v_ior dX6_turnToElse_72 ?_
          refine v_puti2 cb_7 hk_p0 15 715 rfl (by decide) rfl (lk_n kw_92 rfl) (Or.inl rfl) rfl rfl hf dX6_turnToElse_73 (fun s16 hts16 hf => ?_)
          have hk_p0 := tk_ hts16 hk_p0
          refine v_aload_n (x := (some p0)) dX6_turnToElse_76 rfl 2 rfl ?_
          refine v_iconst (v := 0) dX6_turnToElse_77 (by decide) ?_
          refine v_puti2 cb_7 hk_p0 12 712 rfl (by decide) rfl (lk_n kw_89 rfl) (Or.inl rfl) rfl rfl hf dX6_turnToElse_78 (fun s17 hts17 hf => ?_)
          have hk_p0 := tk_ hts17 hk_p0
          exact v_vret hf dX6_turnToElse_81
        · refine v_sub [1] (L2 := [(0, va_rf (some p0))]) rfl ?_
          exact t_X6_turnToElse_b34  hf
theorem dX6_readPlain_0 : decode cX6_readPlain 0 = .ok (.iload_n 1, 1) := by decide +kernel
theorem dX6_readPlain_1 : decode cX6_readPlain 1 = .ok (.bipush 32, 2) := by decide +kernel
theorem dX6_readPlain_3 : decode cX6_readPlain 3 = .ok (.if_icmp .lt 9, 3) := by decide +kernel
theorem dX6_readPlain_6 : decode cX6_readPlain 6 = .ok (.iload_n 1, 1) := by decide +kernel
theorem dX6_readPlain_7 : decode cX6_readPlain 7 = .ok (.bipush 126, 2) := by decide +kernel
theorem dX6_readPlain_9 : decode cX6_readPlain 9 = .ok (.if_icmp .le 15, 3) := by decide +kernel
theorem dX6_readPlain_12 : decode cX6_readPlain 12 = .ok (.aload_n 0, 1) := by decide +kernel
theorem dX6_readPlain_13 : decode cX6_readPlain 13 = .ok (.iconst 1, 1) := by decide +kernel
theorem dX6_readPlain_14 : decode cX6_readPlain 14 = .ok (.aload_n 0, 1) := by decide +kernel
theorem dX6_readPlain_15 : decode cX6_readPlain 15 = .ok (.getfield 42, 3) := by decide +kernel
theorem dX6_readPlain_18 : decode cX6_readPlain 18 = .ok (.invokevirtual 121, 3) := by decide +kernel
theorem dX6_readPlain_21 : decode cX6_readPlain 21 = .ok (.goto 76, 3) := by decide +kernel
theorem dX6_readPlain_24 : decode cX6_readPlain 24 = .ok (.iload_n 1, 1) := by decide +kernel
theorem dX6_readPlain_25 : decode cX6_readPlain 25 = .ok (.bipush 123, 2) := by decide +kernel
theorem dX6_readPlain_27 : decode cX6_readPlain 27 = .ok (.if_icmp .ne 24, 3) := by decide +kernel
theorem dX6_readPlain_30 : decode cX6_readPlain 30 = .ok (.aload_n 0, 1) := by decide +kernel
theorem dX6_readPlain_31 : decode cX6_readPlain 31 = .ok (.iconst 2, 1) := by decide +kernel
theorem dX6_readPlain_32 : decode cX6_readPlain 32 = .ok (.invokevirtual 125, 3) := by decide +kernel
theorem dX6_readPlain_35 : decode cX6_readPlain 35 = .ok (.aload_n 0, 1) := by decide +kernel
theorem dX6_readPlain_36 : decode cX6_readPlain 36 = .ok (.aload_n 0, 1) := by decide +kernel
theorem dX6_readPlain_37 : decode cX6_readPlain 37 = .ok (.getfield 42, 3) := by decide +kernel
theorem dX6_readPlain_40 : decode cX6_readPlain 40 = .ok (.putfield 54, 3) := by decide +kernel
theorem dX6_readPlain_43 : decode cX6_readPlain 43 = .ok (.aload_n 0, 1) := by decide +kernel
theorem dX6_readPlain_44 : decode cX6_readPlain 44 = .ok (.iconst 1, 1) := by decide +kernel
theorem dX6_readPlain_45 : decode cX6_readPlain 45 = .ok (.putfield 45, 3) := by decide +kernel
theorem dX6_readPlain_48 : decode cX6_readPlain 48 = .ok (.goto 49, 3) := by decide +kernel
theorem dX6_readPlain_51 : decode cX6_readPlain 51 = .ok (.iload_n 1, 1) := by decide +kernel
theorem dX6_readPlain_52 : decode cX6_readPlain 52 = .ok (.bipush 124, 2) := by decide +kernel
theorem dX6_readPlain_54 : decode cX6_readPlain 54 = .ok (.if_icmp .ne 10, 3) := by decide +kernel
theorem dX6_readPlain_57 : decode cX6_readPlain 57 = .ok (.aload_n 0, 1) := by decide +kernel
theorem dX6_readPlain_58 : decode cX6_readPlain 58 = .ok (.invokevirtual 128, 3) := by decide +kernel
theorem dX6_readPlain_61 : decode cX6_readPlain 61 = .ok (.goto 36, 3) := by decide +kernel
theorem dX6_readPlain_64 : decode cX6_readPlain 64 = .ok (.iload_n 1, 1) := by decide +kernel
theorem dX6_readPlain_65 : decode cX6_readPlain 65 = .ok (.bipush 125, 2) := by decide +kernel
theorem dX6_readPlain_67 : decode cX6_readPlain 67 = .ok (.if_icmp .ne 10, 3) := by decide +kernel
theorem dX6_readPlain_70 : decode cX6_readPlain 70 = .ok (.aload_n 0, 1) := by decide +kernel
theorem dX6_readPlain_71 : decode cX6_readPlain 71 = .ok (.invokevirtual 131, 3) := by decide +kernel
theorem dX6_readPlain_74 : decode cX6_readPlain 74 = .ok (.goto 23, 3) := by decide +kernel
theorem dX6_readPlain_77 : decode cX6_readPlain 77 = .ok (.aload_n 0, 1) := by decide +kernel
theorem dX6_readPlain_78 : decode cX6_readPlain 78 = .ok (.getfield 51, 3) := by decide +kernel
theorem dX6_readPlain_81 : decode cX6_readPlain 81 = .ok (.iconst 1, 1) := by decide +kernel
theorem dX6_readPlain_82 : decode cX6_readPlain 82 = .ok (.if_icmp .eq 8, 3) := by decide +kernel
theorem dX6_readPlain_85 : decode cX6_readPlain 85 = .ok (.aload_n 0, 1) := by decide +kernel
theorem dX6_readPlain_86 : decode cX6_readPlain 86 = .ok (.iconst 1, 1) := by decide +kernel
theorem dX6_readPlain_87 : decode cX6_readPlain 87 = .ok (.invokevirtual 125, 3) := by decide +kernel
theorem dX6_readPlain_90 : decode cX6_readPlain 90 = .ok (.aload_n 0, 1) := by decide +kernel
theorem dX6_readPlain_91 : decode cX6_readPlain 91 = .ok (.iconst 0, 1) := by decide +kernel
theorem dX6_readPlain_92 : decode cX6_readPlain 92 = .ok (.iload_n 1, 1) := by decide +kernel
theorem dX6_readPlain_93 : decode cX6_readPlain 93 = .ok (.invokevirtual 134, 3) := by decide +kernel
theorem dX6_readPlain_96 : decode cX6_readPlain 96 = .ok (.pop, 1) := by decide +kernel
theorem dX6_readPlain_97 : decode cX6_readPlain 97 = .ok (.aload_n 0, 1) := by decide +kernel
theorem dX6_readPlain_98 : decode cX6_readPlain 98 = .ok (.dup, 1) := by decide +kernel
theorem dX6_readPlain_99 : decode cX6_readPlain 99 = .ok (.getfield 42, 3) := by decide +kernel
theorem dX6_readPlain_102 : decode cX6_readPlain 102 = .ok (.iconst 1, 1) := by decide +kernel
theorem dX6_readPlain_103 : decode cX6_readPlain 103 = .ok (.iadd, 1) := by decide +kernel
theorem dX6_readPlain_104 : decode cX6_readPlain 104 = .ok (.putfield 42, 3) := by decide +kernel
theorem dX6_readPlain_107 : decode cX6_readPlain 107 = .ok (.return_, 1) := by decide +kernel
def f_X6_readPlain_b97 (σ : TH) (l0 : Nat) : Option (Unit × TH) :=
  gt_ (kd_ σ l0 = 8) <| lt_ (fi_ σ 709 l0) fun x4 => lt_ (si_ σ 709 l0 (x4 + (1 : Int32))) fun s5 => some ((), s5)
set_option maxHeartbeats 4000000 in
set_option maxRecDepth 100000 in
theorem t_X6_readPlain_b97 {l : Launch} {D : va_G} {cy : Nat → ClassId} {ka : Nat → Nat} {σ0 z : TH} {r : Unit}  {σ : TH} {l0 : Nat} (hf : f_X6_readPlain_b97 σ l0 = some (r, z)) : v_ l D cy ka cX6_readPlain RX6 2 none "readPlain" 2 45 (qf_ D cy σ0 z none) σ0 z σ 97 [(0, va_rf (some l0))] [] := by
  unfold f_X6_readPlain_b97 at hf
  refine v_aload_n (x := (some l0)) dX6_readPlain_97 rfl 0 rfl ?_
  refine v_dup dX6_readPlain_98 (va_rf_cat _) ?_
  obtain ⟨hk_l0, hf⟩ := gt_of hf
  refine v_geti cb_7 hk_l0 9 709 rfl (by decide) rfl (lk_n kw_86 rfl) hf dX6_readPlain_99 (fun x4 hf => ?_)
  refine v_iconst (v := 1) dX6_readPlain_102 (by decide) ?_
  refine v_iadd dX6_readPlain_103 ?_
  refine v_puti2 cb_7 hk_l0 9 709 rfl (by decide) rfl (lk_n kw_86 rfl) (Or.inl rfl) rfl rfl hf dX6_readPlain_104 (fun s5 hts5 hf => ?_)
  have hk_l0 := tk_ hts5 hk_l0
  exact v_vret hf dX6_readPlain_107
def f_X6_readPlain_b12 (σ : TH) (l0 : Nat) : Option (Unit × TH) :=
  gt_ (kd_ σ l0 = 8) <| lt_ (fi_ σ 709 l0) fun x1 => bd_ (f_X6_fail σ l0 (1 : Int32) x1) fun x2 s3 => f_X6_readPlain_b97 s3 l0
set_option maxHeartbeats 4000000 in
set_option maxRecDepth 100000 in
theorem t_X6_readPlain_b12 {l : Launch} {D : va_G} {cy : Nat → ClassId} {ka : Nat → Nat} {σ0 z : TH} {r : Unit}  {σ : TH} {l0 : Nat} (hf : f_X6_readPlain_b12 σ l0 = some (r, z)) : v_ l D cy ka cX6_readPlain RX6 2 none "readPlain" 2 45 (qf_ D cy σ0 z none) σ0 z σ 12 [(0, va_rf (some l0))] [] := by
  unfold f_X6_readPlain_b12 at hf
  refine v_aload_n (x := (some l0)) dX6_readPlain_12 rfl 0 rfl ?_
  refine v_iconst (v := 1) dX6_readPlain_13 (by decide) ?_
  refine v_aload_n (x := (some l0)) dX6_readPlain_14 rfl 0 rfl ?_
  obtain ⟨hk_l0, hf⟩ := gt_of hf
  refine v_geti cb_7 hk_l0 9 709 rfl (by decide) rfl (lk_n kw_86 rfl) hf dX6_readPlain_15 (fun x1 hf => ?_)
  obtain ⟨x2, s3, hcs3, hf⟩ := bd_of hf
  have hts3 := c_X6_fail (l := l) (D := D) (cy := cy) (ka := ka) hcs3
  refine v_callV cb_7 hk_l0 (As := [.int (1 : Int32), .int x1]) (rest := []) hts3 yb_X6_fail kw_676 kw_678 kp_20 rfl ⟨Nat.le_of_ble_eq_true rfl, Nat.le_of_ble_eq_true rfl⟩ rfl (cat_len (Nat.le_of_ble_eq_true rfl)) dX6_readPlain_18 ?_
  have hk_l0 := tk_ hts3.1 hk_l0
  show v_ l D cy ka cX6_readPlain RX6 2 none "readPlain" 2 45 (qf_ D cy σ0 z none) σ0 z _ 21 [(0, va_rf (some l0))] []
  refine v_goto (tgt := 97) dX6_readPlain_21 (by decide) ?_
  refine v_sub [0] (L2 := [(0, va_rf (some l0))]) rfl ?_
  exact t_X6_readPlain_b97  hf
def f_X6_readPlain_b90 (σ : TH) (l0 : Nat) (l1 : Int32) : Option (Unit × TH) :=
  gt_ (kd_ σ l0 = 8) <| bd_ (f_X6_emit σ l0 (0 : Int32) l1) fun x16 s17 => f_X6_readPlain_b97 s17 l0
set_option maxHeartbeats 4000000 in
set_option maxRecDepth 100000 in
theorem t_X6_readPlain_b90 {l : Launch} {D : va_G} {cy : Nat → ClassId} {ka : Nat → Nat} {σ0 z : TH} {r : Unit}  {σ : TH} {l0 : Nat} {l1 : Int32} (hf : f_X6_readPlain_b90 σ l0 l1 = some (r, z)) : v_ l D cy ka cX6_readPlain RX6 2 none "readPlain" 2 45 (qf_ D cy σ0 z none) σ0 z σ 90 [(0, va_rf (some l0)), (1, .int l1)] [] := by
  unfold f_X6_readPlain_b90 at hf
  refine v_aload_n (x := (some l0)) dX6_readPlain_90 rfl 0 rfl ?_
  refine v_iconst (v := 0) dX6_readPlain_91 (by decide) ?_
  refine v_iload_n (x := l1) dX6_readPlain_92 rfl 1 rfl ?_
  obtain ⟨hk_l0, hf⟩ := gt_of hf
  obtain ⟨x16, s17, hcs17, hf⟩ := bd_of hf
  have hts17 := c_X6_emit (l := l) (D := D) (cy := cy) (ka := ka) hcs17
  refine v_callV cb_7 hk_l0 (As := [.int (0 : Int32), .int l1]) (rest := []) hts17 yb_X6_emit kw_688 kw_690 kp_23 rfl ⟨Nat.le_of_ble_eq_true rfl, Nat.le_of_ble_eq_true rfl⟩ rfl (cat_len (Nat.le_of_ble_eq_true rfl)) dX6_readPlain_93 ?_
  have hk_l0 := tk_ hts17.1 hk_l0
  show v_ l D cy ka cX6_readPlain RX6 2 none "readPlain" 2 45 (qf_ D cy σ0 z none) σ0 z _ 96 [(0, va_rf (some l0)), (1, .int l1)] [.int x16]
  refine v_pop dX6_readPlain_96 rfl ?_
  refine v_sub [0] (L2 := [(0, va_rf (some l0))]) rfl ?_
  exact t_X6_readPlain_b97  hf
/-- LivesAhead$Reader.readPlain(I)V -/
def f_X6_readPlain (σ : TH) (p0 : Nat) (p1 : Int32) : Option (Unit × TH) :=
  if p1 < (32 : Int32) then (f_X6_readPlain_b12 σ p0) else (if p1 ≤ (126 : Int32) then (if p1 = (123 : Int32) then (gt_ (kd_ σ p0 = 8) <| bd_ (f_X6_beginPiece σ p0 (2 : Int32)) fun x6 s7 => lt_ (fi_ s7 709 p0) fun x8 => lt_ (si_ s7 713 p0 x8) fun s9 => lt_ (si_ s9 710 p0 (1 : Int32)) fun s10 => f_X6_readPlain_b97 s10 p0) else (if p1 = (124 : Int32) then (gt_ (kd_ σ p0 = 8) <| bd_ (f_X6_turnToElse σ p0) fun x11 s12 => f_X6_readPlain_b97 s12 p0) else (if p1 = (125 : Int32) then (gt_ (kd_ σ p0 = 8) <| bd_ (f_X6_closeIf σ p0) fun x13 s14 => f_X6_readPlain_b97 s14 p0) else (gt_ (kd_ σ p0 = 8) <| lt_ (fi_ σ 712 p0) fun x15 => if x15 = (1 : Int32) then (f_X6_readPlain_b90 σ p0 p1) else (bd_ (f_X6_beginPiece σ p0 (1 : Int32)) fun x18 s19 => f_X6_readPlain_b90 s19 p0 p1))))) else (f_X6_readPlain_b12 σ p0))
set_option maxHeartbeats 4000000 in
set_option maxRecDepth 100000 in
theorem c_X6_readPlain {l : Launch} {D : va_G} {cy : Nat → ClassId} {ka : Nat → Nat} {σ z : TH} {p0 : Nat} {p1 : Int32} {r : Unit} (hf : f_X6_readPlain σ p0 p1 = some (r, z)) : ct_ l D cy ka yX6_readPlain 2 45 [va_rf (some p0), .int p1] σ none z := by
  unfold f_X6_readPlain at hf
  refine v_start (cc := cX6_readPlain) (own := RX6) (maxL := 2) (ret := none) (nm := "readPlain") (by decide +kernel) kw_675 rfl rfl (by simp [lg_sl, va_rf_cat, cat_i, cat_l]) ?_
  refine v_eqL (L2 := [(0, va_rf (some p0)), (1, .int p1)]) (by simp [lv_args, va_rf_cat, cat_i, cat_l]) ?_
  refine v_iload_n (x := p1) dX6_readPlain_0 rfl 1 rfl ?_
  refine v_bipush (v := 32) dX6_readPlain_1 (by decide) ?_
  refine v_icmp_lt (tgt := 12) hf dX6_readPlain_3 (by decide) (fun hq hf => ?_) (fun hq hf => ?_)
  · refine v_sub [0] (L2 := [(0, va_rf (some p0))]) rfl ?_
    exact t_X6_readPlain_b12  hf
  · refine v_iload_n (x := p1) dX6_readPlain_6 rfl 1 rfl ?_
    refine v_bipush (v := 126) dX6_readPlain_7 (by decide) ?_
    refine v_icmp_le (tgt := 24) hf dX6_readPlain_9 (by decide) (fun hq hf => ?_) (fun hq hf => ?_)
    · refine v_iload_n (x := p1) dX6_readPlain_24 rfl 1 rfl ?_
      refine v_bipush (v := 123) dX6_readPlain_25 (by decide) ?_
      refine v_icmp_ne (tgt := 51) hf dX6_readPlain_27 (by decide) (fun hq hf => ?_) (fun hq hf => ?_)
      · refine v_aload_n (x := (some p0)) dX6_readPlain_30 rfl 0 rfl ?_
        refine v_iconst (v := 2) dX6_readPlain_31 (by decide) ?_
        obtain ⟨hk_p0, hf⟩ := gt_of hf
        obtain ⟨x6, s7, hcs7, hf⟩ := bd_of hf
        have hts7 := c_X6_beginPiece (l := l) (D := D) (cy := cy) (ka := ka) hcs7
        refine v_callV cb_7 hk_p0 (As := [.int (2 : Int32)]) (rest := []) hts7 yb_X6_beginPiece kw_680 kw_682 kp_21 rfl ⟨Nat.le_of_ble_eq_true rfl, Nat.le_of_ble_eq_true rfl⟩ rfl (cat_len (Nat.le_of_ble_eq_true rfl)) dX6_readPlain_32 ?_
        have hk_p0 := tk_ hts7.1 hk_p0
        show v_ l D cy ka cX6_readPlain RX6 2 none "readPlain" 2 45 (qf_ D cy σ z none) σ z _ 35 [(0, va_rf (some p0)), (1, .int p1)] []
        refine v_aload_n (x := (some p0)) dX6_readPlain_35 rfl 0 rfl ?_
        refine v_aload_n (x := (some p0)) dX6_readPlain_36 rfl 0 rfl ?_
        refine v_geti cb_7 hk_p0 9 709 rfl (by decide) rfl (lk_n kw_86 rfl) hf dX6_readPlain_37 (fun x8 hf => ?_)
        refine v_puti2 cb_7 hk_p0 13 713 rfl (by decide) rfl (lk_n kw_90 rfl) (Or.inl rfl) rfl rfl hf dX6_readPlain_40 (fun s9 hts9 hf => ?_)
        have hk_p0 := tk_ hts9 hk_p0
        refine v_aload_n (x := (some p0)) dX6_readPlain_43 rfl 0 rfl ?_
        refine v_iconst (v := 1) dX6_readPlain_44 (by decide) ?_
        refine v_puti2 cb_7 hk_p0 10 710 rfl (by decide) rfl (lk_n kw_87 rfl) (Or.inl rfl) rfl rfl hf dX6_readPlain_45 (fun s10 hts10 hf => ?_)
        have hk_p0 := tk_ hts10 hk_p0
        refine v_goto (tgt := 97) dX6_readPlain_48 (by decide) ?_
        refine v_sub [0] (L2 := [(0, va_rf (some p0))]) rfl ?_
        exact t_X6_readPlain_b97  hf
      · refine v_iload_n (x := p1) dX6_readPlain_51 rfl 1 rfl ?_
        refine v_bipush (v := 124) dX6_readPlain_52 (by decide) ?_
        refine v_icmp_ne (tgt := 64) hf dX6_readPlain_54 (by decide) (fun hq hf => ?_) (fun hq hf => ?_)
        · refine v_aload_n (x := (some p0)) dX6_readPlain_57 rfl 0 rfl ?_
          obtain ⟨hk_p0, hf⟩ := gt_of hf
          obtain ⟨x11, s12, hcs12, hf⟩ := bd_of hf
          have hts12 := c_X6_turnToElse (l := l) (D := D) (cy := cy) (ka := ka) hcs12
          refine v_callV cb_7 hk_p0 (As := []) (rest := []) hts12 yb_X6_turnToElse kw_684 kw_686 kp_22 rfl ⟨Nat.le_of_ble_eq_true rfl, Nat.le_of_ble_eq_true rfl⟩ rfl (cat_len (Nat.le_of_ble_eq_true rfl)) dX6_readPlain_58 ?_
          have hk_p0 := tk_ hts12.1 hk_p0
          show v_ l D cy ka cX6_readPlain RX6 2 none "readPlain" 2 45 (qf_ D cy σ z none) σ z _ 61 [(0, va_rf (some p0)), (1, .int p1)] []
          refine v_goto (tgt := 97) dX6_readPlain_61 (by decide) ?_
          refine v_sub [0] (L2 := [(0, va_rf (some p0))]) rfl ?_
          exact t_X6_readPlain_b97  hf
        · refine v_iload_n (x := p1) dX6_readPlain_64 rfl 1 rfl ?_
          refine v_bipush (v := 125) dX6_readPlain_65 (by decide) ?_
          refine v_icmp_ne (tgt := 77) hf dX6_readPlain_67 (by decide) (fun hq hf => ?_) (fun hq hf => ?_)
          · refine v_aload_n (x := (some p0)) dX6_readPlain_70 rfl 0 rfl ?_
            obtain ⟨hk_p0, hf⟩ := gt_of hf
            obtain ⟨x13, s14, hcs14, hf⟩ := bd_of hf
            have hts14 := c_X6_closeIf (l := l) (D := D) (cy := cy) (ka := ka) hcs14
            refine v_callV cb_7 hk_p0 (As := []) (rest := []) hts14 yb_X6_closeIf kw_696 kw_698 kp_25 rfl ⟨Nat.le_of_ble_eq_true rfl, Nat.le_of_ble_eq_true rfl⟩ rfl (cat_len (Nat.le_of_ble_eq_true rfl)) dX6_readPlain_71 ?_
            have hk_p0 := tk_ hts14.1 hk_p0
            show v_ l D cy ka cX6_readPlain RX6 2 none "readPlain" 2 45 (qf_ D cy σ z none) σ z _ 74 [(0, va_rf (some p0)), (1, .int p1)] []
            refine v_goto (tgt := 97) dX6_readPlain_74 (by decide) ?_
            refine v_sub [0] (L2 := [(0, va_rf (some p0))]) rfl ?_
            exact t_X6_readPlain_b97  hf
          · refine v_aload_n (x := (some p0)) dX6_readPlain_77 rfl 0 rfl ?_
            obtain ⟨hk_p0, hf⟩ := gt_of hf
            refine v_geti cb_7 hk_p0 12 712 rfl (by decide) rfl (lk_n kw_89 rfl) hf dX6_readPlain_78 (fun x15 hf => ?_)
            refine v_iconst (v := 1) dX6_readPlain_81 (by decide) ?_
            refine v_icmp_eq (tgt := 90) hf dX6_readPlain_82 (by decide) (fun hq hf => ?_) (fun hq hf => ?_)
            · refine v_sub [0, 1] (L2 := [(0, va_rf (some p0)), (1, .int p1)]) rfl ?_
              exact t_X6_readPlain_b90  hf
            · refine v_aload_n (x := (some p0)) dX6_readPlain_85 rfl 0 rfl ?_
              refine v_iconst (v := 1) dX6_readPlain_86 (by decide) ?_
              obtain ⟨x18, s19, hcs19, hf⟩ := bd_of hf
              have hts19 := c_X6_beginPiece (l := l) (D := D) (cy := cy) (ka := ka) hcs19
              refine v_callV cb_7 hk_p0 (As := [.int (1 : Int32)]) (rest := []) hts19 yb_X6_beginPiece kw_680 kw_682 kp_21 rfl ⟨Nat.le_of_ble_eq_true rfl, Nat.le_of_ble_eq_true rfl⟩ rfl (cat_len (Nat.le_of_ble_eq_true rfl)) dX6_readPlain_87 ?_
              have hk_p0 := tk_ hts19.1 hk_p0
              show v_ l D cy ka cX6_readPlain RX6 2 none "readPlain" 2 45 (qf_ D cy σ z none) σ z _ 90 [(0, va_rf (some p0)), (1, .int p1)] []
              refine v_sub [0, 1] (L2 := [(0, va_rf (some p0)), (1, .int p1)]) rfl ?_
              exact t_X6_readPlain_b90  hf
    · refine v_sub [0] (L2 := [(0, va_rf (some p0))]) rfl ?_
      exact t_X6_readPlain_b12  hf
theorem dX6_closeSum_0 : decode cX6_closeSum 0 = .ok (.aload_n 0, 1) := by decide +kernel
theorem dX6_closeSum_1 : decode cX6_closeSum 1 = .ok (.getfield 45, 3) := by decide +kernel
theorem dX6_closeSum_4 : decode cX6_closeSum 4 = .ok (.bipush 8, 2) := by decide +kernel
theorem dX6_closeSum_6 : decode cX6_closeSum 6 = .ok (.if_icmp .eq 13, 3) := by decide +kernel
theorem dX6_closeSum_9 : decode cX6_closeSum 9 = .ok (.aload_n 0, 1) := by decide +kernel
theorem dX6_closeSum_10 : decode cX6_closeSum 10 = .ok (.iconst 1, 1) := by decide +kernel
theorem dX6_closeSum_11 : decode cX6_closeSum 11 = .ok (.aload_n 0, 1) := by decide +kernel
theorem dX6_closeSum_12 : decode cX6_closeSum 12 = .ok (.getfield 42, 3) := by decide +kernel
theorem dX6_closeSum_15 : decode cX6_closeSum 15 = .ok (.invokevirtual 121, 3) := by decide +kernel
theorem dX6_closeSum_18 : decode cX6_closeSum 18 = .ok (.return_, 1) := by decide +kernel
theorem dX6_closeSum_19 : decode cX6_closeSum 19 = .ok (.aload_n 0, 1) := by decide +kernel
theorem dX6_closeSum_20 : decode cX6_closeSum 20 = .ok (.iconst 4, 1) := by decide +kernel
theorem dX6_closeSum_21 : decode cX6_closeSum 21 = .ok (.iconst 0, 1) := by decide +kernel
theorem dX6_closeSum_22 : decode cX6_closeSum 22 = .ok (.invokevirtual 134, 3) := by decide +kernel
theorem dX6_closeSum_25 : decode cX6_closeSum 25 = .ok (.pop, 1) := by decide +kernel
theorem dX6_closeSum_26 : decode cX6_closeSum 26 = .ok (.aload_n 0, 1) := by decide +kernel
theorem dX6_closeSum_27 : decode cX6_closeSum 27 = .ok (.iconst 0, 1) := by decide +kernel
theorem dX6_closeSum_28 : decode cX6_closeSum 28 = .ok (.putfield 45, 3) := by decide +kernel
theorem dX6_closeSum_31 : decode cX6_closeSum 31 = .ok (.return_, 1) := by decide +kernel
/-- LivesAhead$Reader.closeSum()V -/
def f_X6_closeSum (σ : TH) (p0 : Nat) : Option (Unit × TH) :=
  gt_ (kd_ σ p0 = 8) <| lt_ (fi_ σ 710 p0) fun x1 => if x1 = (8 : Int32) then (bd_ (f_X6_emit σ p0 (4 : Int32) (0 : Int32)) fun x2 s3 => lt_ (si_ s3 710 p0 (0 : Int32)) fun s4 => some ((), s4)) else (lt_ (fi_ σ 709 p0) fun x5 => bd_ (f_X6_fail σ p0 (1 : Int32) x5) fun x6 s7 => some ((), s7))
set_option maxHeartbeats 4000000 in
set_option maxRecDepth 100000 in
theorem c_X6_closeSum {l : Launch} {D : va_G} {cy : Nat → ClassId} {ka : Nat → Nat} {σ z : TH} {p0 : Nat} {r : Unit} (hf : f_X6_closeSum σ p0 = some (r, z)) : ct_ l D cy ka yX6_closeSum 1 23 [va_rf (some p0)] σ none z := by
  unfold f_X6_closeSum at hf
  refine v_start (cc := cX6_closeSum) (own := RX6) (maxL := 1) (ret := none) (nm := "closeSum") (by decide +kernel) kw_842 rfl rfl (by simp [lg_sl, va_rf_cat, cat_i, cat_l]) ?_
  refine v_eqL (L2 := [(0, va_rf (some p0))]) (by simp [lv_args, va_rf_cat, cat_i, cat_l]) ?_
  refine v_aload_n (x := (some p0)) dX6_closeSum_0 rfl 0 rfl ?_
  obtain ⟨hk_p0, hf⟩ := gt_of hf
  refine v_geti cb_7 hk_p0 10 710 rfl (by decide) rfl (lk_n kw_87 rfl) hf dX6_closeSum_1 (fun x1 hf => ?_)
  refine v_bipush (v := 8) dX6_closeSum_4 (by decide) ?_
  refine v_icmp_eq (tgt := 19) hf dX6_closeSum_6 (by decide) (fun hq hf => ?_) (fun hq hf => ?_)
  · refine v_aload_n (x := (some p0)) dX6_closeSum_19 rfl 0 rfl ?_
    refine v_iconst (v := 4) dX6_closeSum_20 (by decide) ?_
    refine v_iconst (v := 0) dX6_closeSum_21 (by decide) ?_
    obtain ⟨x2, s3, hcs3, hf⟩ := bd_of hf
    have hts3 := c_X6_emit (l := l) (D := D) (cy := cy) (ka := ka) hcs3
    refine v_callV cb_7 hk_p0 (As := [.int (4 : Int32), .int (0 : Int32)]) (rest := []) hts3 yb_X6_emit kw_688 kw_690 kp_23 rfl ⟨Nat.le_of_ble_eq_true rfl, Nat.le_of_ble_eq_true rfl⟩ rfl (cat_len (Nat.le_of_ble_eq_true rfl)) dX6_closeSum_22 ?_
    have hk_p0 := tk_ hts3.1 hk_p0
    show v_ l D cy ka cX6_closeSum RX6 1 none "closeSum" 1 23 (qf_ D cy σ z none) σ z _ 25 [(0, va_rf (some p0))] [.int x2]
    refine v_pop dX6_closeSum_25 rfl ?_
    refine v_aload_n (x := (some p0)) dX6_closeSum_26 rfl 0 rfl ?_
    refine v_iconst (v := 0) dX6_closeSum_27 (by decide) ?_
    refine v_puti2 cb_7 hk_p0 10 710 rfl (by decide) rfl (lk_n kw_87 rfl) (Or.inl rfl) rfl rfl hf dX6_closeSum_28 (fun s4 hts4 hf => ?_)
    have hk_p0 := tk_ hts4 hk_p0
    exact v_vret hf dX6_closeSum_31
  · refine v_aload_n (x := (some p0)) dX6_closeSum_9 rfl 0 rfl ?_
    refine v_iconst (v := 1) dX6_closeSum_10 (by decide) ?_
    refine v_aload_n (x := (some p0)) dX6_closeSum_11 rfl 0 rfl ?_
    refine v_geti cb_7 hk_p0 9 709 rfl (by decide) rfl (lk_n kw_86 rfl) hf dX6_closeSum_12 (fun x5 hf => ?_)
    obtain ⟨x6, s7, hcs7, hf⟩ := bd_of hf
    have hts7 := c_X6_fail (l := l) (D := D) (cy := cy) (ka := ka) hcs7
    refine v_callV cb_7 hk_p0 (As := [.int (1 : Int32), .int x5]) (rest := []) hts7 yb_X6_fail kw_676 kw_678 kp_20 rfl ⟨Nat.le_of_ble_eq_true rfl, Nat.le_of_ble_eq_true rfl⟩ rfl (cat_len (Nat.le_of_ble_eq_true rfl)) dX6_closeSum_15 ?_
    have hk_p0 := tk_ hts7.1 hk_p0
    show v_ l D cy ka cX6_closeSum RX6 1 none "closeSum" 1 23 (qf_ D cy σ z none) σ z _ 18 [(0, va_rf (some p0))] []
    exact v_vret hf dX6_closeSum_18
