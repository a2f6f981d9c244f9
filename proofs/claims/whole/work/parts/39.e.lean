/-! AT THE LAW'S ENTRY: what the Statement gives of the start, as the typed heap wants it. Written by wip/gen/mk39.py. -/
abbrev gv_ : Jvm.Cond := Jvm.Cond.and given_1 narrow_1
def tm_ (i : Nat) : Term := Term.string "LivesAhead$Reader" (([155, 161, 188, 190, 192, 194, 196, 166, 168, 170, 172, 174, 176, 178, 180, 182, 184, 186] : List Nat).getD i 0)
theorem fx_1 : ∀ i, i < 18 → Cond.exactly (tm_ i) "java/lang/String" ∈ flatC gv_ := by decide +kernel
theorem fx_2 : ∀ i, i < 18 → Cond.eq (.field (tm_ i) "java/lang/String" "coder" "B") (.int 0) ∈ flatC gv_ := by decide +kernel
theorem fx_3 : ∀ i, i < 18 → Cond.arrayOf (.field (tm_ i) "java/lang/String" "value" "[B") .byte ∈ flatC gv_ := by decide +kernel
theorem fx_4 : ∀ i, i < 18 → Cond.eq (.length (.field (tm_ i) "java/lang/String" "value" "[B")) (.int (Int32.ofNat (stl_.getD i 0))) ∈ flatC gv_ := by decide +kernel
theorem fx_5 : ∀ i, i < 18 → ∀ j, j < stl_.getD i 0 → Cond.eq (.elem (.field (tm_ i) "java/lang/String" "value" "[B") (.int (Int32.ofNat j))) (.int ((stb_.getD i []).getD j 0)) ∈ flatC gv_ := by decide +kernel
theorem fx_6 : ∀ q ∈ SRL, (q.1 = RX6 ∧ Term.string q.1 q.2.1 = tm_ q.2.2.2 ∧ q.2.2.2 < 18) ∨ (Cond.eq (tm_ q.2.2.2) (Term.string q.1 q.2.1) ∈ flatC gv_ ∧ q.2.2.2 < 18) := by decide +kernel
theorem fx_7 : ∀ q ∈ SRL, Cond.stringRef q.1 q.2.1 q.2.2.1 ∈ tables_1 := by decide +kernel
theorem fx_8 : ∀ i, i < 18 → ∀ j, j < 18 → stl_.getD i 0 = stl_.getD j 0 → (∀ k, k < stl_.getD i 0 → (stb_.getD i []).getD k 0 = (stb_.getD j []).getD k 0) → i = j := by decide +kernel
theorem fx_9 : ∀ i, i < 18 → stl_.getD i 0 < 100 := by decide +kernel
theorem fx_a : Cond.eq (.static "java/lang/String" "COMPACT_STRINGS" "Z") (.int 1) ∈ flatC gv_ ∧ Cond.exactly (.static "java/util/ArrayList" "DEFAULTCAPACITY_EMPTY_ELEMENTDATA" "[Ljava/lang/Object;") "[Ljava/lang/Object;" ∈ flatC gv_ ∧ Cond.arrayOf (.static "java/util/ArrayList" "DEFAULTCAPACITY_EMPTY_ELEMENTDATA" "[Ljava/lang/Object;") (.object "java/lang/Object") ∈ flatC gv_ ∧ Cond.eq (.length (.static "java/util/ArrayList" "DEFAULTCAPACITY_EMPTY_ELEMENTDATA" "[Ljava/lang/Object;")) (.int 0) ∈ flatC gv_ ∧ Cond.isRef (.static "jdk/internal/util/Preconditions" "SIOOBE_FORMATTER" "Ljava/util/function/BiFunction;") ∈ flatC gv_ ∧ Cond.isRef (.static "java/lang/Throwable" "UNASSIGNED_STACK" "[Ljava/lang/StackTraceElement;") ∈ flatC gv_ ∧ Cond.isRef (.static "java/lang/Throwable" "SUPPRESSED_SENTINEL" "Ljava/util/List;") ∈ flatC gv_ ∧ Cond.isRef (.mirror "[Ljava/lang/Object;") ∈ flatC gv_ := by decide +kernel
theorem fx_b : Cond.laysStatic "java/util/ArrayList" "DEFAULTCAPACITY_EMPTY_ELEMENTDATA" "[Ljava/lang/Object;" ∈ tables_1 ∧ Cond.laysStatic "java/lang/String" "COMPACT_STRINGS" "Z" ∈ tables_1 ∧ Cond.laysStatic "jdk/internal/util/Preconditions" "SIOOBE_FORMATTER" "Ljava/util/function/BiFunction;" ∈ tables_1 ∧ Cond.laysStatic "java/lang/Throwable" "UNASSIGNED_STACK" "[Ljava/lang/StackTraceElement;" ∈ tables_1 ∧ Cond.laysStatic "java/lang/Throwable" "SUPPRESSED_SENTINEL" "Ljava/util/List;" ∈ tables_1 ∧ Cond.initialized "java/util/ArrayList" ∈ tables_1 ∧ Cond.initialized "java/lang/String" ∈ tables_1 ∧ Cond.initialized "jdk/internal/util/Preconditions" ∈ tables_1 ∧ Cond.initialized "java/lang/Throwable" ∈ tables_1 := by decide +kernel
theorem fx_c : ∀ C ∈ AOL, Cond.arrayOver (.object C) ∈ tables_1 := by decide +kernel
theorem en_str {args : Array Value} {s : State} (hg : ∀ w ∈ flatC gv_, w.before args s = true) {A : Nat → Prop} (hA : ∀ a : Nat, a < s.heap.size → ¬ A a) : ∃ adK adV : Nat → Nat, vk_S 18 stl_ stb_ adK adV A s s.heap ∧ ∀ i : Nat, i < 18 → (tm_ i).eval args s none [] s = some (.ref (adK i)) := by
  have h0 : ∀ i : Nat, ∃ q : Nat × Nat, i < 18 → (tm_ i).eval args s none [] s = some (.ref q.1) ∧ va_O "java/lang/String" q.1 A s s.heap ∧ va_OF "java/lang/String" "coder" "B" (.int 0) q.1 A s s.heap ∧ va_OF "java/lang/String" "value" "[B" (.ref q.2) q.1 A s s.heap ∧ va_T .byte q.2 (stl_.getD i 0) (fun j => .int ((stb_.getD i []).getD j 0)) A s s.heap := by
    intro i
    by_cases hi : i < 18
    · obtain ⟨a, c, cA, kA, q1, q2, q3, q4, q5, q6, -⟩ := Cond.exactly_spec (args := args) (first := s) (o := none) (s := s) (idx := []) (t := tm_ i) (cls := "java/lang/String") (hg _ (fx_1 i hi))
      obtain ⟨t, ht, hT⟩ := va_Tof (f := fun j => .int ((stb_.getD i []).getD j 0)) (A := A) (show stl_.getD i 0 < 2 ^ 31 by have := fx_9 i hi; omega) (hg _ (fx_3 i hi)) (va_eqt (hg _ (fx_4 i hi))) (fun j hj => va_eqt (hg _ (fx_5 i hi j hj))) hA
      exact ⟨(a, t), fun _ => ⟨q1, ⟨cA, q3, q5, by rw [q6]; exact q2, hA a (Array.getElem?_eq_some_iff.mp q3).1⟩, vk_OFof q1 (va_eqt (hg _ (fx_2 i hi))) hA, vk_OFof q1 ht hA, hT⟩⟩
    · exact ⟨(0, 0), fun h => absurd h hi⟩
  obtain ⟨ad, had⟩ := Classical.axiomOfChoice h0
  refine ⟨fun i => (ad i).1, fun i => (ad i).2, ⟨fun i hi => (had i hi).2, fun i j hi hj e => ?_⟩, fun i hi => (had i hi).1⟩
  have e' : (ad i).1 = (ad j).1 := e
  obtain ⟨-, -, -, hv1, hT1⟩ := had i hi
  obtain ⟨-, -, -, hv2, hT2⟩ := had j hj
  rw [← e'] at hv2
  have ev : (ad i).2 = (ad j).2 := by
    obtain ⟨cf1, k1, fi1, f1, ce1, a1, -, a3, -, a5, -⟩ := hv1
    obtain ⟨cf2, k2, fi2, f2, ce2, b1, -, b3, -, b5, -⟩ := hv2
    cases a1.symm.trans b1
    cases a3.symm.trans b3
    have := Option.some.inj (a5.symm.trans b5)
    exact Value.ref.inj this
  rw [← ev] at hT2
  obtain ⟨c1, t1, -, -, -, t5, t6, -⟩ := hT1
  obtain ⟨c2, u1, -, -, -, u5, u6, -⟩ := hT2
  cases t1.symm.trans u1
  have hlen : stl_.getD i 0 = stl_.getD j 0 := by
    have h1 := t5.symm.trans u5
    exact (nI_eq (show stl_.getD i 0 < 2 ^ 31 by have := fx_9 i hi; omega) (show stl_.getD j 0 < 2 ^ 31 by have := fx_9 j hj; omega)).mp h1
  refine fx_8 i hi j hj hlen (fun k hk => ?_)
  have := (t6 k hk).symm.trans (u6 k (by rw [← hlen]; exact hk))
  exact Value.int.inj (Option.some.inj this)
theorem en_cls {s : State} {args : Array Value} (hts : ∀ w ∈ TBL, w.before args s = true) : ∃ D : va_G, ∀ (k : Nat) (q : vw_C), clz[k]? = some q → u_Kn s q.1 q.2.1 q.2.2 (D.1 k) (D.2 k) := by
  have h0 : ∀ k : Nat, ∃ d : ClassId × (Nat → Nat), ∀ q : vw_C, clz[k]? = some q → u_Kn s q.1 q.2.1 q.2.2 d.1 d.2 := by
    intro k
    match k with
    | 0 =>
      obtain ⟨c, f, h⟩ := u_known hts cb_0.2.2.2.1 (hts _ kw_43)
      exact ⟨(c, f), fun q hq => by cases hq; exact h⟩
    | 1 =>
      obtain ⟨c, f, h⟩ := u_known hts cb_1.2.2.2.1 (hts _ kw_193)
      exact ⟨(c, f), fun q hq => by cases hq; exact h⟩
    | 2 =>
      obtain ⟨c, f, h⟩ := u_known hts cb_2.2.2.2.1 (hts _ kw_1173)
      exact ⟨(c, f), fun q hq => by cases hq; exact h⟩
    | 3 =>
      obtain ⟨c, f, h⟩ := u_known hts cb_3.2.2.2.1 (hts _ kw_454)
      exact ⟨(c, f), fun q hq => by cases hq; exact h⟩
    | 4 =>
      obtain ⟨c, f, h⟩ := u_known hts cb_4.2.2.2.1 (hts _ kw_1102)
      exact ⟨(c, f), fun q hq => by cases hq; exact h⟩
    | 5 =>
      obtain ⟨c, f, h⟩ := u_known hts cb_5.2.2.2.1 (hts _ kw_138)
      exact ⟨(c, f), fun q hq => by cases hq; exact h⟩
    | 6 =>
      obtain ⟨c, f, h⟩ := u_known hts cb_6.2.2.2.1 (hts _ kw_1138)
      exact ⟨(c, f), fun q hq => by cases hq; exact h⟩
    | 7 =>
      obtain ⟨c, f, h⟩ := u_known hts cb_7.2.2.2.1 (hts _ kw_69)
      exact ⟨(c, f), fun q hq => by cases hq; exact h⟩
    | 8 =>
      obtain ⟨c, f, h⟩ := u_known hts cb_8.2.2.2.1 (hts _ kw_997)
      exact ⟨(c, f), fun q hq => by cases hq; exact h⟩
    | 9 =>
      obtain ⟨c, f, h⟩ := u_known hts cb_9.2.2.2.1 (hts _ kw_579)
      exact ⟨(c, f), fun q hq => by cases hq; exact h⟩
    | 10 =>
      obtain ⟨c, f, h⟩ := u_known hts cb_10.2.2.2.1 (hts _ kw_852)
      exact ⟨(c, f), fun q hq => by cases hq; exact h⟩
    | 11 =>
      obtain ⟨c, f, h⟩ := u_known hts cb_11.2.2.2.1 (hts _ kw_316)
      exact ⟨(c, f), fun q hq => by cases hq; exact h⟩
    | 12 =>
      obtain ⟨c, f, h⟩ := u_known hts cb_12.2.2.2.1 (hts _ kw_35)
      exact ⟨(c, f), fun q hq => by cases hq; exact h⟩
    | 13 =>
      obtain ⟨c, f, h⟩ := u_known hts cb_13.2.2.2.1 (hts _ kw_2170)
      exact ⟨(c, f), fun q hq => by cases hq; exact h⟩
    | 14 =>
      obtain ⟨c, f, h⟩ := u_known hts cb_14.2.2.2.1 (hts _ kw_2023)
      exact ⟨(c, f), fun q hq => by cases hq; exact h⟩
    | 15 =>
      obtain ⟨c, f, h⟩ := u_known hts cb_15.2.2.2.1 (hts _ kw_1425)
      exact ⟨(c, f), fun q hq => by cases hq; exact h⟩
    | 16 =>
      obtain ⟨c, f, h⟩ := u_known hts cb_16.2.2.2.1 (hts _ kw_1419)
      exact ⟨(c, f), fun q hq => by cases hq; exact h⟩
    | k + 17 => exact ⟨(0, fun _ => 0), fun q hq => by simp [clz] at hq⟩
  obtain ⟨d, hd⟩ := Classical.axiomOfChoice h0
  exact ⟨(fun k => (d k).1, fun k => (d k).2), fun k q hq => hd k q hq⟩
theorem en_ap {s : State} {args : Array Value} {ty : FieldType} (hp : (∀ C, ty ≠ .object C)) (h : (Cond.arrayClass ty).before args s = true) : ∃ c : ClassId, ArrOfT s c ty ∧ va_RA s c ty := by
  obtain ⟨c, k, comp, h1, h2, h3⟩ := Cond.arrayClass_spec h
  refine ⟨c, fun N z => ⟨(fun k h => by cases h), k, h2, comp, h3⟩, ?_⟩
  cases ty with
  | object C => exact absurd rfl (hp C)
  | _ => exact h1
theorem en_ao {s : State} {args : Array Value} {C : String} (h : (Cond.arrayOver (.object C)).before args s = true) : ∃ c : ClassId, ArrOfT s c (.object C) ∧ va_RA s c (.object C) := by
  obtain ⟨comp, c, k, h1, -, h3, h4, h5⟩ := Cond.arrayOver_spec h
  exact ⟨c, fun N z => ⟨(fun k h => by cases h), k, h3, comp, h4⟩, k, comp, h3, h4, h1, h5⟩
theorem en_arr {s : State} {args : Array Value} (hts : ∀ w ∈ TBL, w.before args s = true) (hto : ∀ C ∈ AOL, (Cond.arrayOver (.object C)).before args s = true) : ∃ cy : Nat → ClassId, ∀ (k : Nat) (q : ClassId × FieldType), (tyz cy)[k]? = some q → ArrOfT s q.1 q.2 ∧ va_RA s q.1 q.2 := by
  obtain ⟨c0, h0⟩ := en_ap (by intro C h; cases h) (hts _ kw_135)
  obtain ⟨c1, h1⟩ := en_ap (by intro C h; cases h) (hts _ kw_136)
  obtain ⟨c2, h2⟩ := en_ap (by intro C h; cases h) (hts _ kw_235)
  obtain ⟨c3, h3⟩ := en_ap (by intro C h; cases h) (hts _ kw_2293)
  obtain ⟨c4, h4⟩ := en_ao (hto "java/lang/Object" (by decide))
  obtain ⟨c5, h5⟩ := en_ao (hto RX8 (by decide))
  obtain ⟨c6, h6⟩ := en_ao (hto RX9 (by decide))
  obtain ⟨c7, h7⟩ := en_ao (hto RX13 (by decide))
  obtain ⟨c8, h8⟩ := en_ao (hto RX12 (by decide))
  refine ⟨fun k => ([c0, c1, c2, c3, c4, c5, c6, c7, c8] : List ClassId).getD (k - 20) 0, fun k q hq => ?_⟩
  match k, hq with
  | 0, hq => cases hq; exact h0
  | 1, hq => cases hq; exact h1
  | 2, hq => cases hq; exact h2
  | 3, hq => cases hq; exact h3
  | 4, hq => cases hq; exact h4
  | 5, hq => cases hq; exact h5
  | 6, hq => cases hq; exact h6
  | 7, hq => cases hq; exact h7
  | 8, hq => cases hq; exact h8
  | k + 9, hq => simp [tyz] at hq
theorem en_ev {s : State} {b L : Nat} {xs : Nat → Int32} (hts : ∀ w ∈ lw_tbl, w.before #[Value.ref b] s = true) (hX : va_X b L xs s s.heap) (hL : L ≤ 5120) (hgv : gv_.before #[Value.ref b] s = true) :
    ∃ ka : Nat → Nat, ev_ ka (fun q => s.heap.size ≤ q) s s.heap ∧ ka 301 = b ∧ ka 302 = L ∧ ka 200 < s.heap.size := by
  have hg := flat_of_before gv_ hgv
  have htt : ∀ w ∈ tables_1, w.before #[Value.ref b] s = true := fun w hw => hts w (List.mem_append_right _ hw)
  have hA : ∀ a : Nat, a < s.heap.size → ¬ (fun q : Nat => s.heap.size ≤ q) a := fun a h1 h2 => Nat.lt_irrefl _ (Nat.lt_of_lt_of_le h1 h2)
  obtain ⟨adK, adV, hS, hSe⟩ := en_str hg hA
  obtain ⟨f1, f2, f3, f4, f5, f6, f7, f8⟩ := fx_a
  obtain ⟨g1, g2, g3, g4, g5, g6, g7, g8, g9⟩ := fx_b
  obtain ⟨e, ce, cA, kA, q1, q2, q3, q4, q5, q6, -⟩ := Cond.exactly_spec (args := #[Value.ref b]) (first := s) (o := none) (s := s) (idx := []) (hg _ f2)
  obtain ⟨e', ht', hT'⟩ := va_Tof (N := 0) (f := fun _ => .null) (A := fun q : Nat => s.heap.size ≤ q) (by decide) (hg _ f3) (va_eqt (hg _ f4)) (fun j hj => absurd hj (Nat.not_lt_zero j)) hA
  have ee : e' = e := by
    have := ht'.symm.trans q1
    cases this
    rfl
  subst ee
  obtain ⟨mi, hmi⟩ := va_Mi.of (hg _ f8)
  refine ⟨fun k => if k < 100 then adK k else if k < 200 then adV (k - 100) else if k = 200 then e' else if k = 201 then mi else if k = 301 then b else if k = 302 then L else (xs (k - 1000)).toUInt32.toNat, ⟨fun w hw => ?_, fun q hq => ?_, ?_, ?_, ⟨?_, hT'⟩, ?_, ?_, ?_, hmi, ?_, fun C hC => va_AO.of (htt _ (fx_c C hC))⟩, rfl, rfl, ?_⟩
  · have h := List.mem_filter.mp hw
    exact va_Nw.of (nw_tab h.2) (hts w h.1)
  · refine vk_R.of (htt _ (fx_7 q hq)) ?_
    have hb := fx_6 q hq
    have hlt : q.2.2.2 < 18 := hb.elim (fun h => h.2.2) (fun h => h.2)
    have e1 : (if q.2.2.2 < 100 then adK q.2.2.2 else if q.2.2.2 < 200 then adV (q.2.2.2 - 100) else if q.2.2.2 = 200 then e' else if q.2.2.2 = 201 then mi else if q.2.2.2 = 301 then b else if q.2.2.2 = 302 then L else (xs (q.2.2.2 - 1000)).toUInt32.toNat) = adK q.2.2.2 := if_pos (by omega)
    show (Term.string q.1 q.2.1).eval #[Value.ref b] s none [] s = some (.ref (if q.2.2.2 < 100 then adK q.2.2.2 else if q.2.2.2 < 200 then adV (q.2.2.2 - 100) else if q.2.2.2 = 200 then e' else if q.2.2.2 = 201 then mi else if q.2.2.2 = 301 then b else if q.2.2.2 = 302 then L else (xs (q.2.2.2 - 1000)).toUInt32.toNat))
    rw [e1]
    rcases hb with h | h
    · rw [h.2.1]; exact hSe _ hlt
    · exact va_eqR (hg _ h.1) (hSe _ hlt)
  · refine ⟨fun i hi => ?_, fun i j hi hj e => ?_⟩
    · have k1 : (if i < 100 then adK i else if i < 200 then adV (i - 100) else if i = 200 then e' else if i = 201 then mi else if i = 301 then b else if i = 302 then L else (xs (i - 1000)).toUInt32.toNat) = adK i := if_pos (by omega)
      have k2 : (if 100 + i < 100 then adK (100 + i) else if 100 + i < 200 then adV (100 + i - 100) else if 100 + i = 200 then e' else if 100 + i = 201 then mi else if 100 + i = 301 then b else if 100 + i = 302 then L else (xs (100 + i - 1000)).toUInt32.toNat) = adV i := by
        rw [if_neg (by omega), if_pos (by omega), Nat.add_sub_cancel_left]
      have := hS.1 i hi
      dsimp only
      rw [k1, k2]
      exact this
    · have k1 : (if i < 100 then adK i else if i < 200 then adV (i - 100) else if i = 200 then e' else if i = 201 then mi else if i = 301 then b else if i = 302 then L else (xs (i - 1000)).toUInt32.toNat) = adK i := if_pos (by omega)
      have k2 : (if j < 100 then adK j else if j < 200 then adV (j - 100) else if j = 200 then e' else if j = 201 then mi else if j = 301 then b else if j = 302 then L else (xs (j - 1000)).toUInt32.toNat) = adK j := if_pos (by omega)
      dsimp only at e
      rw [k1, k2] at e
      exact hS.2 i j hi hj e
  · exact va_Zof (htt _ g2) (htt _ g7) (va_eqt (hg _ f1)) hA
  · exact va_Zof (htt _ g1) (htt _ g6) q1 hA
  · exact va_Zqof (htt _ g3) (htt _ g8) (hg _ f5) hA
  · exact vx_Zqof (htt _ g5) (htt _ g9) (hg _ f7) hA
  · exact vx_Zqof (htt _ g4) (htt _ g9) (hg _ f6) hA
  · obtain ⟨scr, h1, h2, h3, h4, h5⟩ := hX
    refine ⟨scr, h1, h2, h3, Nat.le_of_eq h4.symm, ?_, fun j hj => ?_, hA b (Array.getElem?_eq_some_iff.mp h1).1⟩
    · show scr.slots.size.toInt32 = Int32.ofNat L
      rw [h4]
    · have k2 : (if 1000 + j < 100 then adK (1000 + j) else if 1000 + j < 200 then adV (1000 + j - 100) else if 1000 + j = 200 then e' else if 1000 + j = 201 then mi else if 1000 + j = 301 then b else if 1000 + j = 302 then L else (xs (1000 + j - 1000)).toUInt32.toNat) = (xs j).toUInt32.toNat := by
        rw [if_neg (by omega), if_neg (by omega), if_neg (by omega), if_neg (by omega), if_neg (by omega), if_neg (by omega), Nat.add_sub_cancel_left]
      dsimp only
      rw [k2, h5 j hj]
      have : Int32.ofNat (xs j).toUInt32.toNat = xs j := by
        apply Int32.toBitVec_inj.mp
        simp
      rw [this]
  · exact (Array.getElem?_eq_some_iff.mp q3).1
