/-! THE CLASS'S PRINTER ON THE HEAP: the run. Written by wip/b/mk99z5.py. -/
theorem se9_n {s : SP} (h1 : s.1 ≤ 14) (h2 : s.2 ≤ 9999) : se9_ s = nI (s.1 * 2 ^ 16 + s.2) := by
  unfold se9_
  have q := Nat.shiftLeft_add_eq_or_of_lt (b := s.2) (i := 16) (by omega) s.1
  rw [Nat.shiftLeft_eq] at q
  rw [pk_shlN ((16 : Int32) &&& 31) 16 (by decide) (by omega), nx9_or, ← q]
theorem se9_k {s : SP} (h1 : s.1 ≤ 14) (h2 : s.2 ≤ 9999) : se9_ s >>> ((16 : Int32) &&& 31) = nI s.1 := by
  rw [se9_n h1 h2, pk_shrN (by omega) ((16 : Int32) &&& 31) 16 (by decide)]
  congr 1
  omega
theorem se9_d {s : SP} (h1 : s.1 ≤ 14) (h2 : s.2 ≤ 9999) : se9_ s &&& 65535 = nI s.2 := by
  rw [se9_n h1 h2, pk_andN (by omega) 16 (by decide)]
  congr 1
  omega
section RU9
variable {σ : TH} {R P B Z : Nat} {E : EV9} {r keep : Bool} {X0 Y : Nat → Int32} {S : List SP}
theorem k_runL (hP : hP_ σ R P B) (hY : Y = ai_ σ P) (hZ : kd_ σ Z = 20 ∧ ln_ σ Z = S.length ∧ S.length ≤ 1000) (hA : ∀ i, i < S.length → ai_ σ Z i = se9_ (S.getD i (0, 0))) (hs : ∀ s, s ∈ S → sk9_ r s ∧ (s.1 = 4 → eB_ E) ∧ (r = true → s.1 ≠ 8 ∧ s.1 ≠ 9 ∧ s.1 ≠ 10)) : ∀ (f a c : Nat) (q : QQ) (F X : Nat → Int32), S.length - a < f → a ≤ 20000 → c + (S.length - a) < 30000 → KN_ E r F Y → PQ_ E keep X0 c q F X → ∃ F' X', f_X4_run_b37 f (kh_ σ R B P F X Y) R (some Z) (nI a) = some (bb9_ (qte_ (qr_ E S f a q)), kh_ σ R B P F' X' Y) ∧ PQ_ E keep X0 (c + (S.length - a)) (qr_ E S f a q) F' X' ∧ ∀ d, d < 505 → F' d = F d := by
  obtain ⟨z1, z2, z3⟩ := hZ
  have zB : Z ≠ B := fun e => by
    rw [e, hP.2.2.2.1] at z1
    cases z1
  intro f
  induction f with
  | zero => intro a c q F X h; omega
  | succ f ih =>
    intro a c q F X hf ha hc hK h
    have kz : kd_ (kh_ σ R B P F X Y) Z = 20 := z1
    have lz : Int32.ofNat (ln_ (kh_ σ R B P F X Y) Z) = nI S.length := by
      show Int32.ofNat (ln_ σ Z) = nI S.length
      rw [z2]
      rfl
    have lz2 : ln_ (kh_ σ R B P F X Y) Z = S.length := z2
    have az : ∀ i, ai_ (kh_ σ R B P F X Y) Z i = ai_ σ Z i := fun i => by
      by_cases e : Z = P
      · refine (if_neg zB).trans ((if_pos e).trans ?_)
        rw [hY, e]
      · exact (if_neg zB).trans (if_neg e)
    have e13 : F 513 = bb9_ (qte_ q) := h.2.2.1.2.2
    conv => enter [1, F', 1, X', 1, 1]; rw [f_X4_run_b37]
    rw [nn_s, gt_t kz, lt_e, lz]
    conv => enter [1, F', 1, X']; unfold qr_
    by_cases y : S.length ≤ a
    · rw [if_pos (nI_le y (by omega)), if_pos y, gt_t (k6 hP), lt_e, kh_fi, e13, gt_t (bb9_01 _)]
      exact ⟨F, X, rfl, PQ_c h (by omega), fun _ _ => rfl⟩
    · have ga : ¬ nI a < 0 := nI_pos (by omega)
      have gs : S.getD a (0, 0) ∈ S := by
        have : S.getD a (0, 0) = S[a] := by simp [List.getD, Nat.lt_of_not_le y]
        rw [this]
        exact List.getElem_mem _
      obtain ⟨k1, k2, k3⟩ := hs _ gs
      obtain ⟨s, hsd⟩ : ∃ s, s = S.getD a (0, 0) := ⟨_, rfl⟩
      rw [if_neg (nI_ge (by omega) (by omega)), if_neg y, nI_clamp (by omega), lz2, gt_t (ix9_ (k := a) (M := S.length) (by omega) (by omega)), lt_e, az, hA a (by omega), lt_e, gt_t (ix9_ (k := a) (M := S.length) (by omega) (by omega)), lt_e, lt_e, lt_e, nI_1, ← hsd]
      rw [← hsd] at k1 k2 k3
      have s1 : s.1 ≤ 14 := k1.1
      have s2 : s.2 ≤ 9999 := k1.2.1
      rw [se9_k s1 s2, se9_d s1 s2]
      have jump : ∃ F' X', f_X4_run_b83 (f_X4_run_b37 f) (kh_ σ R B P F X Y) R (some Z) (nI (a + 1)) (nI s.2) = some (bb9_ (qte_ (qr_ E S f (max (a + 1) s.2) q)), kh_ σ R B P F' X' Y) ∧ PQ_ E keep X0 (c + (S.length - a)) (qr_ E S f (max (a + 1) s.2) q) F' X' ∧ ∀ d, d < 505 → F' d = F d := by
        have em : (if nI (a + 1) < nI s.2 then nI s.2 else nI (a + 1)) = nI (max (a + 1) s.2) := by
          by_cases u : a + 1 < s.2
          · rw [if_pos (nI_lt u (by omega)), Nat.max_eq_right (by omega)]
          · rw [if_neg (nI_nlt (by omega) (by omega)), Nat.max_eq_left (by omega)]
        unfold f_X4_run_b83 f_X4_run_b101
        rw [lt_e, em]
        obtain ⟨F1, X1, i1, i2, i3⟩ := ih (max (a + 1) s.2) c q F X (by omega) (by omega) (by omega) hK h
        exact ⟨F1, X1, i1, PQ_c i2 (by omega), i3⟩
      have go : ¬ s.1 = 14 → ∃ F' X', f_X4_run_b93 (f_X4_run_b37 f) (kh_ σ R B P F X Y) R (some Z) (nI (a + 1)) (nI s.1) (nI s.2) = some (bb9_ (qte_ (qr_ E S f (a + 1) (qs_ E q s))), kh_ σ R B P F' X' Y) ∧ PQ_ E keep X0 (c + (S.length - a)) (qr_ E S f (a + 1) (qs_ E q s)) F' X' ∧ ∀ d, d < 505 → F' d = F d := fun n14 => by
        obtain ⟨F1, X1, q1, u1, o1⟩ := k_perf (Y := Y) (k := s.1) (v := s.2) hP hK h (by omega) k1 k2 k3 n14
        have hK1 : KN_ E r F1 Y := by
          refine ⟨hK.1, fun e => ?_⟩
          obtain ⟨m1, m2, m3⟩ := hK.2 e
          rw [o1 502 (by decide), o1 503 (by decide), o1 504 (by decide)]
          exact ⟨m1, m2, m3⟩
        unfold f_X4_run_b93 f_X4_run_b101
        rw [gt_t (k6 hP), q1, bd_s]
        obtain ⟨F2, X2, i1, i2, i3⟩ := ih (a + 1) (c + 1) (qs_ E q s) F1 X1 (by omega) (by omega) (by omega) hK1 u1
        exact ⟨F2, X2, i1, PQ_c i2 (by omega), fun d hd => (i3 d hd).trans (o1 d hd)⟩
      by_cases n14 : s.1 = 14
      · rw [if_pos ((iq9_ (b := 14) (B := 14) rfl (by omega) (by decide)).mpr n14), if_pos (Or.inl n14)]
        exact jump
      · rw [if_neg (fun u => n14 ((iq9_ (b := 14) (B := 14) rfl (by omega) (by decide)).mp u))]
        by_cases n13 : s.1 = 13
        · rw [if_pos ((iq9_ (b := 13) (B := 13) rfl (by omega) (by decide)).mpr n13), gt_t (k6 hP), lt_e, kh_fi, e13]
          cases et : qte_ q with
          | false =>
            rw [if_pos (show bb9_ false = 0 from rfl), if_pos (Or.inr ⟨n13, rfl⟩)]
            exact jump
          | true =>
            rw [if_neg (show ¬ bb9_ true = 0 by decide), if_neg (fun u => u.elim n14 (fun u => by cases u.2))]
            exact go n14
        · rw [if_neg (fun u => n13 ((iq9_ (b := 13) (B := 13) rfl (by omega) (by decide)).mp u)), if_neg (fun u => u.elim n14 (fun u => n13 u.1))]
          exact go n14
/-- THE PRINTER RUNS -/
theorem k_run (hP : hP_ σ R P B) (hZ : kd_ σ Z = 20 ∧ ln_ σ Z = S.length ∧ S.length ≤ 1000) (hA : ∀ i, i < S.length → ai_ σ Z i = se9_ (S.getD i (0, 0))) (hs : ∀ s, s ∈ S → sk9_ r s ∧ (s.1 = 4 → eB_ E) ∧ (r = true → s.1 ≠ 8 ∧ s.1 ≠ 9 ∧ s.1 ≠ 10)) (hK : KN_ E r (fun c => fi_ σ c R) (ai_ σ P)) (v : Int32) (hv : v = bb9_ keep) : ∃ le re F' X', f_X4_run σ R (some Z) v = some (bb9_ (qte_ (qr_ E S fu_ 0 (q0_ le re))), kh_ σ R B P F' X' (ai_ σ P)) ∧ PU_ keep (ai_ σ B) (qou_ (qr_ E S fu_ 0 (q0_ le re))) F' X' ∧ ∀ d, d < 505 → F' d = fi_ σ d R := by
  subst hv
  obtain ⟨re, hre⟩ : ∃ re : Nat, (fi_ σ 510 R = 60 ↔ re = 60) ∧ (fi_ σ 510 R = 62 ↔ re = 62) := by
    by_cases y1 : fi_ σ 510 R = 60
    · exact ⟨60, ⟨fun _ => rfl, fun _ => y1⟩, ⟨fun e => absurd (y1.symm.trans e) (by decide), fun e => absurd e (by decide)⟩⟩
    · by_cases y2 : fi_ σ 510 R = 62
      · exact ⟨62, ⟨fun e => absurd e y1, fun e => absurd e (by decide)⟩, ⟨fun _ => rfl, fun _ => y2⟩⟩
      · exact ⟨0, ⟨fun e => absurd e y1, fun e => absurd e (by decide)⟩, ⟨fun e => absurd e y2, fun e => absurd e (by decide)⟩⟩
  have ex : f_X4_run σ R (some Z) (bb9_ keep) = f_X4_run_b37 fu_ (kh_ σ R B P (upd (upd (upd (upd (upd (upd (upd (fun c => fi_ σ c R) 506 (bb9_ keep)) 505 0) 507 0) 508 0) 511 0) 512 0) 513 0) (ai_ σ B) (ai_ σ P)) R (some Z) 0 := by
    conv => lhs; rw [← kh_self (σ := σ) (R := R) (S := B) (K := P)]
    unfold f_X4_run
    rw [gt_t (k6 hP), gt_t (bb9_01 keep), lt_e, kh_si, lt_e, kh_si, lt_e, kh_si, lt_e, kh_si, lt_e, kh_si, lt_e, kh_si, lt_e, kh_si]
  have hq : PQ_ E keep (ai_ σ B) 0 (q0_ (fi_ σ 509 R) re) (upd (upd (upd (upd (upd (upd (upd (fun c => fi_ σ c R) 506 (bb9_ keep)) 505 0) 507 0) 508 0) 511 0) 512 0) 513 0) (ai_ σ B) := by
    refine ⟨⟨rfl, rfl, fun _ i hi => absurd hi (Nat.not_lt_zero _), fun _ => rfl⟩, ⟨rfl, rfl, rfl, hre.1, hre.2⟩, ⟨rfl, ⟨rfl, Nat.zero_le _⟩, rfl⟩, Nat.zero_le _, fun _ => ?_⟩
    show -(20000 * ((0 : Nat) : Int)) ≤ (0 : Int32).toInt ∧ (0 : Int32).toInt ≤ 20000 * ((0 : Nat) : Int)
    simp
  have hf : S.length - 0 < fu_ := Nat.lt_of_le_of_lt (show S.length - 0 ≤ 1000 by omega) (by decide)
  obtain ⟨F1, X1, i1, i2, i3⟩ := k_runL (E := E) (r := r) hP rfl hZ hA hs fu_ 0 0 (q0_ (fi_ σ 509 R) re) _ _ hf (by omega) (by omega) ⟨hK.1, hK.2⟩ hq
  exact ⟨_, re, F1, X1, ex.trans i1, i2.1, fun d hd => (i3 d hd).trans (by
    unfold upd
    rw [if_neg (by omega), if_neg (by omega), if_neg (by omega), if_neg (by omega), if_neg (by omega), if_neg (by omega), if_neg (by omega)])⟩
end RU9
