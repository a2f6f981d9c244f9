/-! THE CLASS'S HEAP, and how it stands for what the reference holds (A: its contents; N: its counters; G: where the class's objects lie). Written by wip/b/mk43.py. -/
def KC (r : Nat) : Nat := ([13, 1, 1, 1, 1, 1, 1, 1, 1, 20, 8, 21, 20, 20, 6, 20, 21, 2, 20, 20, 20, 22, 20, 0, 0, 0, 0, 0, 0, 0, 12, 4, 25, 26, 20, 20, 10, 11, 20, 11, 20, 9, 20, 20, 5, 7, 3, 20, 20, 0, 0, 24, 24, 24, 24, 24, 24, 24, 24] : List Nat).getD r 0
def LC (r : Nat) : Nat := ([0, 0, 0, 0, 0, 0, 0, 0, 0, 10, 0, 400, 1024, 5, 0, 21, 1024, 0, 14, 14, 14, 14, 15, 0, 0, 0, 0, 0, 0, 0, 0, 0, 10, 14, 14, 14, 0, 0, 0, 0, 0, 0, 3, 3, 0, 0, 0, 10, 10, 0, 0, 0, 0, 0, 0, 0, 0, 0, 0] : List Nat).getD r 0
def xn_ (m : CE) : Nat := m.1
def xi_ (m : CE) : Nat → Int32 := m.2.1
def xr_ (m : CE) : Nat → Option Nat := m.2.2.1
def xa_ (m : CE) : Nat → Int32 := m.2.2.2.2.1
def xq_ (m : CE) : Nat → Option Nat := m.2.2.2.2.2.1
theorem xn_ce (σ : TH) (a : Nat) : xn_ (ce_ σ a) = ln_ σ a := rfl
theorem xi_ce (σ : TH) (a c : Nat) : xi_ (ce_ σ a) c = fi_ σ c a := rfl
theorem xr_ce (σ : TH) (a c : Nat) : xr_ (ce_ σ a) c = fr_ σ c a := rfl
theorem xa_ce (σ : TH) (a : Nat) : xa_ (ce_ σ a) = ai_ σ a := rfl
theorem xq_ce (σ : TH) (a : Nat) : xq_ (ce_ σ a) = ar_ σ a := rfl
/-- THE CONTENTS of the reference: whole numbers, arrays, paragraphs, their bytes, rules, editions -/
abbrev AS : Type := (Nat → Int32) × (Nat → Nat → Int32) × (Nat → Nat → Int32) × (Nat → Nat → Int32) × (Nat → Nat) × (Nat → Nat → Int32) × (Nat → Nat) × (Nat → Nat → Int32) × (Nat → Nat → Int32) × (Nat → Nat → Int32)
def aS (A : AS) : Nat → Int32 := A.1
def aV (A : AS) : Nat → Nat → Int32 := A.2.1
def aP (A : AS) : Nat → Nat → Int32 := A.2.2.1
def aB (A : AS) : Nat → Nat → Int32 := A.2.2.2.1
def aL (A : AS) : Nat → Nat := A.2.2.2.2.1
def aR (A : AS) : Nat → Nat → Int32 := A.2.2.2.2.2.1
def aM (A : AS) : Nat → Nat := A.2.2.2.2.2.2.1
def aE (A : AS) : Nat → Nat → Int32 := A.2.2.2.2.2.2.2.1
def aD (A : AS) : Nat → Nat → Int32 := A.2.2.2.2.2.2.2.2.1
def aF (A : AS) : Nat → Nat → Int32 := A.2.2.2.2.2.2.2.2.2
def as_ (σ : TH) (y : Nat) (G : GH) : AS := (fun j => fi_ σ (1600 + j) y, fun j => if j ∈ MA then ai_ σ (ga_ G j 0) else fun _ => 0, fun c k => if c < 1500 ∧ k < gc_ G 100 then fi_ σ c (ga_ G 100 k) else 0, fun k => if k < gc_ G 101 then ai_ σ (ga_ G 101 k) else fun _ => 0, fun k => if k < gc_ G 101 then ln_ σ (ga_ G 101 k) else 0, fun k => if k < gc_ G 103 then ai_ σ (ga_ G 103 k) else fun _ => 0, fun k => if k < gc_ G 103 then ln_ σ (ga_ G 103 k) else 0, fun c k => if c < 1400 ∧ k < gc_ G 104 then fi_ σ c (ga_ G 104 k) else 0, fun k => if k < gc_ G 105 then ai_ σ (ga_ G 105 k) else fun _ => 0, fun k => if k < gc_ G 106 then ai_ σ (ga_ G 106 k) else fun _ => 0)
theorem as_V {σ : TH} {y : Nat} {G : GH} {j : Nat} (h : j ∈ MA) : aV (as_ σ y G) j = ai_ σ (ga_ G j 0) := if_pos h
theorem as_S {σ : TH} {y : Nat} {G : GH} {j : Nat} : aS (as_ σ y G) j = fi_ σ (1600 + j) y := rfl
theorem as_bm (σ z : TH) (y : Nat) (G : GH) : as_ (bm_ σ z) y G = as_ σ y G := rfl
/-- a whole number is written -/
theorem as_si (σ : TH) (y : Nat) (G : GH) (j c : Nat) (v : Int32) (hc : 1600 + j = c) : as_ (si_ σ c y v) y G = (fun q => if q = j then v else aS (as_ σ y G) q, (as_ σ y G).2) := by
  subst hc
  have e1 : (fun q => fi_ (si_ σ (1600 + j) y v) (1600 + q) y) = fun q => if q = j then v else fi_ σ (1600 + q) y := funext fun q => by
    by_cases h : q = j
    · subst h; rw [if_pos rfl, fi_si, up2_s]
    · rw [if_neg h, fi_si, up2_c (by omega)]
  have e2 : (fun c k => if c < 1500 ∧ k < gc_ G 100 then fi_ (si_ σ (1600 + j) y v) c (ga_ G 100 k) else 0) = fun c k => if c < 1500 ∧ k < gc_ G 100 then fi_ σ c (ga_ G 100 k) else 0 := funext fun c => funext fun k => by
    by_cases h : c < 1500 ∧ k < gc_ G 100
    · rw [if_pos h, if_pos h, fi_si, up2_c (by omega)]
    · rw [if_neg h, if_neg h]
  have e3 : (fun c k => if c < 1400 ∧ k < gc_ G 104 then fi_ (si_ σ (1600 + j) y v) c (ga_ G 104 k) else 0) = fun c k => if c < 1400 ∧ k < gc_ G 104 then fi_ σ c (ga_ G 104 k) else 0 := funext fun c => funext fun k => by
    by_cases h : c < 1400 ∧ k < gc_ G 104
    · rw [if_pos h, if_pos h, fi_si, up2_c (by omega)]
    · rw [if_neg h, if_neg h]
  unfold as_
  rw [e1, e2, e3]
  rfl
/-- a place of an array of its own is written -/
theorem as_sa {σ : TH} {y : Nat} {G : GH} {N : Nat → Nat} (hm : mo_ σ y G N) (j i : Nat) (v : Int32) (hj : j ∈ MA) : as_ (sa_ σ (ga_ G j 0) i v) y G = ((as_ σ y G).1, up2_ (aV (as_ σ y G)) j i v, (as_ σ y G).2.2) := by
  have hj0 : 0 < gc_ G j := by rw [(hm.2.2.1 j hj).1]; decide
  have hlt : ∀ r, r ∈ MA → r < 100 := by decide
  have e1 : (fun q => if q ∈ MA then ai_ (sa_ σ (ga_ G j 0) i v) (ga_ G q 0) else fun _ => 0) = up2_ (fun q => if q ∈ MA then ai_ σ (ga_ G q 0) else fun _ => 0) j i v := funext fun q => by
    by_cases h : q ∈ MA
    · rw [if_pos h, ai_sa]
      by_cases e : q = j
      · subst e
        funext z
        by_cases ez : z = i
        · subst ez; rw [up2_s, up2_s]
        · rw [up2_n ez, up2_n ez, if_pos h]
      · rw [up2_row (sh_ne hm.1 (by rw [(hm.2.2.1 q h).1]; decide) hj0 (Or.inl e)), up2_c e, if_pos h]
    · rw [if_neg h, up2_c (fun e => h (by rw [e]; exact hj)), if_neg h]
  have e2 : ∀ r, 100 ≤ r → (fun k => if k < gc_ G r then ai_ (sa_ σ (ga_ G j 0) i v) (ga_ G r k) else fun _ => (0 : Int32)) = fun k => if k < gc_ G r then ai_ σ (ga_ G r k) else fun _ => 0 := fun r hr => funext fun k => by
    by_cases h : k < gc_ G r
    · rw [if_pos h, if_pos h, ai_sa, up2_row (sh_ne hm.1 h hj0 (Or.inl (by have := hlt j hj; omega)))]
    · rw [if_neg h, if_neg h]
  unfold as_
  rw [e1, e2 101 (by decide), e2 103 (by decide), e2 105 (by decide), e2 106 (by decide)]
  rfl
/-- the last of the first n that has it -/
def la_ (q : Nat → Bool) : Nat → Option Nat
  | 0 => none
  | n + 1 => if q n = true then some n else la_ q n
def tq_ (A : AS) (p k : Int32) : Nat → Bool := fun t => decide (aV A 20 t = p) && decide (aV A 21 t = k)
def lt9_ (A : AS) (N : Nat → Nat) (p k : Nat) : Option Nat := la_ (tq_ A (nI p) (nI k)) (N 17)
def st_ (A : AS) (N : Nat → Nat) (p : Nat) : Nat := cn_ (fun k => decide (aP A 1400 k = nI p)) (N 47)
/-- a paragraph's place in its story -/
def pl_ (A : AS) (k : Nat) : Nat := cn_ (fun q => decide (aP A 1400 q = aP A 1400 k)) k
/-- how many facts a rumour tells -/
def fn9_ (A : AS) (r : Nat) : Nat := if aV A 66 (3 * r) = -1 then 0 else if aV A 66 (3 * r + 1) = -1 then 1 else if aV A 66 (3 * r + 2) = -1 then 2 else 3
section RCS
variable (ka : Nat → Nat) (TX : Nat → Nat → (Nat → Int32) → Nat → (Nat → Int32) → Prop)
/-- what the i-th object of role r holds -/
def ob_ (A : AS) (G : GH) (N : Nat → Nat) (r i : Nat) (m : CE) : Prop := match r with
  | 0 => (xr_ m 1200 = some (ga_ G 1 0) ∧ xr_ m 1201 = some (ga_ G 2 0) ∧ xr_ m 1202 = some (ga_ G 3 0) ∧ xr_ m 1203 = some (ga_ G 4 0) ∧ xr_ m 1204 = some (ga_ G 5 0) ∧ xr_ m 1205 = some (ga_ G 6 0) ∧ xr_ m 1206 = some (ga_ G 7 0) ∧ xr_ m 1207 = some (ga_ G 9 0) ∧ xr_ m 1208 = some (ga_ G 10 0) ∧ xr_ m 1209 = some (ga_ G 14 0) ∧ xr_ m 1210 = some (ga_ G 17 0) ∧ xr_ m 1218 = some (ga_ G 8 0)) ∧ xi_ m 1211 = aS A 17 ∧ xi_ m 1212 = aS A 47 ∧ xi_ m 1213 = aS A 6 ∧ xi_ m 1214 = aS A 1 ∧ xi_ m 1215 = aS A 42 ∧ xi_ m 1216 = aS A 56 ∧ xi_ m 1217 = aS A 57 ∧ xi_ m 1219 = aS A 87
  | 1 => xi_ m 2 = nI (N 4) ∧ xr_ m 1 = some (if gc_ G 51 = 0 then ka 200 else ga_ G 51 0) ∧ (gc_ G 51 = 0 → N 4 = 0)
  | 2 => xi_ m 2 = nI (N 5) ∧ xr_ m 1 = some (if gc_ G 52 = 0 then ka 200 else ga_ G 52 0) ∧ (gc_ G 52 = 0 → N 5 = 0)
  | 3 => xi_ m 2 = nI (N 58) ∧ xr_ m 1 = some (if gc_ G 53 = 0 then ka 200 else ga_ G 53 0) ∧ (gc_ G 53 = 0 → N 58 = 0)
  | 4 => xi_ m 2 = nI (N 59) ∧ xr_ m 1 = some (if gc_ G 54 = 0 then ka 200 else ga_ G 54 0) ∧ (gc_ G 54 = 0 → N 59 = 0)
  | 5 => xi_ m 2 = nI (N 69) ∧ xr_ m 1 = some (if gc_ G 55 = 0 then ka 200 else ga_ G 55 0) ∧ (gc_ G 55 = 0 → N 69 = 0)
  | 6 => xi_ m 2 = nI (N 70) ∧ xr_ m 1 = some (if gc_ G 56 = 0 then ka 200 else ga_ G 56 0) ∧ (gc_ G 56 = 0 → N 70 = 0)
  | 7 => xi_ m 2 = nI (N 71) ∧ xr_ m 1 = some (if gc_ G 57 = 0 then ka 200 else ga_ G 57 0) ∧ (gc_ G 57 = 0 → N 71 = 0)
  | 8 => xi_ m 2 = nI (N 86) ∧ xr_ m 1 = some (if gc_ G 58 = 0 then ka 200 else ga_ G 58 0) ∧ (gc_ G 58 = 0 → N 86 = 0)
  | 9 => ∀ k, k < 10 → xa_ m k = aV A 18 k
  | 10 => xr_ m 700 = some (ga_ G 11 0) ∧ xr_ m 704 = some (ga_ G 12 0) ∧ xr_ m 705 = some (ga_ G 13 0) ∧ xi_ m 701 = aS A 30 ∧ xi_ m 702 = aS A 3 ∧ (aS A 1 = 4 → xi_ m 703 = aS A 2) ∧ (aS A 1 ≠ 4 → aS A 2 = -1)
  | 11 => ∀ j, j < 400 → xa_ m j = aV A 26 j
  | 14 => xr_ m 500 = some (ga_ G 15 0) ∧ xr_ m 501 = some (ga_ G 16 0)
  | 16 => N 42 ≤ 1024 ∧ ∀ j, j < N 42 → xa_ m j = aV A 28 j
  | 17 => xr_ m 100 = some (ga_ G 18 0) ∧ xr_ m 101 = some (ga_ G 19 0) ∧ xr_ m 102 = some (ga_ G 20 0) ∧ xr_ m 103 = some (ga_ G 21 0) ∧ xr_ m 104 = some (ga_ G 22 0)
  | 30 => xi_ m 1100 = aV A 7 i ∧ xi_ m 1101 = bi_ (aV A 14 i = 0) ∧ (aV A 14 i = 0 ∨ aV A 14 i = 1)
  | 31 => xi_ m 300 = nI i ∧ xi_ m 301 = aV A 8 i ∧ xi_ m 302 = aV A 9 i ∧ xi_ m 303 = aV A 10 i ∧ xi_ m 304 = aV A 11 i ∧ xi_ m 305 = aV A 12 i ∧ xi_ m 306 = aV A 16 i ∧ xi_ m 307 = aV A 13 i ∧ xi_ m 313 = nI (st_ A N i) ∧ xr_ m 309 = some (ga_ G 32 i) ∧ xr_ m 310 = some (ga_ G 33 i) ∧ xr_ m 311 = some (ga_ G 34 i) ∧ xr_ m 312 = some (ga_ G 35 i) ∧ aV A 15 i = bi_ (0 ≤ aV A 12 i) ∧ (aV A 16 i = 0 ∨ aV A 16 i = 1)
  | 32 => ∀ k, k < 10 → xq_ m k = (lt9_ A N i k).map (ga_ G 36) ∧ (aV A 19 (10 * i + k) = -1 ↔ lt9_ A N i k = none)
  | 33 => ∀ k, k < N 47 → aP A 1400 k = nI i → xq_ m (pl_ A k) = some (ga_ G 37 k)
  | 34 => ∀ k, k < N 47 → aP A 1400 k = nI i → xa_ m (pl_ A k) = aP A 1402 k
  | 35 => ∀ k, k < N 47 → aP A 1400 k = nI i → xa_ m (pl_ A k) = aP A 1403 k
  | 36 => xi_ m 900 = aV A 22 i ∧ xi_ m 901 = aV A 24 i ∧ xi_ m 902 = aV A 23 i ∧ xi_ m 903 = nI (cn_ (tq_ A (aV A 20 i) (aV A 21 i)) (i + 1)) ∧ xr_ m 904 = (la_ (tq_ A (aV A 20 i) (aV A 21 i)) i).map (ga_ G 36) ∧ (la_ (tq_ A (aV A 20 i) (aV A 21 i)) (N 17) = some i → xi_ m 905 = aV A 19 (10 * (aV A 20 i).toNatClampNeg + (aV A 21 i).toNatClampNeg)) ∧ (aV A 24 i = 0 ∨ aV A 24 i = 1)
  | 37 => aP A 1401 i = nI (pl_ A i) ∧ xr_ m 1000 = some (ga_ G 38 i) ∧ xi_ m 1001 = aP A 1404 i ∧ xi_ m 1002 = aP A 1405 i
  | 38 => TX 0 (aL A i) (aB A i) (xn_ m) (xa_ m)
  | 39 => xr_ m 1000 = some (ga_ G 40 i)
  | 40 => TX 1 (aM A i) (aR A i) (xn_ m) (xa_ m)
  | 41 => xi_ m 800 = aV A 61 i ∧ xi_ m 801 = aV A 62 i ∧ xi_ m 802 = aV A 63 i ∧ xi_ m 803 = aV A 64 i ∧ xi_ m 804 = aV A 65 i ∧ xr_ m 805 = some (ga_ G 42 i) ∧ xr_ m 806 = some (ga_ G 43 i) ∧ xi_ m 807 = nI (fn9_ A i) ∧ xi_ m 809 = aV A 68 i ∧ (aV A 68 i = 0 ∨ aV A 68 i = 1)
  | 42 => ∀ k, k < fn9_ A i → xa_ m k = aV A 66 (3 * i + k)
  | 43 => ∀ k, k < fn9_ A i → xa_ m k = aV A 67 (3 * i + k)
  | 44 => xi_ m 400 = aV A 72 i ∧ xi_ m 401 = aV A 73 i ∧ xi_ m 402 = aV A 74 i ∧ xi_ m 403 = aV A 75 i ∧ xi_ m 404 = aV A 76 i ∧ xi_ m 405 = aV A 77 i
  | 45 => xi_ m 600 = aV A 78 i ∧ xi_ m 601 = aV A 79 i ∧ xi_ m 602 = (if aV A 80 i = -1 then 0 else aV A 80 i) ∧ xi_ m 603 = aV A 81 i ∧ (aV A 81 i = 0 ∨ aV A 81 i = 1)
  | 46 => xi_ m 200 = aE A 1300 i ∧ xi_ m 201 = aE A 1301 i ∧ xi_ m 202 = aE A 1302 i ∧ xi_ m 203 = aE A 1303 i ∧ xi_ m 204 = aE A 1304 i ∧ xi_ m 205 = aE A 1305 i ∧ xi_ m 206 = aE A 1306 i ∧ xi_ m 207 = aE A 1308 i ∧ xr_ m 208 = some (ga_ G 47 i) ∧ xr_ m 209 = some (ga_ G 48 i)
  | 47 => ∀ k, k < 10 → aE A 1306 i &&& ((1 : Int32) <<< nI k) ≠ 0 → xa_ m k = aD A i k
  | 48 => ∀ k, k < 10 → aE A 1306 i &&& ((1 : Int32) <<< nI k) ≠ 0 → xa_ m k = (if aE A 1307 i &&& ((1 : Int32) <<< nI k) ≠ 0 then aF A i k else aD A i k)
  | 51 => N 4 ≤ xn_ m ∧ 0 < xn_ m ∧ xn_ m ≤ 2000 ∧ ∀ j, j < N 4 → xq_ m j = some (ga_ G 30 j)
  | 52 => N 5 ≤ xn_ m ∧ 0 < xn_ m ∧ xn_ m ≤ 2000 ∧ ∀ j, j < N 5 → xq_ m j = some (ga_ G 31 j)
  | 53 => N 58 ≤ xn_ m ∧ 0 < xn_ m ∧ xn_ m ≤ 2000 ∧ ∀ j, j < N 58 → xq_ m j = some (ga_ G 39 j)
  | 54 => N 59 ≤ xn_ m ∧ 0 < xn_ m ∧ xn_ m ≤ 2000 ∧ ∀ j, j < N 59 → xq_ m j = some (ga_ G 41 j)
  | 55 => N 69 ≤ xn_ m ∧ 0 < xn_ m ∧ xn_ m ≤ 2000 ∧ ∀ j, j < N 69 → xq_ m j = some (ga_ G 44 j)
  | 56 => N 70 ≤ xn_ m ∧ 0 < xn_ m ∧ xn_ m ≤ 2000 ∧ ∀ j, j < N 70 → xq_ m j = some (ga_ G 45 j)
  | 57 => N 71 ≤ xn_ m ∧ 0 < xn_ m ∧ xn_ m ≤ 2000 ∧ ∀ j, j < N 71 → xq_ m j = some (ga_ G 46 j)
  | 58 => N 86 ≤ xn_ m ∧ 0 < xn_ m ∧ xn_ m ≤ 2000 ∧ ∀ j, j < N 86 → xq_ m j = some (ga_ G 31 (aV A 84 j).toNatClampNeg)
  | _ => True
def cg_ (G : GH) (N : Nat → Nat) : Prop := (∀ r, r ∈ ([0, 1, 2, 3, 4, 5, 6, 7, 8, 9, 10, 11, 12, 13, 14, 15, 16, 17, 18, 19, 20, 21, 22] : List Nat) → gc_ G r = 1) ∧ gc_ G 30 = N 4 ∧ gc_ G 31 = N 5 ∧ gc_ G 32 = N 5 ∧ gc_ G 33 = N 5 ∧ gc_ G 34 = N 5 ∧ gc_ G 35 = N 5 ∧ gc_ G 36 = N 17 ∧ gc_ G 37 = N 47 ∧ gc_ G 38 = N 47 ∧ gc_ G 39 = N 58 ∧ gc_ G 40 = N 58 ∧ gc_ G 41 = N 59 ∧ gc_ G 42 = N 59 ∧ gc_ G 43 = N 59 ∧ gc_ G 44 = N 69 ∧ gc_ G 45 = N 70 ∧ gc_ G 46 = N 71 ∧ gc_ G 47 = N 71 ∧ gc_ G 48 = N 71
/-- THE RELATION -/
def rc_ (σ : TH) (x : Nat) (G : GH) (A : AS) (N : Nat → Nat) : Prop := sh_ KC LC σ G ∧ (ga_ G 0 0 = x ∧ kd_ σ (ka 200) = 0 ∧ ka 200 < nx_ σ) ∧ cg_ G N ∧ ∀ r i, i < gc_ G r → ob_ ka TX A G N r i (ce_ σ (ga_ G r i))
theorem sh_fq {K LN : Nat → Nat} {T : Nat → Prop} {σ τ : TH} {G : GH} (h : sh_ K LN σ G) (hf : fq_ T σ τ) : sh_ K LN τ G := by
  refine ⟨hf.2.1, fun r i hi => ?_⟩
  obtain ⟨h1, h2, h3, h4⟩ := h.2 r i hi
  have h5 := hf.1.2.2.2.2 (ga_ G r i) (by rw [h1]; exact h2)
  exact ⟨h5.1.trans h1, h2, fun q => h5.2.trans (h3 q), h4⟩
theorem sh_bm {K LN : Nat → Nat} {σ z : TH} {G : GH} (h : sh_ K LN σ G) (hn : nx_ σ ≤ nx_ z) : sh_ K LN (bm_ σ z) G := ⟨wf_bm h.1 hn, h.2⟩
variable {ka TX}
theorem rc_ce {σ τ : TH} {x : Nat} {G : GH} {A : AS} {N : Nat → Nat} {T : Nat → Prop} (h : rc_ ka TX σ x G A N) (hf : fq_ T σ τ) {r i : Nat} (hi : i < gc_ G r) (hT : ¬ T (ga_ G r i)) : ce_ τ (ga_ G r i) = ce_ σ (ga_ G r i) := hf.2.2 _ (sh_lt h.1 hi) hT
theorem rc_1 {σ : TH} {x : Nat} {G : GH} {A : AS} {N : Nat → Nat} (h : rc_ ka TX σ x G A N) {r : Nat} (hr : r ∈ ([0, 1, 2, 3, 4, 5, 6, 7, 8, 9, 10, 11, 12, 13, 14, 15, 16, 17, 18, 19, 20, 21, 22] : List Nat)) : 0 < gc_ G r := by
  rw [h.2.2.1.1 r hr]; decide
theorem rc_x {σ : TH} {x : Nat} {G : GH} {A : AS} {N : Nat → Nat} (h : rc_ ka TX σ x G A N) : kd_ σ x = 13 := by
  have := (h.1.2 0 0 (rc_1 h (by decide))).1
  rw [h.2.1.1] at this
  exact this
theorem rc_bm {σ z : TH} {x : Nat} {G : GH} {A : AS} {N : Nat → Nat} (h : rc_ ka TX σ x G A N) (hn : nx_ σ ≤ nx_ z) : rc_ ka TX (bm_ σ z) x G A N := ⟨sh_bm h.1 hn, ⟨h.2.1.1, h.2.1.2.1, Nat.lt_of_lt_of_le h.2.1.2.2 hn⟩, h.2.2.1, h.2.2.2⟩

theorem ob_S {A : AS} {G : GH} {N : Nat → Nat} {r i : Nat} {m : CE} {S : Nat → Int32} (hS : ∀ j, j ∈ ([17, 47, 6, 1, 42, 56, 57, 87, 30, 3, 2] : List Nat) → S j = aS A j) (h : ob_ ka TX A G N r i m) : ob_ ka TX (S, A.2) G N r i m := by
  match r, h with
  | 0, h => 
    obtain ⟨h0, h1, h2, h3, h4, h5, h6, h7, h8⟩ := h
    exact ⟨h0, h1.trans (hS 17 (by decide)).symm, h2.trans (hS 47 (by decide)).symm, h3.trans (hS 6 (by decide)).symm, h4.trans (hS 1 (by decide)).symm, h5.trans (hS 42 (by decide)).symm, h6.trans (hS 56 (by decide)).symm, h7.trans (hS 57 (by decide)).symm, h8.trans (hS 87 (by decide)).symm⟩
  | 1, h => exact h
  | 2, h => exact h
  | 3, h => exact h
  | 4, h => exact h
  | 5, h => exact h
  | 6, h => exact h
  | 7, h => exact h
  | 8, h => exact h
  | 9, h => exact h
  | 10, h => 
    obtain ⟨h1, h2, h3, h4, h5, h6, h7⟩ := h
    refine ⟨h1, h2, h3, h4.trans (hS 30 (by decide)).symm, h5.trans (hS 3 (by decide)).symm, fun q => ?_, fun q => ?_⟩
    · exact (h6 ((hS 1 (by decide)).symm.trans q)).trans (hS 2 (by decide)).symm
    · exact (hS 2 (by decide)).trans (h7 (fun z => q ((hS 1 (by decide)).trans z)))
  | 11, h => exact h
  | 14, h => exact h
  | 16, h => exact h
  | 17, h => exact h
  | 30, h => exact h
  | 31, h => exact h
  | 32, h => exact h
  | 33, h => exact h
  | 34, h => exact h
  | 35, h => exact h
  | 36, h => exact h
  | 37, h => exact h
  | 38, h => exact h
  | 39, h => exact h
  | 40, h => exact h
  | 41, h => exact h
  | 42, h => exact h
  | 43, h => exact h
  | 44, h => exact h
  | 45, h => exact h
  | 46, h => exact h
  | 47, h => exact h
  | 48, h => exact h
  | 51, h => exact h
  | 52, h => exact h
  | 53, h => exact h
  | 54, h => exact h
  | 55, h => exact h
  | 56, h => exact h
  | 57, h => exact h
  | 58, h => exact h
  | 12, h => exact h
  | 13, h => exact h
  | 15, h => exact h
  | 18, h => exact h
  | 19, h => exact h
  | 20, h => exact h
  | 21, h => exact h
  | 22, h => exact h
  | 23, h => exact h
  | 24, h => exact h
  | 25, h => exact h
  | 26, h => exact h
  | 27, h => exact h
  | 28, h => exact h
  | 29, h => exact h
  | 49, h => exact h
  | 50, h => exact h
  | r + 59, h => exact h
theorem rc_S {σ : TH} {x : Nat} {G : GH} {A : AS} {N : Nat → Nat} {S : Nat → Int32} (hS : ∀ j, j ∈ ([17, 47, 6, 1, 42, 56, 57, 87, 30, 3, 2] : List Nat) → S j = aS A j) (h : rc_ ka TX σ x G A N) : rc_ ka TX σ x G (S, A.2) N := ⟨h.1, h.2.1, h.2.2.1, fun r i hi => ob_S hS (h.2.2.2 r i hi)⟩
end RCS
