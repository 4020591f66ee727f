/-! PURE WORDS that both sides share: indices, first fit, walks by lists -/
def inR (n : Nat) (x : Int32) : Bool := decide (0 ≤ x.toInt ∧ x.toInt < n)
theorem inR_ex {n : Nat} (hn : n < 2 ^ 31) {x : Int32} (h : inR n x = true) : ∃ j : Nat, j < n ∧ x = nI j := by
  have h := of_decide_eq_true h
  refine ⟨x.toInt.toNat, by omega, ?_⟩
  apply Int32.toInt_inj.mp
  rw [nI_toInt (by omega)]
  omega
theorem inR_nI {n j : Nat} (hj : j < n) (hn : n < 2 ^ 31) : inR n (nI j) = true := by
  unfold inR
  rw [nI_toInt (by omega)]
  exact decide_eq_true ⟨by omega, by omega⟩
theorem lt_toInt {x y : Int32} : x < y ↔ x.toInt < y.toInt := Int32.lt_iff_toInt_lt
theorem le_toInt {x y : Int32} : x ≤ y ↔ x.toInt ≤ y.toInt := Int32.le_iff_toInt_le
theorem inR_lo {n : Nat} {x : Int32} (c : x < nI 0) : inR n x = false := by
  have h := lt_toInt.mp c
  rw [nI_toInt (by omega)] at h
  exact decide_eq_false (fun z => by omega)
theorem inR_hi {n : Nat} {x : Int32} (hn : n < 2 ^ 31) (c : nI n ≤ x) : inR n x = false := by
  have h := le_toInt.mp c
  rw [nI_toInt hn] at h
  exact decide_eq_false (fun z => by omega)
theorem inR_hi2 {h : Nat} {x : Int32} (hn : h < 2 ^ 31) (c : nI h < x) : inR (h + 1) x = false := by
  have h := lt_toInt.mp c
  rw [nI_toInt hn] at h
  exact decide_eq_false (fun z => by omega)
theorem inR_t {n : Nat} {x : Int32} (hn : n < 2 ^ 31) (c1 : ¬ x < nI 0) (c2 : ¬ nI n ≤ x) : inR n x = true := by
  have h1 := Int.not_lt.mp (mt lt_toInt.mpr c1)
  have h2 := Int.not_le.mp (mt le_toInt.mpr c2)
  rw [nI_toInt (by omega)] at h1
  rw [nI_toInt hn] at h2
  exact decide_eq_true ⟨by omega, by omega⟩
theorem inR_t2 {h : Nat} {x : Int32} (hn : h < 2 ^ 30) (c1 : ¬ x < nI 0) (c2 : ¬ nI h < x) : inR (h + 1) x = true := by
  have h1 := Int.not_lt.mp (mt lt_toInt.mpr c1)
  have h2 := Int.not_lt.mp (mt lt_toInt.mpr c2)
  rw [nI_toInt (by omega)] at h1
  rw [nI_toInt (by omega)] at h2
  exact decide_eq_true ⟨by omega, by omega⟩
theorem bI_t {b : Bool} (h : ¬ bI b = 0) : b = true := by
  cases b with
  | false => exact absurd rfl h
  | true => rfl
theorem bI_f {b : Bool} (h : bI b = 0) : b = false := by
  cases b with
  | false => rfl
  | true => exact absurd h (by decide)
/-- a stretch of a row filled -/
def fillO (f : Nat → Option Nat) (a n : Nat) (v : Option Nat) : Nat → Option Nat := fun k => if a ≤ k ∧ k < a + n then v else f k
theorem fillO_0 (f : Nat → Option Nat) (a : Nat) (v : Option Nat) : fillO f a 0 v = f := by
  funext k
  unfold fillO
  rw [if_neg (by omega)]
theorem fillO_s (f : Nat → Option Nat) (a n : Nat) (v : Option Nat) : va_up (fillO f a n v) (a + n) v = fillO f a (n + 1) v := by
  funext k
  unfold fillO va_up
  by_cases h : k = a + n
  · rw [if_pos h, if_pos (by omega)]
  · rw [if_neg h]
    show (if a ≤ k ∧ k < a + n then v else f k) = _
    by_cases h2 : a ≤ k ∧ k < a + n
    · rw [if_pos h2, if_pos (by omega)]
    · rw [if_neg h2, if_neg (by omega)]
/-- first fit: free words so far, at word k -/
def fitR (own : Nat → Option Nat) (W many : Nat) : Nat → Nat → Nat → Option Nat
  | 0, _, _ => none
  | n + 1, k, fr => if k < W then (if (if own k = none then fr + 1 else 0) = many then some (k + 1 - many) else fitR own W many n (k + 1) (if own k = none then fr + 1 else 0)) else none
def fit (own : Nat → Option Nat) (W from_ many : Nat) : Option Nat := fitR own W many (W + 1 - from_) from_ 0
theorem fitR_ge {own : Nat → Option Nat} {W many n k fr : Nat} (h : W ≤ k) : fitR own W many n k fr = none := by
  cases n with
  | zero => rfl
  | succ n => unfold fitR; rw [if_neg (by omega)]
theorem fitR_hit {own : Nat → Option Nat} {W many n k fr : Nat} (h : k < W) (h2 : (if own k = none then fr + 1 else 0) = many) : fitR own W many (n + 1) k fr = some (k + 1 - many) := by
  rw [fitR.eq_2, if_pos h, if_pos h2]
theorem fitR_go {own : Nat → Option Nat} {W many n k fr : Nat} (h : k < W) (h2 : ¬ (if own k = none then fr + 1 else 0) = many) : fitR own W many (n + 1) k fr = fitR own W many n (k + 1) (if own k = none then fr + 1 else 0) := by
  rw [fitR.eq_2, if_pos h, if_neg h2]
/-- meetings, by lists -/
def mtL (ok : Nat → Bool) (L : List Nat) (o : Option Nat) : List Nat := match o with
  | none => L
  | some k => if ok k = true ∧ k ∉ L then L ++ [k] else L
def mtN (ok : Nat → Bool) (f : Nat → Option Nat) : Nat → List Nat → List Nat
  | 0, L => L
  | n + 1, L => mtL ok (mtN ok f n L) (f n)
def flw (ok : Nat → Bool) (fl : Nat → Nat) (rfs : Nat → Nat → Option Nat) : Nat → Nat → List Nat → List Nat
  | 0, _, L => L
  | n + 1, i, L => if i < L.length then flw ok fl rfs n (i + 1) (mtN ok (rfs (L.getD i 0)) (fl (L.getD i 0)) L) else L
def allOk : Nat → Bool := fun _ => true
