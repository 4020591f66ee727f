/-! where objects lie, and what dies -/
def Lay (made Wn : Nat) (fl : Nat → Nat) (adr own : Nat → Option Nat) : Prop :=
  (∀ o a, o < made → adr o = some a → a + fl o < Wn ∧ ∀ k, a ≤ k → k ≤ a + fl o → own k = some o) ∧ ∀ k o, own k = some o → o < made ∧ ∃ a, adr o = some a ∧ a ≤ k ∧ k ≤ a + fl o
def swA (c : Nat → Bool) (adr : Nat → Option Nat) : Nat → Option Nat := fun o => if c o = true then none else adr o
def swR (c : Nat → Bool) (rem : Nat → Bool) : Nat → Bool := fun o => if c o = true then false else rem o
def swO (c : Nat → Bool) (own : Nat → Option Nat) : Nat → Option Nat := fun k => match own k with
  | none => none
  | some o => if c o = true then none else some o
def blw (n : Nat) (c : Nat → Bool) : Nat → Bool := fun o => decide (o < n) && c o
theorem blw_self {n : Nat} {c : Nat → Bool} : blw n c n = false := by unfold blw; simp
theorem blw_0 (c : Nat → Bool) : blw 0 c = fun _ => false := by funext o; unfold blw; simp
theorem blw_s {n : Nat} {c : Nat → Bool} {o : Nat} : blw (n + 1) c o = (blw n c o || (decide (o = n) && c o)) := by
  unfold blw
  by_cases h : o < n
  · simp [h, show o < n + 1 by omega, show ¬ o = n by omega]
  · by_cases h2 : o = n
    · subst h2; simp
    · simp [h, h2, show ¬ o < n + 1 by omega]
theorem swA_f (adr : Nat → Option Nat) : swA (fun _ => false) adr = adr := rfl
theorem swR_f (rem : Nat → Bool) : swR (fun _ => false) rem = rem := rfl
theorem swO_f (own : Nat → Option Nat) : swO (fun _ => false) own = own := by
  funext k
  unfold swO
  cases own k <;> rfl
theorem swA_s {n : Nat} {c : Nat → Bool} {adr : Nat → Option Nat} (h : c n = true) : va_up (swA (blw n c) adr) n none = swA (blw (n + 1) c) adr := by
  funext o
  unfold va_up swA
  rw [blw_s]
  by_cases ho : o = n
  · subst ho; simp [h]
  · rw [if_neg ho]; simp [ho]
theorem swA_k {n : Nat} {c : Nat → Bool} {adr : Nat → Option Nat} (h : c n = false ∨ adr n = none) : swA (blw n c) adr = swA (blw (n + 1) c) adr := by
  funext o
  unfold swA
  rw [blw_s]
  by_cases ho : o = n
  · subst ho
    rcases h with h | h
    · simp [h]
    · rw [h]; split <;> split <;> rfl
  · simp [ho]
theorem swR_s {n : Nat} {c rem : Nat → Bool} (h : c n = true) : va_up (swR (blw n c) rem) n false = swR (blw (n + 1) c) rem := by
  funext o
  unfold va_up swR
  rw [blw_s]
  by_cases ho : o = n
  · subst ho; simp [h]
  · rw [if_neg ho]; simp [ho]
theorem swR_k {n : Nat} {c rem : Nat → Bool} (h : c n = false ∨ rem n = false) : swR (blw n c) rem = swR (blw (n + 1) c) rem := by
  funext o
  unfold swR
  rw [blw_s]
  by_cases ho : o = n
  · subst ho
    rcases h with h | h
    · simp [h]
    · rw [h]; split <;> split <;> rfl
  · simp [ho]
theorem swO_s {made Wn n a : Nat} {fl : Nat → Nat} {c : Nat → Bool} {adr own : Nat → Option Nat} (hL : Lay made Wn fl adr own) (hn : n < made) (ha : adr n = some a) (h : c n = true) : fillO (swO (blw n c) own) a (fl n + 1) none = swO (blw (n + 1) c) own := by
  funext k
  unfold fillO
  by_cases hk : a ≤ k ∧ k < a + (fl n + 1)
  · rw [if_pos hk]
    have h1 := (hL.1 n a hn ha).2 k hk.1 (by omega)
    unfold swO
    rw [h1]
    simp [blw_s, h]
  · rw [if_neg hk]
    unfold swO
    cases ho : own k with
    | none => rfl
    | some o =>
      have h2 : o ≠ n := by
        intro z
        subst z
        obtain ⟨-, a2, h3, h4, h5⟩ := hL.2 k o ho
        rw [ha] at h3
        cases h3
        exact hk ⟨h4, by omega⟩
      simp only [blw_s]
      simp [h2]
theorem swO_k {made Wn n : Nat} {fl : Nat → Nat} {c : Nat → Bool} {adr own : Nat → Option Nat} (hL : Lay made Wn fl adr own) (h : c n = false ∨ adr n = none) : swO (blw n c) own = swO (blw (n + 1) c) own := by
  funext k
  unfold swO
  cases ho : own k with
  | none => rfl
  | some o =>
    simp only [blw_s]
    by_cases h2 : o = n
    · subst h2
      rcases h with h | h
      · simp [h]
      · obtain ⟨-, a2, h3, -⟩ := hL.2 k o ho
        rw [h] at h3
        cases h3
    · simp [h2]
/-- how many blw n -/
def cnt (c : Nat → Bool) : Nat → Nat
  | 0 => 0
  | n + 1 => cnt c n + (if c n = true then 1 else 0)
theorem cnt_s1 {c : Nat → Bool} {n : Nat} (h : c n = true) : cnt c (n + 1) = cnt c n + 1 := by
  show cnt c n + _ = _
  rw [if_pos h]
theorem cnt_s0 {c : Nat → Bool} {n : Nat} (h : c n = false) : cnt c (n + 1) = cnt c n := by
  show cnt c n + _ = _
  rw [if_neg (by rw [h]; decide)]
  rfl
theorem cnt_le (c : Nat → Bool) : ∀ n, cnt c n ≤ n
  | 0 => Nat.le_refl 0
  | n + 1 => by
    have := cnt_le c n
    show cnt c n + _ ≤ _
    split <;> omega
/-- what goes in a sweep, by the walk's places -/
def lying (adr : Nat → Option Nat) : Nat → Bool := fun o => (adr o).isSome
def swC (old : Bool) (kp Wn : Nat) (adr plc : Nat → Option Nat) : Nat → Bool := fun o => (adr o).isSome && ((plc o).isNone && (!old || isOldR kp Wn adr o))
theorem swA_at {k : Nat} {c : Nat → Bool} {adr : Nat → Option Nat} : swA (blw k c) adr k = adr k := by
  unfold swA
  rw [blw_self]
  rfl
theorem isOldR_at {kp Wn k : Nat} {adr adr2 : Nat → Option Nat} (h : adr2 k = adr k) : isOldR kp Wn adr2 k = isOldR kp Wn adr k := by
  unfold isOldR
  rw [h]
theorem swC_n {old : Bool} {kp Wn k : Nat} {adr plc : Nat → Option Nat} (h : adr k = none) : swC old kp Wn adr plc k = false := by
  unfold swC; rw [h]; rfl
theorem swC_p {old : Bool} {kp Wn k : Nat} {adr plc : Nat → Option Nat} (h : ¬ plc k = none) : swC old kp Wn adr plc k = false := by
  unfold swC
  cases hp : plc k with
  | none => exact absurd hp h
  | some x => simp
theorem swC_y {old : Bool} {kp Wn k : Nat} {adr plc : Nat → Option Nat} (h1 : old = true) (h : isOldR kp Wn adr k = false) : swC old kp Wn adr plc k = false := by
  unfold swC; rw [h, h1]; simp
theorem swC_t {old : Bool} {kp Wn k a : Nat} {adr plc : Nat → Option Nat} (h : adr k = some a) (h2 : plc k = none) (h3 : old = false ∨ isOldR kp Wn adr k = true) : swC old kp Wn adr plc k = true := by
  unfold swC
  rw [h, h2]
  rcases h3 with h3 | h3 <;> rw [h3] <;> simp
theorem Lay_b {made Wn : Nat} {fl : Nat → Nat} {adr own : Nat → Option Nat} (h : Lay made Wn fl adr own) {k a : Nat} (hk : k < made) (ha : adr k = some a) : a + fl k < Wn := (h.1 k a hk ha).1
