/-! first fit finds free words; places one after the other -/
theorem fitR_ok {own : Nat → Option Nat} {W many : Nat} (hm : 1 ≤ many) : ∀ (n k fr p : Nat), fr ≤ k → fr < many → (∀ j, k - fr ≤ j → j < k → own j = none) → fitR own W many n k fr = some p → k - fr ≤ p ∧ p + many ≤ W ∧ ∀ j, p ≤ j → j < p + many → own j = none
  | 0, k, fr, p, _, _, _, h => by cases h
  | n + 1, k, fr, p, h1, h2, h3, h => by
    rw [fitR.eq_2] at h
    by_cases hk : k < W
    · rw [if_pos hk] at h
      by_cases ho : own k = none
      · rw [if_pos ho] at h
        have h4 : ∀ j, k + 1 - (fr + 1) ≤ j → j < k + 1 → own j = none := by
          intro j g1 g2
          by_cases hj : j = k
          · rw [hj]; exact ho
          · exact h3 j (by omega) (by omega)
        by_cases hf : fr + 1 = many
        · rw [if_pos hf] at h
          cases h
          exact ⟨by omega, by omega, fun j g1 g2 => h4 j (by omega) (by omega)⟩
        · rw [if_neg hf] at h
          have := fitR_ok hm n (k + 1) (fr + 1) p (by omega) (by omega) h4 h
          exact ⟨by omega, this.2⟩
      · rw [if_neg ho] at h
        rw [if_neg (by omega)] at h
        have := fitR_ok hm n (k + 1) 0 p (by omega) (by omega) (fun j g1 g2 => by omega) h
        exact ⟨by omega, this.2⟩
    · rw [if_neg hk] at h
      cases h
theorem fit_ok {own : Nat → Option Nat} {W f many p : Nat} (hm : 1 ≤ many) (h : fit own W f many = some p) : f ≤ p ∧ p + many ≤ W ∧ ∀ j, p ≤ j → j < p + many → own j = none :=
  fitR_ok hm (W + 1 - f) f 0 p (by omega) (by omega) (fun j h1 h2 => by omega) h
def lyS (fl : Nat → Nat) (Wn : Nat) (s : (Nat → Option Nat) × (Nat → Nat)) (x : Nat) : Option ((Nat → Option Nat) × (Nat → Nat)) := match fit s.1 Wn (Wn / 4) (fl x + 1) with
  | none => none
  | some p => some (fillO s.1 p (fl x + 1) (some x), va_up s.2 x p)
def lay (fl : Nat → Nat) (Wn : Nat) : List Nat → (Nat → Option Nat) × (Nat → Nat) → Option ((Nat → Option Nat) × (Nat → Nat))
  | [], s => some s
  | x :: l, s => (lyS fl Wn s x).bind (lay fl Wn l)
theorem lay_app (fl : Nat → Nat) (Wn : Nat) : ∀ (L M : List Nat) (s : (Nat → Option Nat) × (Nat → Nat)), lay fl Wn (L ++ M) s = (lay fl Wn L s).bind (lay fl Wn M)
  | [], M, s => rfl
  | x :: l, M, s => by
    show (lyS fl Wn s x).bind (lay fl Wn (l ++ M)) = ((lyS fl Wn s x).bind (lay fl Wn l)).bind (lay fl Wn M)
    cases lyS fl Wn s x with
    | none => rfl
    | some s2 => exact lay_app fl Wn l M s2
theorem lay_1 (fl : Nat → Nat) (Wn x : Nat) (s : (Nat → Option Nat) × (Nat → Nat)) : lay fl Wn [x] s = lyS fl Wn s x := by
  show (lyS fl Wn s x).bind (fun s => some s) = _
  cases lyS fl Wn s x <;> rfl
theorem lay_s {fl : Nat → Nat} {Wn i : Nat} {L : List Nat} {s s2 : (Nat → Option Nat) × (Nat → Nat)} (hi : i < L.length) (h : lay fl Wn (L.take i) s = some s2) : lay fl Wn (L.take (i + 1)) s = lyS fl Wn s2 (L.getD i 0) := by
  rw [take_s hi, lay_app, h]
  exact lay_1 fl Wn _ s2
theorem lyS_n {fl : Nat → Nat} {Wn x : Nat} {s : (Nat → Option Nat) × (Nat → Nat)} (h : fit s.1 Wn (Wn / 4) (fl x + 1) = none) : lyS fl Wn s x = none := by unfold lyS; rw [h]
theorem lyS_o {fl : Nat → Nat} {Wn x p : Nat} {s : (Nat → Option Nat) × (Nat → Nat)} (h : fit s.1 Wn (Wn / 4) (fl x + 1) = some p) : lyS fl Wn s x = some (fillO s.1 p (fl x + 1) (some x), va_up s.2 x p) := by unfold lyS; rw [h]
theorem lay_none {fl : Nat → Nat} {Wn i : Nat} {L : List Nat} {s : (Nat → Option Nat) × (Nat → Nat)} (h : lay fl Wn (L.take i) s = none) : lay fl Wn L s = none := by
  have h2 := lay_app fl Wn (L.take i) (L.drop i) s
  rw [List.take_append_drop, h] at h2
  exact h2
/-- whatever holds of the row and the places before, and of what is placed, holds behind -/
theorem lay_inv {fl : Nat → Nat} {Wn : Nat} {P : (Nat → Option Nat) × (Nat → Nat) → Prop} (hS : ∀ s x s2, P s → lyS fl Wn s x = some s2 → P s2) : ∀ (L : List Nat) (s s2 : (Nat → Option Nat) × (Nat → Nat)), P s → lay fl Wn L s = some s2 → P s2
  | [], s, s2, h, h2 => by cases h2; exact h
  | x :: l, s, s2, h, h2 => by
    change (lyS fl Wn s x).bind (lay fl Wn l) = some s2 at h2
    cases h3 : lyS fl Wn s x with
    | none => rw [h3] at h2; cases h2
    | some s3 => rw [h3] at h2; exact lay_inv hS l s3 s2 (hS s x s3 h h3) h2
theorem lay_b {fl : Nat → Nat} {Wn made : Nat} : ∀ (L : List Nat) (s s2 : (Nat → Option Nat) × (Nat → Nat)), (∀ x ∈ L, x < made) → (∀ k t, s.1 k = some t → t < made) → lay fl Wn L s = some s2 → ∀ k t, s2.1 k = some t → t < made
  | [], s, s2, _, h, h2 => by cases h2; exact h
  | x :: l, s, s2, hx, h, h2 => by
    change (lyS fl Wn s x).bind (lay fl Wn l) = some s2 at h2
    cases h3 : lyS fl Wn s x with
    | none => rw [h3] at h2; cases h2
    | some s3 =>
      rw [h3] at h2
      refine lay_b l s3 s2 (fun y hy => hx y (List.mem_cons_of_mem _ hy)) ?_ h2
      unfold lyS at h3
      split at h3
      · cases h3
      · cases h3
        intro k t ht
        change fillO s.1 _ (fl x + 1) (some x) k = some t at ht
        unfold fillO at ht
        split at ht
        · cases ht; exact hx x List.mem_cons_self
        · exact h k t ht
/-- places behind: each of the list has one that fits -/
theorem lay_pl {fl : Nat → Nat} {Wn : Nat} : ∀ (L : List Nat) (s s2 : (Nat → Option Nat) × (Nat → Nat)), lay fl Wn L s = some s2 → (∀ x, x ∉ L → s2.2 x = s.2 x) ∧ ∀ x ∈ L, Wn / 4 ≤ s2.2 x ∧ s2.2 x + fl x < Wn
  | [], s, s2, h => by cases h; exact ⟨fun _ _ => rfl, fun x hx => absurd hx List.not_mem_nil⟩
  | x :: l, s, s2, h2 => by
    change (lyS fl Wn s x).bind (lay fl Wn l) = some s2 at h2
    cases h3 : lyS fl Wn s x with
    | none => rw [h3] at h2; cases h2
    | some s3 =>
      rw [h3] at h2
      obtain ⟨g1, g2⟩ := lay_pl l s3 s2 h2
      unfold lyS at h3
      split at h3
      · cases h3
      · rename_i p hp
        cases h3
        have hf := fit_ok (by omega) hp
        refine ⟨fun y hy => ?_, fun y hy => ?_⟩
        · rw [g1 y (fun z => hy (List.mem_cons_of_mem _ z))]
          show va_up s.2 x p y = _
          unfold va_up
          rw [if_neg (fun z : y = x => hy (by rw [z]; exact List.mem_cons_self))]
        · by_cases hyl : y ∈ l
          · exact g2 y hyl
          · have hyx : y = x := by
              rcases List.mem_cons.mp hy with h | h
              · exact h
              · exact absurd h hyl
            rw [g1 y hyl]
            show Wn / 4 ≤ va_up s.2 x p y ∧ va_up s.2 x p y + fl y < Wn
            unfold va_up
            rw [if_pos hyx, hyx]
            exact ⟨hf.1, by omega⟩
def gbO (fl tpl : Nat → Nat) (own : Nat → Option Nat) (L : List Nat) : Nat → Option Nat := L.foldl (fun o x => fillO o (tpl x) (fl x + 1) none) own
def goT (tpl tad : Nat → Nat) (L : List Nat) : Nat → Nat := L.foldl (fun td x => va_up td x (tpl x)) tad
def rmb (ok : Nat → Bool) (fl : Nat → Nat) (rfs : Nat → Nat → Option Nat) (own : Nat → Option Nat) (tad : Nat → Nat) (trm : Nat → Bool) (f : Nat) : Nat → List Nat → List Nat
  | 0, L => L
  | n + 1, L => match bgn own tad (f + n) with
    | none => rmb ok fl rfs own tad trm f n L
    | some t => if trm t = true then mtN ok (rfs t) (fl t) (rmb ok fl rfs own tad trm f n L) else rmb ok fl rfs own tad trm f n L
theorem rmb_n {ok : Nat → Bool} {fl : Nat → Nat} {rfs : Nat → Nat → Option Nat} {own : Nat → Option Nat} {tad : Nat → Nat} {trm : Nat → Bool} {f n : Nat} {L : List Nat} (h : bgn own tad (f + n) = none) : rmb ok fl rfs own tad trm f (n + 1) L = rmb ok fl rfs own tad trm f n L := by
  rw [rmb.eq_2, h]
theorem rmb_f {ok : Nat → Bool} {fl : Nat → Nat} {rfs : Nat → Nat → Option Nat} {own : Nat → Option Nat} {tad : Nat → Nat} {trm : Nat → Bool} {f n t : Nat} {L : List Nat} (h : bgn own tad (f + n) = some t) (h2 : trm t = false) : rmb ok fl rfs own tad trm f (n + 1) L = rmb ok fl rfs own tad trm f n L := by
  rw [rmb.eq_2, h]
  simp [h2]
theorem rmb_t {ok : Nat → Bool} {fl : Nat → Nat} {rfs : Nat → Nat → Option Nat} {own : Nat → Option Nat} {tad : Nat → Nat} {trm : Nat → Bool} {f n t : Nat} {L : List Nat} (h : bgn own tad (f + n) = some t) (h2 : trm t = true) : rmb ok fl rfs own tad trm f (n + 1) L = mtN ok (rfs t) (fl t) (rmb ok fl rfs own tad trm f n L) := by
  rw [rmb.eq_2, h]
  simp [h2]
def fgt (own : Nat → Option Nat) (tad : Nat → Nat) (f : Nat) : Nat → (Nat → Bool) → Nat → Bool
  | 0, r => r
  | n + 1, r => match bgn own tad (f + n) with
    | none => fgt own tad f n r
    | some t => va_up (fgt own tad f n r) t false
theorem rmb_all {ok : Nat → Bool} {fl : Nat → Nat} {rfs : Nat → Nat → Option Nat} {own : Nat → Option Nat} {tad : Nat → Nat} {trm : Nat → Bool} {f : Nat} {L : List Nat} {Kp : Nat → Prop} (hL : ∀ x ∈ L, Kp x) : ∀ n, (∀ k, k < n → ∀ t, bgn own tad (f + k) = some t → ∀ i, i < fl t → ∀ u, rfs t i = some u → ok u = true → Kp u) → ∀ x ∈ rmb ok fl rfs own tad trm f n L, Kp x
  | 0, _ => hL
  | n + 1, h => by
    have ih := rmb_all (trm := trm) hL n (fun k hk => h k (by omega))
    cases hb : bgn own tad (f + n) with
    | none => rw [rmb_n hb]; exact ih
    | some t =>
      cases ht : trm t with
      | false => rw [rmb_f hb ht]; exact ih
      | true => rw [rmb_t hb ht]; exact mtN_all ih _ (fun i hi u hu ho => h n (by omega) t hb i hi u hu ho)
