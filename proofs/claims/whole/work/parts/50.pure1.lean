/-! COUNTS: words, beginnings, objects -/
theorem cnt_or {c d : Nat → Bool} : ∀ n, (∀ k, k < n → c k = true → d k = false) → cnt (fun k => c k || d k) n = cnt c n + cnt d n
  | 0, _ => rfl
  | n + 1, h => by
    have ih := cnt_or n (fun k hk => h k (by omega))
    have h1 := h n (by omega)
    cases hc : c n with
    | true => rw [cnt_s1 (c := fun k => c k || d k) (by simp [hc]), cnt_s1 hc, cnt_s0 (h1 hc), ih]; omega
    | false =>
      cases hd : d n with
      | true => rw [cnt_s1 (c := fun k => c k || d k) (by simp [hd]), cnt_s0 hc, cnt_s1 hd, ih]; omega
      | false => rw [cnt_s0 (c := fun k => c k || d k) (by simp [hc, hd]), cnt_s0 hc, cnt_s0 hd, ih]
theorem cnt_split (c d : Nat → Bool) (n : Nat) : cnt c n = cnt (fun k => c k && d k) n + cnt (fun k => c k && !d k) n := by
  rw [← cnt_or n (fun k _ h => by
    cases hd : d k with
    | true => simp
    | false => rw [hd] at h; simp at h)]
  refine cnt_congr n (fun k _ => ?_)
  cases c k <;> cases d k <;> rfl
theorem cnt_f (n : Nat) : cnt (fun _ => false) n = 0 := by
  induction n with
  | zero => rfl
  | succ n ih => rw [cnt_s0 rfl]; exact ih
theorem cnt_one {a : Nat} : ∀ n, a < n → cnt (fun k => decide (k = a)) n = 1
  | 0, h => absurd h (Nat.not_lt_zero _)
  | n + 1, h => by
    by_cases e : a = n
    · rw [cnt_s1 (by simp [e]), cnt_congr (d := fun _ => false) n (fun k hk => decide_eq_false (by omega)), cnt_f]
    · rw [cnt_s0 (decide_eq_false (fun z => e z.symm))]
      exact cnt_one n (by omega)
theorem cnt_range {a b : Nat} : ∀ n, a ≤ b → b ≤ n → cnt (fun k => decide (a ≤ k ∧ k < b)) n = b - a
  | 0, h1, h2 => by
    show 0 = b - a
    omega
  | n + 1, h1, h2 => by
    by_cases e : b = n + 1
    · subst e
      by_cases e2 : a = n + 1
      · rw [cnt_congr (d := fun _ => false) (n + 1) (fun k hk => decide_eq_false (by omega)), cnt_f]
        omega
      · rw [cnt_s1 (by simp; omega)]
        have h3 := cnt_range (a := a) (b := n) n (by omega) (by omega)
        rw [cnt_congr (d := fun k => decide (a ≤ k ∧ k < n)) n (fun k hk => by
          by_cases h4 : a ≤ k
          · rw [decide_eq_true (by omega : a ≤ k ∧ k < n + 1), decide_eq_true (by omega : a ≤ k ∧ k < n)]
          · rw [decide_eq_false (by omega : ¬ (a ≤ k ∧ k < n + 1)), decide_eq_false (by omega : ¬ (a ≤ k ∧ k < n))]), h3]
        omega
    · rw [cnt_s0 (decide_eq_false (by omega))]
      exact cnt_range n h1 (by omega)
theorem cnt_trunc {c : Nat → Bool} {m : Nat} : ∀ n, m ≤ n → cnt (fun k => c k && decide (k < m)) n = cnt c m
  | 0, h => by
    have : m = 0 := by omega
    subst this
    rfl
  | n + 1, h => by
    by_cases e : m = n + 1
    · subst e
      exact cnt_congr _ (fun k hk => by rw [decide_eq_true hk]; simp)
    · rw [cnt_s0 (by rw [decide_eq_false (by omega)]; simp)]
      exact cnt_trunc n (by omega)
theorem cnt_list {n : Nat} : ∀ (L : List Nat), L.Nodup → (∀ x ∈ L, x < n) → cnt (fun o => decide (o ∈ L)) n = L.length
  | [], _, _ => by rw [cnt_congr (d := fun _ => false) n (fun k _ => decide_eq_false List.not_mem_nil), cnt_f]; rfl
  | x :: l, hn, h => by
    have hn2 := List.nodup_cons.mp hn
    have ih := cnt_list l hn2.2 (fun y hy => h y (List.mem_cons_of_mem _ hy))
    have h1 := cnt_one (a := x) n (h x List.mem_cons_self)
    rw [cnt_congr (d := fun o => decide (o ∈ l) || decide (o = x)) n (fun k _ => by
      by_cases e1 : k ∈ l <;> by_cases e2 : k = x <;> simp [e1, e2]), cnt_or n (fun k _ h2 => by
      have h3 := of_decide_eq_true h2
      exact decide_eq_false (fun z => hn2.1 (z ▸ h3))), ih, h1]
    rfl
theorem cnt_mono {c d : Nat → Bool} (n : Nat) (h : ∀ k, k < n → c k = true → d k = true) : cnt c n ≤ cnt d n := by
  have h1 := cnt_split d c n
  have h2 : cnt c n = cnt (fun k => d k && c k) n := cnt_congr n (fun k hk => by
    cases hc : c k with
    | true => rw [h k hk hc]; rfl
    | false => simp)
  omega
/-- beginnings, word by word, are the objects that lie -/
def bgC (own : Nat → Option Nat) (tad : Nat → Nat) (u : Nat → Bool) : Nat → Bool := fun k => match bgn own tad k with | none => false | some t => u t
theorem bgn_some {own : Nat → Option Nat} {tad : Nat → Nat} {k t : Nat} (h : bgn own tad k = some t) : own k = some t ∧ tad t = k := by
  unfold bgn at h
  split at h
  · cases h
  · rename_i o ho
    split at h
    · rename_i e
      cases h
      exact ⟨ho, e⟩
    · cases h
theorem cnt_bgO {made Wn : Nat} {fl tad : Nat → Nat} {adr own : Nat → Option Nat} {u : Nat → Bool} (hL : Lay made Wn fl adr own) (hta : ∀ o a, o < made → adr o = some a → tad o = a) : ∀ n, n ≤ made → cnt (bgC own tad (fun t => u t && decide (t < n))) Wn = cnt (fun o => (adr o).isSome && u o) n
  | 0, _ => by
    rw [cnt_congr (d := fun _ => false) Wn (fun k _ => by
      unfold bgC
      split
      · rfl
      · simp), cnt_f]
    rfl
  | n + 1, hn => by
    have ih := cnt_bgO (u := u) hL hta n (by omega)
    have e : cnt (bgC own tad (fun t => u t && decide (t < n + 1))) Wn = cnt (fun k => bgC own tad (fun t => u t && decide (t < n)) k || bgC own tad (fun t => u t && decide (t = n)) k) Wn := cnt_congr Wn (fun k _ => by
      unfold bgC
      cases bgn own tad k with
      | none => rfl
      | some t =>
        show (u t && decide (t < n + 1)) = ((u t && decide (t < n)) || (u t && decide (t = n)))
        by_cases h1 : t < n
        · cases u t <;> simp [h1, show t < n + 1 by omega]
        · by_cases h2 : t = n
          · simp [h2]
          · simp [h1, h2, show ¬ t < n + 1 by omega])
    rw [e, cnt_or Wn (fun k _ h => by
      unfold bgC at h ⊢
      cases hb : bgn own tad k with
      | none => rfl
      | some t =>
        rw [hb] at h
        simp at h ⊢
        intro _
        omega), ih]
    have hone : cnt (bgC own tad (fun t => u t && decide (t = n))) Wn = if ((adr n).isSome && u n) = true then 1 else 0 := by
      cases ha : adr n with
      | none =>
        rw [if_neg (by simp), cnt_congr (d := fun _ => false) Wn (fun k _ => by
          unfold bgC
          cases hb : bgn own tad k with
          | none => rfl
          | some t =>
            show (u t && decide (t = n)) = false
            have h1 := (bgn_some hb).1
            obtain ⟨-, a, g2, -⟩ := hL.2 k t h1
            rw [decide_eq_false (fun z => by rw [z, ha] at g2; cases g2)]
            simp), cnt_f]
      | some a =>
        have hb2 := (hL.1 n a (by omega) ha)
        have hbn : bgn own tad a = some n := bgn_at (hb2.2 a (by omega) (by omega)) (hta n a (by omega) ha)
        cases hu : u n with
        | false =>
          rw [if_neg (by simp), cnt_congr (d := fun _ => false) Wn (fun k _ => by
            unfold bgC
            cases hb : bgn own tad k with
            | none => rfl
            | some t =>
              show (u t && decide (t = n)) = false
              by_cases z : t = n
              · rw [z, hu]; rfl
              · simp [z]), cnt_f]
        | true =>
          rw [if_pos (by simp), ← cnt_one (a := a) Wn (by omega)]
          refine cnt_congr Wn (fun k _ => ?_)
          unfold bgC
          by_cases z : k = a
          · rw [z, hbn, decide_eq_true rfl]
            simp [hu]
          · rw [decide_eq_false z]
            cases hb : bgn own tad k with
            | none => rfl
            | some t =>
              show (u t && decide (t = n)) = false
              have h1 := bgn_some hb
              rw [decide_eq_false (fun zz => z (by rw [← h1.2, zz]; exact hta n a (by omega) ha))]
              simp
    rw [hone]
    rfl
theorem cnt_bg {made Wn : Nat} {fl tad : Nat → Nat} {adr own : Nat → Option Nat} (u : Nat → Bool) (hL : Lay made Wn fl adr own) (hta : ∀ o a, o < made → adr o = some a → tad o = a) : cnt (bgC own tad u) Wn = cnt (fun o => (adr o).isSome && u o) made := by
  rw [← cnt_bgO hL hta made (Nat.le_refl _)]
  refine cnt_congr Wn (fun k _ => ?_)
  unfold bgC
  cases hb : bgn own tad k with
  | none => rfl
  | some t =>
    show u t = (u t && decide (t < made))
    rw [decide_eq_true (hL.2 k t (bgn_some hb).1).1]
    simp
theorem bgC_t (own : Nat → Option Nat) (tad : Nat → Nat) : (fun k => (bgn own tad k).isSome) = bgC own tad (fun _ => true) := by
  funext k
  unfold bgC
  cases bgn own tad k <;> rfl
/-- no more objects lie than there are words -/
theorem lie_le {made Wn : Nat} {fl : Nat → Nat} {adr own : Nat → Option Nat} (hL : Lay made Wn fl adr own) (M : List Nat) (hM : M.Nodup) (h : ∀ x ∈ M, x < made ∧ ∃ a, adr x = some a) : M.length ≤ Wn := by
  have h1 := cnt_list (n := made) M hM (fun x hx => (h x hx).1)
  have h2 : cnt (fun o => decide (o ∈ M)) made ≤ cnt (fun o => (adr o).isSome && true) made := cnt_mono made (fun k _ hk => by
    obtain ⟨-, a, ha⟩ := h k (of_decide_eq_true hk)
    rw [ha]
    rfl)
  have h3 := cnt_bg (tad := tda adr) (fun _ => true) hL (fun o a _ ha => by unfold tda; rw [ha]; rfl)
  have h4 := cnt_le (bgC own (tda adr) (fun _ => true)) Wn
  omega
/-- the words of some objects -/
theorem words_of {made Wn : Nat} {fl : Nat → Nat} {adr own : Nat → Option Nat} (hL : Lay made Wn fl adr own) : ∀ (M : List Nat), M.Nodup → (∀ x ∈ M, x < made ∧ ∃ a, adr x = some a) → cnt (fun k => match own k with | none => false | some t => decide (t ∈ M)) Wn = szL fl 0 M
  | [], _, _ => by
    rw [cnt_congr (d := fun _ => false) Wn (fun k _ => by
      cases own k with
      | none => rfl
      | some t => exact decide_eq_false List.not_mem_nil), cnt_f]
    rfl
  | x :: l, hn, h => by
    have hn2 := List.nodup_cons.mp hn
    have ih := words_of hL l hn2.2 (fun y hy => h y (List.mem_cons_of_mem _ hy))
    obtain ⟨hx, a, ha⟩ := h x List.mem_cons_self
    have hlx := hL.1 x a hx ha
    have hr := cnt_range (a := a) (b := a + (fl x + 1)) Wn (by omega) (by omega)
    have e : cnt (fun k => match own k with | none => false | some t => decide (t ∈ x :: l)) Wn = cnt (fun k => (match own k with | none => false | some t => decide (t ∈ l)) || decide (a ≤ k ∧ k < a + (fl x + 1))) Wn := cnt_congr Wn (fun k _ => by
      by_cases hk : a ≤ k ∧ k < a + (fl x + 1)
      · rw [hlx.2 k hk.1 (by omega), decide_eq_true hk]
        simp
      · rw [decide_eq_false hk]
        cases ho : own k with
        | none => rfl
        | some t =>
          have hne : t ≠ x := fun z => by
            subst z
            obtain ⟨-, b, g2, g3, g4⟩ := hL.2 k t ho
            rw [ha] at g2
            cases g2
            exact hk ⟨g3, by omega⟩
          show decide (t ∈ x :: l) = (decide (t ∈ l) || false)
          by_cases e1 : t ∈ l <;> simp [e1, hne])
    rw [e, cnt_or Wn (fun k _ h2 => by
      apply decide_eq_false
      intro hk
      rw [hlx.2 k hk.1 (by omega)] at h2
      exact hn2.1 (of_decide_eq_true h2)), ih, hr]
    show _ = szL fl (0 + (fl x + 1)) l
    rw [szL_add fl l (0 + (fl x + 1))]
    omega
theorem smW_range {adr : Nat → Option Nat} {fl : Nat → Nat} : ∀ n, szL fl 0 ((List.range n).filter (fun o => (adr o).isSome)) = smW adr fl n
  | 0 => rfl
  | n + 1 => by
    have ih := smW_range (adr := adr) (fl := fl) n
    rw [List.range_succ, List.filter_append, szL_app, ih]
    cases h : (adr n).isSome with
    | true => rw [smW_1 h]; simp [List.filter, h, szL]; omega
    | false => rw [smW_0 h]; simp [List.filter, h, szL]
theorem taken_eq {made Wn : Nat} {fl : Nat → Nat} {adr own : Nat → Option Nat} (hL : Lay made Wn fl adr own) : cnt (fun k => (own k).isSome) Wn = smW adr fl made := by
  rw [← smW_range, ← words_of hL _ (List.nodup_range.filter _) (fun x hx => by
    have h1 := List.mem_filter.mp hx
    exact ⟨List.mem_range.mp h1.1, Option.isSome_iff_exists.mp h1.2⟩)]
  refine cnt_congr Wn (fun k _ => ?_)
  cases ho : own k with
  | none => rfl
  | some t =>
    obtain ⟨g1, a, g2, -⟩ := hL.2 k t ho
    show true = decide _
    rw [decide_eq_true (List.mem_filter.mpr ⟨List.mem_range.mpr g1, by rw [g2]; rfl⟩)]
theorem sz_half {made Wn lo hi : Nat} {fl : Nat → Nat} {adr own : Nat → Option Nat} (hL : Lay made Wn fl adr own) (M : List Nat) (hM : M.Nodup) (h : ∀ x ∈ M, x < made ∧ ∃ a, adr x = some a ∧ lo ≤ a ∧ a + fl x < hi) (h1 : lo ≤ hi) (h2 : hi ≤ Wn) : szL fl 0 M ≤ hi - lo := by
  rw [← words_of hL M hM (fun x hx => by obtain ⟨g1, a, g2, -⟩ := h x hx; exact ⟨g1, a, g2⟩), ← cnt_range (a := lo) (b := hi) Wn h1 h2]
  refine cnt_mono Wn (fun k _ hk => ?_)
  cases ho : own k with
  | none => rw [ho] at hk; cases hk
  | some t =>
    rw [ho] at hk
    obtain ⟨-, a, g2, g3, g4⟩ := h t (of_decide_eq_true hk)
    obtain ⟨-, b, g5, g6, g7⟩ := hL.2 k t ho
    rw [g2] at g5
    cases g5
    exact decide_eq_true ⟨by omega, by omega⟩
