/-! lists of what has been met -/
theorem mtL_pre (ok : Nat → Bool) (L : List Nat) (o : Option Nat) : ∃ M, mtL ok L o = L ++ M := by
  unfold mtL
  cases o with
  | none => exact ⟨[], (List.append_nil L).symm⟩
  | some k =>
    by_cases h : ok k = true ∧ k ∉ L
    · exact ⟨[k], by simp only [if_pos h]⟩
    · exact ⟨[], by simp only [if_neg h, List.append_nil]⟩
theorem mtN_pre (ok : Nat → Bool) (f : Nat → Option Nat) (n : Nat) (L : List Nat) : ∃ M, mtN ok f n L = L ++ M := by
  induction n with
  | zero => exact ⟨[], (List.append_nil L).symm⟩
  | succ n ih =>
    obtain ⟨M, hM⟩ := ih
    obtain ⟨M2, hM2⟩ := mtL_pre ok (mtN ok f n L) (f n)
    refine ⟨M ++ M2, ?_⟩
    show mtL ok (mtN ok f n L) (f n) = _
    rw [hM2, hM, List.append_assoc]
theorem getD_pre {L M : List Nat} {i : Nat} (h : i < L.length) : (L ++ M).getD i 0 = L.getD i 0 := by
  simp [List.getD, List.getElem?_append_left h]
theorem getD_some {L : List Nat} {i : Nat} (h : i < L.length) : L[i]? = some (L.getD i 0) := by
  simp [List.getD, List.getElem?_eq_getElem h]
theorem getD_mem {L : List Nat} {i : Nat} (h : i < L.length) : L.getD i 0 ∈ L := List.mem_of_getElem? (getD_some h)
theorem mtL_nd {ok : Nat → Bool} {L : List Nat} {o : Option Nat} (h : L.Nodup) : (mtL ok L o).Nodup := by
  unfold mtL
  cases o with
  | none => exact h
  | some k =>
    by_cases h2 : ok k = true ∧ k ∉ L
    · simp only [if_pos h2]
      refine List.nodup_append.mpr ⟨h, List.nodup_cons.mpr ⟨List.not_mem_nil, List.nodup_nil⟩, ?_⟩
      intro x hx y hy
      rw [List.mem_singleton.mp hy]
      exact fun z => h2.2 (z ▸ hx)
    · simp only [if_neg h2]
      exact h
theorem mtL_all {ok : Nat → Bool} {L : List Nat} {o : Option Nat} {Kp : Nat → Prop} (h : ∀ x ∈ L, Kp x) (ho : ∀ k, o = some k → ok k = true → Kp k) : ∀ x ∈ mtL ok L o, Kp x := by
  unfold mtL
  cases o with
  | none => exact h
  | some k =>
    by_cases h2 : ok k = true ∧ k ∉ L
    · simp only [if_pos h2]
      intro x hx
      rcases List.mem_append.mp hx with hx | hx
      · exact h x hx
      · rw [List.mem_singleton.mp hx]; exact ho k rfl h2.1
    · simp only [if_neg h2]
      exact h
theorem mtN_nd {ok : Nat → Bool} {f : Nat → Option Nat} {L : List Nat} (h : L.Nodup) : ∀ n, (mtN ok f n L).Nodup
  | 0 => h
  | n + 1 => mtL_nd (mtN_nd h n)
theorem mtN_all {ok : Nat → Bool} {f : Nat → Option Nat} {L : List Nat} {Kp : Nat → Prop} (h : ∀ x ∈ L, Kp x) : ∀ n, (∀ i, i < n → ∀ k, f i = some k → ok k = true → Kp k) → ∀ x ∈ mtN ok f n L, Kp x
  | 0, _ => h
  | n + 1, hf => mtL_all (mtN_all h n (fun i hi => hf i (by omega))) (hf n (by omega))
theorem flw_nd {ok : Nat → Bool} {fl : Nat → Nat} {rfs : Nat → Nat → Option Nat} : ∀ (n i : Nat) (L : List Nat), L.Nodup → (flw ok fl rfs n i L).Nodup
  | 0, _, _, h => h
  | n + 1, i, L, h => by
    unfold flw
    split
    · exact flw_nd n (i + 1) _ (mtN_nd h _)
    · exact h
theorem flw_all {ok : Nat → Bool} {fl : Nat → Nat} {rfs : Nat → Nat → Option Nat} {Kp : Nat → Prop} (hf : ∀ x, Kp x → ∀ i, i < fl x → ∀ k, rfs x i = some k → ok k = true → Kp k) : ∀ (n i : Nat) (L : List Nat), (∀ x ∈ L, Kp x) → ∀ x ∈ flw ok fl rfs n i L, Kp x
  | 0, _, _, h => h
  | n + 1, i, L, h => by
    unfold flw
    split
    · rename_i hi
      exact flw_all hf n (i + 1) _ (mtN_all h _ (hf _ (h _ (getD_mem hi))))
    · exact h
theorem flw_pre {ok : Nat → Bool} {fl : Nat → Nat} {rfs : Nat → Nat → Option Nat} : ∀ (n i : Nat) (L : List Nat), ∃ M, flw ok fl rfs n i L = L ++ M
  | 0, _, L => ⟨[], (List.append_nil L).symm⟩
  | n + 1, i, L => by
    unfold flw
    split
    · obtain ⟨M, hM⟩ := mtN_pre ok (rfs (L.getD i 0)) (fl (L.getD i 0)) L
      obtain ⟨M2, hM2⟩ := flw_pre (ok := ok) (fl := fl) (rfs := rfs) n (i + 1) (mtN ok (rfs (L.getD i 0)) (fl (L.getD i 0)) L)
      exact ⟨M ++ M2, by rw [hM2, hM, List.append_assoc]⟩
    · exact ⟨[], (List.append_nil L).symm⟩
/-- the reference's walk: row, places and size hold the list -/
def Lst (made size : Nat) (row : Nat → Nat) (plc : Nat → Option Nat) (L : List Nat) : Prop :=
  L.Nodup ∧ size = L.length ∧ (∀ i, i < L.length → row i = L.getD i 0) ∧ (∀ o, o < made → (plc o = none ↔ o ∉ L)) ∧ (∀ i o, L[i]? = some o → plc o = some i) ∧ ∀ o ∈ L, o < made
theorem Lst_nil {made : Nat} {row : Nat → Nat} {plc : Nat → Option Nat} : Lst made 0 row (clrO plc made) [] := by
  refine ⟨List.nodup_nil, rfl, fun i h => absurd h (Nat.not_lt_zero _), fun o ho => ⟨fun _ => List.not_mem_nil, fun _ => ?_⟩, fun i o h => ?_, fun o h => absurd h List.not_mem_nil⟩
  · unfold clrO
    rw [if_pos ho]
  · simp at h
theorem Lst_push {made size k : Nat} {row : Nat → Nat} {plc : Nat → Option Nat} {L : List Nat} (h : Lst made size row plc L) (hk : k < made) (hn : k ∉ L) : Lst made (size + 1) (va_up row size k) (va_up plc k (some size)) (L ++ [k]) := by
  obtain ⟨h1, h2, h3, h4, h5, h6⟩ := h
  subst h2
  refine ⟨List.nodup_append.mpr ⟨h1, List.nodup_cons.mpr ⟨List.not_mem_nil, List.nodup_nil⟩, ?_⟩, ?_, ?_, ?_, ?_, ?_⟩
  · intro x hx y hy
    rw [List.mem_singleton.mp hy]
    exact fun z => hn (z ▸ hx)
  · rw [List.length_append]; rfl
  · intro i hi
    rw [List.length_append] at hi
    unfold va_up
    by_cases hil : i = L.length
    · rw [if_pos hil, hil]
      simp [List.getD]
    · rw [if_neg hil]
      have : i < L.length := by have : [k].length = 1 := rfl; omega
      rw [getD_pre this]
      exact h3 i this
  · intro o ho
    unfold va_up
    by_cases hok : o = k
    · rw [if_pos hok]
      exact ⟨(fun z => nomatch z), (fun z => absurd (hok ▸ List.mem_append_right L (List.mem_singleton.mpr rfl)) z)⟩
    · rw [if_neg hok]
      refine (h4 o ho).trans ⟨fun z hz => ?_, fun z hz => z (List.mem_append_left _ hz)⟩
      rcases List.mem_append.mp hz with hz | hz
      · exact z hz
      · exact hok (List.mem_singleton.mp hz)
  · intro i o hio
    unfold va_up
    by_cases hil : i < L.length
    · rw [List.getElem?_append_left hil] at hio
      have hne : o ≠ k := fun z => hn (z ▸ List.mem_of_getElem? hio)
      rw [if_neg hne]
      exact h5 i o hio
    · rw [List.getElem?_append_right (by omega)] at hio
      have hz : i - L.length < 1 := (List.getElem?_eq_some_iff.mp hio).1
      have hi : i = L.length := by omega
      subst hi
      rw [Nat.sub_self] at hio
      cases hio
      rw [if_pos rfl]
  · intro o ho
    rcases List.mem_append.mp ho with ho | ho
    · exact h6 o ho
    · rw [List.mem_singleton.mp ho]; exact hk
theorem Lst_row {made size i : Nat} {row : Nat → Nat} {plc : Nat → Option Nat} {L : List Nat} (h : Lst made size row plc L) (hi : i < size) : row i = L.getD i 0 ∧ L.getD i 0 ∈ L ∧ L.getD i 0 < made := by
  have hi2 : i < L.length := h.2.1 ▸ hi
  exact ⟨h.2.2.1 i hi2, getD_mem hi2, h.2.2.2.2.2 _ (getD_mem hi2)⟩
