def ext0 {α : Type} (f : Nat → Nat → α) (m : Nat) (v : α) : Nat → Nat → α := fun k j => if k = m then v else f k j
def extq (q : Nat → Nat) (m b a1 a2 : Nat) : Nat → Nat := fun i => if i = 3 * m + 9 then b else if i = 3 * m + 10 then a1 else if i = 3 * m + 11 then a2 else q i
theorem extq_o {q : Nat → Nat} {m b a1 a2 i : Nat} (h : i < 3 * m + 9) : extq q m b a1 a2 i = q i := by
  unfold extq
  rw [if_neg (by omega), if_neg (by omega), if_neg (by omega)]
theorem extq_0 {q : Nat → Nat} {m b a1 a2 : Nat} : extq q m b a1 a2 (3 * m + 9) = b := by unfold extq; rw [if_pos rfl]
theorem extq_1 {q : Nat → Nat} {m b a1 a2 : Nat} : extq q m b a1 a2 (3 * m + 10) = a1 := by unfold extq; rw [if_neg (by omega), if_pos rfl]
theorem extq_2 {q : Nat → Nat} {m b a1 a2 : Nat} : extq q m b a1 a2 (3 * m + 11) = a2 := by unfold extq; rw [if_neg (by omega), if_neg (by omega), if_pos rfl]
theorem ext_map {q : Nat → Nat} {m b a1 a2 : Nat} {o : Option Nat} (h : ∀ t, o = some t → t < m) : o.map (tq (extq q m b a1 a2)) = o.map (tq q) := by
  cases o with
  | none => rfl
  | some t =>
    have := h t rfl
    show some (extq q m b a1 a2 (3 * t + 9)) = some (q (3 * t + 9))
    rw [extq_o (by omega)]
theorem IP.frame {q : Nat → Nat} {dom : Nat → Prop} {cell : Nat → va_E} {w w2 : mM} (h : IP q dom cell w) (hf : ∀ x, w x ≠ none → w2 x = w x) : IP q dom cell w2 :=
  ⟨fun i hi => by rw [hf _ (by rw [h.1 i hi]; simp)]; exact h.1 i hi, h.2⟩
set_option maxHeartbeats 4000000 in
theorem CW.ext {cI cT : ClassId} {q : Nat → Nat} {kp : Nat} {Wn : Nat} {made : Nat} {fl : (Nat → Nat)} {num : (Nat → Nat → Int32)} {rfs : (Nat → Nat → Option Nat)} {root : (Nat → Option Nat)} {own : (Nat → Option Nat)} {tad : (Nat → Nat)} {trm : (Nat → Bool)} {tpl : (Nat → Nat)} {wlk : (Nat → Nat)} {ord : (Nat → Nat)} {met : (Nat → Option Nat)} {msz : Nat} {cur : Nat} {mend : Nat} {pnx : Nat} {pen : Nat} {st : Nat} {coll : Nat} {mins : Nat} {movd : Nat} {w w2 : mM} (hC : CW cI cT q kp Wn made fl num rfs root own tad trm tpl wlk ord met msz cur mend pnx pen st coll mins movd w) {n b a1 a2 : Nat} (hob : ∀ k t, own k = some t → t < made) (hrb : ∀ j, j < 16 → ∀ o, root j = some o → o < made) (hmt : ∀ k t, met k = some t → t < made) (hfb : ∀ k, k < made → ∀ j t, rfs k j = some t → t < made) (hb : w b = none) (h1 : w a1 = none) (h2 : w a2 = none) (n1 : a1 ≠ b) (n2 : a2 ≠ b) (n3 : a2 ≠ a1)
    (g0 : w2 (q 0) = some (.inr (8, [.ref (q 1), .ref (q 3), .ref (q 5), .int (nI (made + 1))]))) (gb : w2 b = some (.inr (5, [.int (nI made), .ref a1, .ref a2, .int (nI 0), .int (bI false), .int (nI 0), .int (nI 0), .int (nI 0)]))) (g1 : w2 a1 = some (.inl (cI, n, .inl (fun _ => 0)))) (g2 : w2 a2 = some (.inl (cT, n, .inr (.inr (.inr (.inr (fun _ => none))))))) (hf : ∀ x, x ≠ q 0 → x ≠ b → x ≠ a1 → x ≠ a2 → w2 x = w x) : CW cI cT (extq q made b a1 a2) kp Wn ((made + 1)) ((va_up fl made n)) ((ext0 num made 0)) ((ext0 rfs made none)) root own ((va_up tad made 0)) ((va_up trm made false)) ((va_up tpl made 0)) ((va_up wlk made 0)) ((va_up ord made 0)) met msz cur mend pnx pen st coll mins movd w2 := by
  obtain ⟨hcell, hinj⟩ := hC
  have nq : ∀ i, domC kp made i → q i ≠ b ∧ q i ≠ a1 ∧ q i ≠ a2 := fun i hi => by
    have h := hcell i hi
    exact ⟨fun z => (by rw [z, hb] at h; cases h), fun z => (by rw [z, h1] at h; cases h), fun z => (by rw [z, h2] at h; cases h)⟩
  have hold : ∀ i, domC kp made i → i ≠ 0 → w2 (q i) = some (cellC cI cT q kp Wn made fl num rfs root own tad trm tpl wlk ord met msz cur mend pnx pen st coll mins movd i) := fun i hi h0 => by
    have h := nq i hi
    rw [hf (q i) (fun z => h0 (hinj i 0 hi (Or.inl (by decide)) z)) h.1 h.2.1 h.2.2]
    exact hcell i hi
  have key : ∀ i, domC kp (made + 1) i → (domC kp made i ∧ i < 3 * made + 9) ∨ (i = 3 * made + 9 ∨ i = 3 * made + 10 ∨ i = 3 * made + 11) := fun i hi => by
    by_cases h : i < 3 * made + 9
    · refine Or.inl ⟨?_, h⟩
      unfold domC at hi ⊢
      omega
    · refine Or.inr ?_
      unfold domC at hi
      omega
  have eo : (fun k => if k < Wn then (own k).map (tq (extq q made b a1 a2)) else none) = fun k => if k < Wn then (own k).map (tq q) else none := by
    funext k
    rw [ext_map (hob k)]
  have er : (fun k => if k < 16 then (root k).map (tq (extq q made b a1 a2)) else none) = fun k => if k < 16 then (root k).map (tq q) else none := by
    funext k
    by_cases h : k < 16
    · rw [if_pos h, if_pos h, ext_map (hrb k h)]
    · rw [if_neg h, if_neg h]
  have em : (fun k => if k < Wn then (met k).map (tq (extq q made b a1 a2)) else none) = fun k => if k < Wn then (met k).map (tq q) else none := by
    funext k
    rw [ext_map (hmt k)]
  have eq0 : ∀ i, i < 9 → extq q made b a1 a2 i = q i := fun i hi => extq_o (by omega)
  refine ⟨fun i hi => ?_, fun i j hi hj h => ?_⟩
  · rcases key i hi with ⟨hd, hlt⟩ | hnew
    · rw [extq_o hlt]
      by_cases h0 : i = 0
      · subst h0
        rw [g0]
        show (some _ : Option va_E) = some (.inr (8, [.ref (extq q made b a1 a2 1), .ref (extq q made b a1 a2 3), .ref (extq q made b a1 a2 5), .int (nI (made + 1))]))
        rw [eq0 1 (by decide), eq0 3 (by decide), eq0 5 (by decide)]
      · rw [hold i hd h0]
        congr 1
        rcases i with _|_|_|_|_|_|_|_|_|i
        · exact absurd rfl h0
        · show (.inr (7, [.ref (q 2)]) : va_E) = .inr (7, [.ref (extq q made b a1 a2 2)])
          rw [eq0 2 (by decide)]
        · show (.inl (cT, Wn, .inr (.inr (.inr (.inr _)))) : va_E) = .inl (cT, Wn, .inr (.inr (.inr (.inr _))))
          rw [eo]
        · show (.inr (3, [.ref (q 4)]) : va_E) = .inr (3, [.ref (extq q made b a1 a2 4)])
          rw [eq0 4 (by decide)]
        · show (.inl (cT, 16, .inr (.inr (.inr (.inr _)))) : va_E) = .inl (cT, 16, .inr (.inr (.inr (.inr _))))
          rw [er]
        · show kpC q kp Wn st coll mins movd = kpC (extq q made b a1 a2) kp Wn st coll mins movd
          unfold kpC
          rw [eq0 1 (by decide), eq0 3 (by decide), eq0 6 (by decide), eq0 8 (by decide)]
        · show (.inr (6, [.ref (q 7), _, _, _]) : va_E) = .inr (6, [.ref (extq q made b a1 a2 7), _, _, _])
          rw [eq0 7 (by decide)]
        · show (.inl (cT, Wn, .inr (.inr (.inr (.inr _)))) : va_E) = .inl (cT, Wn, .inr (.inr (.inr (.inr _))))
          rw [em]
        · rfl
        · have hk : i / 3 < made := by omega
          have hne : i / 3 ≠ made := by omega
          show thC cI cT q fl num rfs tad trm tpl wlk ord (i % 3) (i / 3) = thC cI cT (extq q made b a1 a2) (va_up fl made n) (ext0 num made 0) (ext0 rfs made none) (va_up tad made 0) (va_up trm made false) (va_up tpl made 0) (va_up wlk made 0) (va_up ord made 0) (i % 3) (i / 3)
          generalize i / 3 = k at hk hne
          rcases (show i % 3 = 0 ∨ i % 3 = 1 ∨ i % 3 = 2 by omega) with h | h | h
          · rw [h]
            simp only [thC, va_up, if_neg hne]
            rw [extq_o (show 3 * k + 10 < 3 * made + 9 by omega), extq_o (show 3 * k + 11 < 3 * made + 9 by omega)]
          · rw [h]
            simp only [thC, va_up, ext0, if_neg hne]
          · rw [h]
            simp only [thC, va_up, ext0, if_neg hne]
            have e9 : (fun j => (rfs k j).map (tq (extq q made b a1 a2))) = fun j => (rfs k j).map (tq q) := by
              funext j
              rw [ext_map (hfb k hk j)]
            rw [e9]
    · have hth : ∀ r, r < 3 → cellC cI cT (extq q made b a1 a2) kp Wn (made + 1) (va_up fl made n) (ext0 num made 0) (ext0 rfs made none) root own (va_up tad made 0) (va_up trm made false) (va_up tpl made 0) (va_up wlk made 0) (va_up ord made 0) met msz cur mend pnx pen st coll mins movd (3 * made + r + 9) = thC cI cT (extq q made b a1 a2) (va_up fl made n) (ext0 num made 0) (ext0 rfs made none) (va_up tad made 0) (va_up trm made false) (va_up tpl made 0) (va_up wlk made 0) (va_up ord made 0) r made := fun r hr => by
        show thC _ _ _ _ _ _ _ _ _ _ _ ((3 * made + r) % 3) ((3 * made + r) / 3) = _
        rw [show (3 * made + r) % 3 = r by omega, show (3 * made + r) / 3 = made by omega]
      rcases hnew with rfl | rfl | rfl
      · rw [extq_0, gb, hth 0 (by decide)]
        simp only [thC, va_up, if_true]
        rw [extq_1, extq_2]
      · rw [extq_1, g1, hth 1 (by decide)]
        simp only [thC, va_up, ext0, if_true]
      · rw [extq_2, g2, hth 2 (by decide)]
        simp only [thC, va_up, ext0, if_true]
        rfl
  · have vv : ∀ i, domC kp (made + 1) i → (domC kp made i ∧ i < 3 * made + 9 ∧ extq q made b a1 a2 i = q i) ∨ (i = 3 * made + 9 ∧ extq q made b a1 a2 i = b) ∨ (i = 3 * made + 10 ∧ extq q made b a1 a2 i = a1) ∨ (i = 3 * made + 11 ∧ extq q made b a1 a2 i = a2) := fun i hi => by
      rcases key i hi with ⟨hd, hlt⟩ | rfl | rfl | rfl
      · exact Or.inl ⟨hd, hlt, extq_o hlt⟩
      · exact Or.inr (Or.inl ⟨rfl, extq_0⟩)
      · exact Or.inr (Or.inr (Or.inl ⟨rfl, extq_1⟩))
      · exact Or.inr (Or.inr (Or.inr ⟨rfl, extq_2⟩))
    rcases vv i hi with ⟨d1, l1, e1⟩ | ⟨l1, e1⟩ | ⟨l1, e1⟩ | ⟨l1, e1⟩ <;> rcases vv j hj with ⟨d2, l2, e2⟩ | ⟨l2, e2⟩ | ⟨l2, e2⟩ | ⟨l2, e2⟩ <;> rw [e1, e2] at h
    · exact hinj i j d1 d2 h
    · exact absurd h (nq i d1).1
    · exact absurd h (nq i d1).2.1
    · exact absurd h (nq i d1).2.2
    · exact absurd h.symm (nq j d2).1
    · omega
    · exact absurd h.symm n1
    · exact absurd h.symm n2
    · exact absurd h.symm (nq j d2).2.1
    · exact absurd h n1
    · omega
    · exact absurd h.symm n3
    · exact absurd h.symm (nq j d2).2.2
    · exact absurd h n2
    · exact absurd h n3
    · omega
