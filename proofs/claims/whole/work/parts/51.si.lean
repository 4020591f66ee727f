/-! THE TWO SIDES TOGETHER: what holds between calls -/
def SI (kp Wn made : Nat) (fl : Nat → Nat) (rfs : Nat → Nat → Option Nat) (root own : Nat → Option Nat) (tad : Nat → Nat) (trm : Nat → Bool) (pnx pen st : Nat) (adr : Nat → Option Nat) (rem : Nat → Bool) (half top : Nat) : Prop :=
  (kp ≤ 2) ∧
  (16 ≤ Wn) ∧
  (Wn ≤ 400) ∧
  (made ≤ 2000) ∧
  (∀ x, x < made → fl x ≤ 6) ∧
  (∀ k, k < made → ∀ j t, rfs k j = some t → t < made) ∧
  (Lay made Wn fl adr own) ∧
  (∀ o a, o < made → adr o = some a → tad o = a) ∧
  (∀ t, t < made → tad t < 2147483648) ∧
  (∀ o a, o < made → adr o = some a → trm o = rem o) ∧
  (∀ o, made ≤ o → rem o = false) ∧
  (∃ Kp : Nat → Prop, (∀ x, Kp x → x < made ∧ ∃ a, adr x = some a) ∧ (∀ x, Kp x → ∀ i, i < fl x → ∀ t, rfs x i = some t → Kp t) ∧ (∀ i, i < 16 → ∀ t, root i = some t → Kp t) ∧ (kp = 2 → ∀ k t, Wn / 4 ≤ k → own k = some t → Kp t)) ∧
  (kp = 1 → half ≤ 1 ∧ st = half * (Wn / 2) ∧ pnx = top ∧ pen = (half + 1) * (Wn / 2) ∧ half * (Wn / 2) ≤ top ∧ top ≤ pen ∧ ∀ o a, o < made → adr o = some a → half * (Wn / 2) ≤ a ∧ a + fl o < top) ∧
  (kp = 2 → pnx = top ∧ pen = Wn / 4 ∧ top ≤ Wn / 4 ∧ (∀ o a, o < made → adr o = some a → a < Wn / 4 → a + fl o < top ∧ rem o = false) ∧ (∀ x a, x < made → adr x = some a → Wn / 4 ≤ a → ∀ i, i < fl x → ∀ t b, rfs x i = some t → adr t = some b → b < Wn / 4 → rem x = true))
theorem SI.kp2 {kp Wn made : Nat} {fl : Nat → Nat} {rfs : Nat → Nat → Option Nat} {root own : Nat → Option Nat} {tad : Nat → Nat} {trm : Nat → Bool} {pnx pen st : Nat} {adr : Nat → Option Nat} {rem : Nat → Bool} {half top : Nat} (h : SI kp Wn made fl rfs root own tad trm pnx pen st adr rem half top) : kp ≤ 2 := h.1
theorem SI.w16 {kp Wn made : Nat} {fl : Nat → Nat} {rfs : Nat → Nat → Option Nat} {root own : Nat → Option Nat} {tad : Nat → Nat} {trm : Nat → Bool} {pnx pen st : Nat} {adr : Nat → Option Nat} {rem : Nat → Bool} {half top : Nat} (h : SI kp Wn made fl rfs root own tad trm pnx pen st adr rem half top) : 16 ≤ Wn := h.2.1
theorem SI.w400 {kp Wn made : Nat} {fl : Nat → Nat} {rfs : Nat → Nat → Option Nat} {root own : Nat → Option Nat} {tad : Nat → Nat} {trm : Nat → Bool} {pnx pen st : Nat} {adr : Nat → Option Nat} {rem : Nat → Bool} {half top : Nat} (h : SI kp Wn made fl rfs root own tad trm pnx pen st adr rem half top) : Wn ≤ 400 := h.2.2.1
theorem SI.md {kp Wn made : Nat} {fl : Nat → Nat} {rfs : Nat → Nat → Option Nat} {root own : Nat → Option Nat} {tad : Nat → Nat} {trm : Nat → Bool} {pnx pen st : Nat} {adr : Nat → Option Nat} {rem : Nat → Bool} {half top : Nat} (h : SI kp Wn made fl rfs root own tad trm pnx pen st adr rem half top) : made ≤ 2000 := h.2.2.2.1
theorem SI.fl6 {kp Wn made : Nat} {fl : Nat → Nat} {rfs : Nat → Nat → Option Nat} {root own : Nat → Option Nat} {tad : Nat → Nat} {trm : Nat → Bool} {pnx pen st : Nat} {adr : Nat → Option Nat} {rem : Nat → Bool} {half top : Nat} (h : SI kp Wn made fl rfs root own tad trm pnx pen st adr rem half top) : ∀ x, x < made → fl x ≤ 6 := h.2.2.2.2.1
theorem SI.rfb {kp Wn made : Nat} {fl : Nat → Nat} {rfs : Nat → Nat → Option Nat} {root own : Nat → Option Nat} {tad : Nat → Nat} {trm : Nat → Bool} {pnx pen st : Nat} {adr : Nat → Option Nat} {rem : Nat → Bool} {half top : Nat} (h : SI kp Wn made fl rfs root own tad trm pnx pen st adr rem half top) : ∀ k, k < made → ∀ j t, rfs k j = some t → t < made := h.2.2.2.2.2.1
theorem SI.lyd {kp Wn made : Nat} {fl : Nat → Nat} {rfs : Nat → Nat → Option Nat} {root own : Nat → Option Nat} {tad : Nat → Nat} {trm : Nat → Bool} {pnx pen st : Nat} {adr : Nat → Option Nat} {rem : Nat → Bool} {half top : Nat} (h : SI kp Wn made fl rfs root own tad trm pnx pen st adr rem half top) : Lay made Wn fl adr own := h.2.2.2.2.2.2.1
theorem SI.ta {kp Wn made : Nat} {fl : Nat → Nat} {rfs : Nat → Nat → Option Nat} {root own : Nat → Option Nat} {tad : Nat → Nat} {trm : Nat → Bool} {pnx pen st : Nat} {adr : Nat → Option Nat} {rem : Nat → Bool} {half top : Nat} (h : SI kp Wn made fl rfs root own tad trm pnx pen st adr rem half top) : ∀ o a, o < made → adr o = some a → tad o = a := h.2.2.2.2.2.2.2.1
theorem SI.tb {kp Wn made : Nat} {fl : Nat → Nat} {rfs : Nat → Nat → Option Nat} {root own : Nat → Option Nat} {tad : Nat → Nat} {trm : Nat → Bool} {pnx pen st : Nat} {adr : Nat → Option Nat} {rem : Nat → Bool} {half top : Nat} (h : SI kp Wn made fl rfs root own tad trm pnx pen st adr rem half top) : ∀ t, t < made → tad t < 2147483648 := h.2.2.2.2.2.2.2.2.1
theorem SI.rm {kp Wn made : Nat} {fl : Nat → Nat} {rfs : Nat → Nat → Option Nat} {root own : Nat → Option Nat} {tad : Nat → Nat} {trm : Nat → Bool} {pnx pen st : Nat} {adr : Nat → Option Nat} {rem : Nat → Bool} {half top : Nat} (h : SI kp Wn made fl rfs root own tad trm pnx pen st adr rem half top) : ∀ o a, o < made → adr o = some a → trm o = rem o := h.2.2.2.2.2.2.2.2.2.1
theorem SI.rz {kp Wn made : Nat} {fl : Nat → Nat} {rfs : Nat → Nat → Option Nat} {root own : Nat → Option Nat} {tad : Nat → Nat} {trm : Nat → Bool} {pnx pen st : Nat} {adr : Nat → Option Nat} {rem : Nat → Bool} {half top : Nat} (h : SI kp Wn made fl rfs root own tad trm pnx pen st adr rem half top) : ∀ o, made ≤ o → rem o = false := h.2.2.2.2.2.2.2.2.2.2.1
theorem SI.kk {kp Wn made : Nat} {fl : Nat → Nat} {rfs : Nat → Nat → Option Nat} {root own : Nat → Option Nat} {tad : Nat → Nat} {trm : Nat → Bool} {pnx pen st : Nat} {adr : Nat → Option Nat} {rem : Nat → Bool} {half top : Nat} (h : SI kp Wn made fl rfs root own tad trm pnx pen st adr rem half top) : ∃ Kp : Nat → Prop, (∀ x, Kp x → x < made ∧ ∃ a, adr x = some a) ∧ (∀ x, Kp x → ∀ i, i < fl x → ∀ t, rfs x i = some t → Kp t) ∧ (∀ i, i < 16 → ∀ t, root i = some t → Kp t) ∧ (kp = 2 → ∀ k t, Wn / 4 ≤ k → own k = some t → Kp t) := h.2.2.2.2.2.2.2.2.2.2.2.1
theorem SI.c1 {kp Wn made : Nat} {fl : Nat → Nat} {rfs : Nat → Nat → Option Nat} {root own : Nat → Option Nat} {tad : Nat → Nat} {trm : Nat → Bool} {pnx pen st : Nat} {adr : Nat → Option Nat} {rem : Nat → Bool} {half top : Nat} (h : SI kp Wn made fl rfs root own tad trm pnx pen st adr rem half top) : kp = 1 → half ≤ 1 ∧ st = half * (Wn / 2) ∧ pnx = top ∧ pen = (half + 1) * (Wn / 2) ∧ half * (Wn / 2) ≤ top ∧ top ≤ pen ∧ ∀ o a, o < made → adr o = some a → half * (Wn / 2) ≤ a ∧ a + fl o < top := h.2.2.2.2.2.2.2.2.2.2.2.2.1
theorem SI.c2 {kp Wn made : Nat} {fl : Nat → Nat} {rfs : Nat → Nat → Option Nat} {root own : Nat → Option Nat} {tad : Nat → Nat} {trm : Nat → Bool} {pnx pen st : Nat} {adr : Nat → Option Nat} {rem : Nat → Bool} {half top : Nat} (h : SI kp Wn made fl rfs root own tad trm pnx pen st adr rem half top) : kp = 2 → pnx = top ∧ pen = Wn / 4 ∧ top ≤ Wn / 4 ∧ (∀ o a, o < made → adr o = some a → a < Wn / 4 → a + fl o < top ∧ rem o = false) ∧ (∀ x a, x < made → adr x = some a → Wn / 4 ≤ a → ∀ i, i < fl x → ∀ t b, rfs x i = some t → adr t = some b → b < Wn / 4 → rem x = true) := h.2.2.2.2.2.2.2.2.2.2.2.2.2
section SIW
variable {kp Wn made : Nat} {fl : Nat → Nat} {rfs : Nat → Nat → Option Nat} {root own : Nat → Option Nat} {tad : Nat → Nat} {trm : Nat → Bool} {pnx pen st : Nat} {adr : Nat → Option Nat} {rem : Nat → Bool} {half top : Nat}
theorem SI.rb (h : SI kp Wn made fl rfs root own tad trm pnx pen st adr rem half top) : ∀ j, j < 16 → ∀ o, root j = some o → o < made ∧ ∃ a, adr o = some a := fun j hj o ho => by
  obtain ⟨Kp, h1, h2, h3, h4⟩ := h.kk
  exact h1 o (h3 j hj o ho)
theorem SI.ob (h : SI kp Wn made fl rfs root own tad trm pnx pen st adr rem half top) : ∀ k t, own k = some t → t < made := fun k t ht => (h.lyd.2 k t ht).1
theorem SI.ab (h : SI kp Wn made fl rfs root own tad trm pnx pen st adr rem half top) : ∀ o, o < made → ∀ a, adr o = some a → a < 2147483648 := fun o ho a ha => by
  have := (h.lyd.1 o a ho ha).1
  have := h.w400
  omega
theorem SI.own_hi (h : SI kp Wn made fl rfs root own tad trm pnx pen st adr rem half top) : ∀ k, Wn ≤ k → own k = none := fun k hk => by
  cases ho : own k with
  | none => rfl
  | some t =>
    obtain ⟨g1, a, g2, g3, g4⟩ := h.lyd.2 k t ho
    have := (h.lyd.1 t a g1 g2).1
    omega
/-- the same object is old on both sides -/
theorem SI.old (h : SI kp Wn made fl rfs root own tad trm pnx pen st adr rem half top) {o a : Nat} (ho : o < made) (ha : adr o = some a) : isOldC kp Wn tad o = isOldR kp Wn adr o := by
  unfold isOldC isOldR
  rw [ha, h.ta o a ho ha]
theorem SI.lyc (h : SI kp Wn made fl rfs root own tad trm pnx pen st adr rem half top) : LyC made Wn fl tad own := fun x t hx => by
  obtain ⟨g1, a, g2, g3, g4⟩ := h.lyd.2 x t hx
  obtain ⟨g5, g6⟩ := h.lyd.1 t a g1 g2
  rw [h.ta t a g1 g2]
  exact ⟨g1, g3, g4, g5, g6⟩
theorem SI.y (h : SI kp Wn made fl rfs root own tad trm pnx pen st adr rem half top) (hk : kp = 2) : ∀ k a, k < made → adr k = some a → a < Wn / 4 → a + fl k < Wn / 4 := fun k a h1 h2 h3 => by
  obtain ⟨-, -, g3, g4, -⟩ := h.c2 hk
  have := (g4 k a h1 h2 h3).1
  omega
theorem SI.yr (h : SI kp Wn made fl rfs root own tad trm pnx pen st adr rem half top) (hk : kp = 2) : ∀ o a, o < made → adr o = some a → a < Wn / 4 → rem o = false := fun o a h1 h2 h3 => by
  obtain ⟨-, -, g3, g4, -⟩ := h.c2 hk
  exact (g4 o a h1 h2 h3).2
/-- roots change, to what is kept -/
theorem SI.roots (h : SI kp Wn made fl rfs root own tad trm pnx pen st adr rem half top) {root2 : Nat → Option Nat} (hr : ∀ Kp : Nat → Prop, (∀ x, Kp x → ∀ i, i < fl x → ∀ t, rfs x i = some t → Kp t) → (∀ i, i < 16 → ∀ t, root i = some t → Kp t) → ∀ i, i < 16 → ∀ t, root2 i = some t → Kp t) : SI kp Wn made fl rfs root2 own tad trm pnx pen st adr rem half top := by
  obtain ⟨Kp, h1, h2, h3, h4⟩ := h.kk
  exact ⟨h.kp2, h.w16, h.w400, h.md, h.fl6, h.rfb, h.lyd, h.ta, h.tb, h.rm, h.rz, ⟨Kp, h1, h2, hr Kp h2 h3, h4⟩, h.c1, h.c2⟩
theorem SI.load (h : SI kp Wn made fl rfs root own tad trm pnx pen st adr rem half top) {j i k o u : Nat} (hj : j < 16) (ho : root j = some o) (hi : i < fl o) (hu : rfs o i = some u) : SI kp Wn made fl rfs (va_up root k (some u)) own tad trm pnx pen st adr rem half top :=
  h.roots (fun Kp h2 h3 i2 hi2 t ht => by
    unfold va_up at ht
    split at ht
    · cases ht; exact h2 o (h3 j hj o ho) i hi _ hu
    · exact h3 i2 hi2 t ht)
theorem SI.copy (h : SI kp Wn made fl rfs root own tad trm pnx pen st adr rem half top) {j k : Nat} (hj : j < 16) : SI kp Wn made fl rfs (va_up root k (root j)) own tad trm pnx pen st adr rem half top :=
  h.roots (fun Kp h2 h3 i2 hi2 t ht => by
    unfold va_up at ht
    split at ht
    · exact h3 j hj t ht
    · exact h3 i2 hi2 t ht)
theorem SI.drop (h : SI kp Wn made fl rfs root own tad trm pnx pen st adr rem half top) {k : Nat} : SI kp Wn made fl rfs (va_up root k none) own tad trm pnx pen st adr rem half top :=
  h.roots (fun Kp h2 h3 i2 hi2 t ht => by
    unfold va_up at ht
    split at ht
    · cases ht
    · exact h3 i2 hi2 t ht)
theorem up2_some {rfs : Nat → Nat → Option Nat} {o i x j t : Nat} {v : Option Nat} (h : up2 rfs o i v x j = some t) : (x = o ∧ j = i ∧ v = some t) ∨ (¬ (x = o ∧ j = i) ∧ rfs x j = some t) := by
  unfold up2 at h
  split at h
  · rename_i e; exact Or.inl ⟨e.1, e.2, h⟩
  · rename_i e; exact Or.inr ⟨e, h⟩
theorem SI.set (h : SI kp Wn made fl rfs root own tad trm pnx pen st adr rem half top) {o i : Nat} : SI kp Wn made fl (up2 rfs o i none) root own tad trm pnx pen st adr rem half top := by
  have hs : ∀ x j t, up2 rfs o i none x j = some t → rfs x j = some t := fun x j t ht => by
    rcases up2_some ht with ⟨-, -, z⟩ | ⟨-, z⟩
    · cases z
    · exact z
  obtain ⟨Kp, h1, h2, h3, h4⟩ := h.kk
  refine ⟨h.kp2, h.w16, h.w400, h.md, h.fl6, fun k hk j t ht => h.rfb k hk j t (hs k j t ht), h.lyd, h.ta, h.tb, h.rm, h.rz, ⟨Kp, h1, fun x hx f hf t ht => h2 x hx f hf t (hs x f t ht), h3, h4⟩, h.c1, fun hk => ?_⟩
  obtain ⟨g1, g2, g3, g4, g5⟩ := h.c2 hk
  exact ⟨g1, g2, g3, g4, fun x a hx ha hy f hf t b ht => g5 x a hx ha hy f hf t b (hs x f t ht)⟩
theorem SI.link (h : SI kp Wn made fl rfs root own tad trm pnx pen st adr rem half top) {j k o i u : Nat} (hj : j < 16) (hk : k < 16) (ho : root j = some o) (hu : root k = some u) : SI kp Wn made fl (up2 rfs o i (some u)) root own tad (va_up trm o (trm o || (isOldC kp Wn tad o && !isOldC kp Wn tad u))) pnx pen st adr (va_up rem o (rem o || (isOldR kp Wn adr o && !isOldR kp Wn adr u))) half top := by
  obtain ⟨hom, a, ha⟩ := h.rb j hj o ho
  obtain ⟨hum, b, hb⟩ := h.rb k hk u hu
  obtain ⟨Kp, h1, h2, h3, h4⟩ := h.kk
  refine ⟨h.kp2, h.w16, h.w400, h.md, h.fl6, fun x hx f t ht => ?_, h.lyd, h.ta, h.tb, fun x c hx hc => ?_, fun x hx => ?_, ⟨Kp, h1, fun x hx f hf t ht => ?_, h3, h4⟩, h.c1, fun hkp => ?_⟩
  · rcases up2_some ht with ⟨-, -, z⟩ | ⟨-, z⟩
    · cases z; exact hum
    · exact h.rfb x hx f t z
  · unfold va_up
    by_cases e : x = o
    · rw [if_pos e, if_pos e, h.old hom ha, h.old hum hb, h.rm o a hom ha]
    · rw [if_neg e, if_neg e]
      exact h.rm x c hx hc
  · unfold va_up
    rw [if_neg (by omega)]
    exact h.rz x hx
  · rcases up2_some ht with ⟨-, -, z⟩ | ⟨-, z⟩
    · cases z; exact h3 k hk u hu
    · exact h2 x hx f hf t z
  · obtain ⟨g1, g2, g3, g4, g5⟩ := h.c2 hkp
    refine ⟨g1, g2, g3, fun x c hx hc hy => ⟨(g4 x c hx hc hy).1, ?_⟩, fun x c hx hc hy f hf t d ht hd hz => ?_⟩
    · unfold va_up
      by_cases e : x = o
      · rw [if_pos e]
        subst e
        rw [ha] at hc
        cases hc
        rw [(g4 x a hx ha hy).2, isOld_y ha hy]
        rfl
      · rw [if_neg e]
        exact (g4 x c hx hc hy).2
    · unfold va_up
      by_cases e : x = o
      · rw [if_pos e]
        subst e
        rw [ha] at hc
        cases hc
        rcases up2_some ht with ⟨-, -, z⟩ | ⟨-, z⟩
        · cases z
          rw [hb] at hd
          cases hd
          rw [isOld_o hkp ha (by omega), isOld_y hb hz]
          simp
        · rw [g5 x a hx ha hy f hf t d z hd hz]
          rfl
      · rw [if_neg e]
        rcases up2_some ht with ⟨z, -, -⟩ | ⟨-, z⟩
        · exact absurd z e
        · exact g5 x c hx hc hy f hf t d z hd hz
/-- a new object -/
theorem Lay_new {made Wn n a : Nat} {fl : Nat → Nat} {adr own : Nat → Option Nat} (hL : Lay made Wn fl adr own) (ha : a + n < Wn) (hf : ∀ k, a ≤ k → k < a + (n + 1) → own k = none) : Lay (made + 1) Wn (va_up fl made n) (va_up adr made (some a)) (fillO own a (n + 1) (some made)) := by
  refine ⟨fun o b ho hb => ?_, fun k o hk => ?_⟩
  · unfold va_up at hb ⊢
    by_cases e : o = made
    · rw [if_pos e] at hb ⊢
      cases hb
      refine ⟨ha, fun k h1 h2 => ?_⟩
      unfold fillO
      rw [if_pos ⟨h1, by omega⟩, e]
    · rw [if_neg e] at hb ⊢
      obtain ⟨g1, g2⟩ := hL.1 o b (by omega) hb
      refine ⟨g1, fun k h1 h2 => ?_⟩
      have g3 := g2 k h1 h2
      unfold fillO
      rw [if_neg (fun z => by rw [hf k z.1 z.2] at g3; cases g3)]
      exact g3
  · unfold fillO at hk
    split at hk
    · rename_i z
      cases hk
      refine ⟨by omega, a, by unfold va_up; rw [if_pos rfl], z.1, ?_⟩
      unfold va_up
      rw [if_pos rfl]
      omega
    · obtain ⟨g1, b, g2, g3, g4⟩ := hL.2 k o hk
      refine ⟨by omega, b, ?_, g3, ?_⟩
      · unfold va_up; rw [if_neg (by omega)]; exact g2
      · unfold va_up; rw [if_neg (by omega)]; exact g4
theorem SI.make (h : SI kp Wn made fl rfs root own tad trm pnx pen st adr rem half top) {j n a pnx2 top2 : Nat} (hn : n ≤ 6) (hm : made < 2000) (ha : a + n < Wn) (hf : ∀ k, a ≤ k → k < a + (n + 1) → own k = none) (h1 : kp ≠ 0 → a = top ∧ top + (n + 1) ≤ pen ∧ pnx2 = top + (n + 1) ∧ top2 = top + (n + 1)) : SI kp Wn (made + 1) (va_up fl made n) (ext0 rfs made none) (va_up root j (some made)) (fillO own a (n + 1) (some made)) (va_up (va_up tad made 0) made a) (va_up trm made false) pnx2 pen st (va_up adr made (some a)) rem half top2 := by
  have hw := h.w400
  have hu1 : ∀ {α : Type} (f : Nat → α) (v : α), va_up f made v made = v := fun f v => by unfold va_up; rw [if_pos rfl]
  have hu2 : ∀ {α : Type} (f : Nat → α) (v : α) (x : Nat), x ≠ made → va_up f made v x = f x := fun f v x hx => by unfold va_up; rw [if_neg hx]
  have he : ∀ x i t, ext0 rfs made none x i = some t → x ≠ made ∧ rfs x i = some t := fun x i t ht => by
    unfold ext0 at ht
    split at ht
    · cases ht
    · rename_i e; exact ⟨e, ht⟩
  obtain ⟨Kp, k1, k2, k3, k4⟩ := h.kk
  refine ⟨h.kp2, h.w16, h.w400, by omega, fun x hx => ?_, fun k hk i t ht => ?_, Lay_new h.lyd ha hf, fun o b ho hb => ?_, fun t ht => ?_, fun o b ho hb => ?_, fun o ho => h.rz o (by omega), ⟨fun x => Kp x ∨ x = made, fun x hx => ?_, fun x hx i hi t ht => ?_, fun i hi t ht => ?_, fun hkp k t hk ht => ?_⟩, fun hkp => ?_, fun hkp => ?_⟩
  · by_cases e : x = made
    · rw [e, hu1]; exact hn
    · rw [hu2 _ _ _ e]; exact h.fl6 x (by omega)
  · obtain ⟨e, g⟩ := he k i t ht
    have := h.rfb k (by omega) i t g
    omega
  · by_cases e : o = made
    · rw [e, hu1] at hb; cases hb; rw [e, hu1]
    · rw [hu2 _ _ _ e] at hb; rw [hu2 _ _ _ e, hu2 _ _ _ e]; exact h.ta o b (by omega) hb
  · by_cases e : t = made
    · rw [e, hu1]; omega
    · rw [hu2 _ _ _ e, hu2 _ _ _ e]; exact h.tb t (by omega)
  · by_cases e : o = made
    · rw [e, hu1]; exact (h.rz made (Nat.le_refl _)).symm
    · rw [hu2 _ _ _ e] at hb; rw [hu2 _ _ _ e]; exact h.rm o b (by omega) hb
  · by_cases e : x = made
    · exact ⟨by omega, a, by rw [e, hu1]⟩
    · rcases hx with hx | hx
      · obtain ⟨g1, b, g2⟩ := k1 x hx
        exact ⟨by omega, b, by rw [hu2 _ _ _ e]; exact g2⟩
      · exact absurd hx e
  · obtain ⟨e, g⟩ := he x i t ht
    rcases hx with hx | hx
    · rw [hu2 _ _ _ e] at hi
      exact Or.inl (k2 x hx i hi t g)
    · exact absurd hx e
  · unfold va_up at ht
    split at ht
    · cases ht; exact Or.inr rfl
    · exact Or.inl (k3 i hi t ht)
  · obtain ⟨q1, q2, -, -⟩ := h1 (by omega)
    obtain ⟨-, c2, c3, -⟩ := h.c2 hkp
    unfold fillO at ht
    rw [if_neg (by omega)] at ht
    exact Or.inl (k4 hkp k t hk ht)
  · obtain ⟨q1, q2, q3, q4⟩ := h1 (by omega)
    obtain ⟨c1, c2, c3, c4, c5, c6, c7⟩ := h.c1 hkp
    refine ⟨c1, c2, by omega, c4, by omega, by omega, fun o b ho hb => ?_⟩
    by_cases e : o = made
    · rw [e, hu1] at hb; cases hb; rw [e, hu1]; omega
    · rw [hu2 _ _ _ e] at hb; rw [hu2 _ _ _ e]
      have := c7 o b (by omega) hb
      omega
  · obtain ⟨q1, q2, q3, q4⟩ := h1 (by omega)
    obtain ⟨c1, c2, c3, c4, c5⟩ := h.c2 hkp
    refine ⟨by omega, c2, by omega, fun o b ho hb hy => ?_, fun x b hx hb hy i hi t c ht hc hz => ?_⟩
    · by_cases e : o = made
      · rw [e, hu1] at hb; cases hb; rw [e, hu1]; exact ⟨by omega, h.rz made (Nat.le_refl _)⟩
      · rw [hu2 _ _ _ e] at hb; rw [hu2 _ _ _ e]
        have := c4 o b (by omega) hb hy
        exact ⟨by omega, this.2⟩
    · obtain ⟨e, g⟩ := he x i t ht
      rw [hu2 _ _ _ e] at hb hi
      have htm := h.rfb x (by omega) i t g
      rw [hu2 _ _ _ (show t ≠ made by omega)] at hc
      exact c5 x b (by omega) hb hy i hi t c g hc hz
end SIW
