/-! a minor is the same on both sides -/
theorem lay_tp {fl : Nat → Nat} {Wn : Nat} : ∀ (L : List Nat) (own : Nat → Option Nat) (t1 t2 : Nat → Nat), (lay fl Wn L (own, t1) = none ∧ lay fl Wn L (own, t2) = none) ∨ ∃ (ow : Nat → Option Nat) (p1 p2 : Nat → Nat), lay fl Wn L (own, t1) = some (ow, p1) ∧ lay fl Wn L (own, t2) = some (ow, p2) ∧ ∀ x ∈ L, p1 x = p2 x
  | [], own, t1, t2 => Or.inr ⟨own, t1, t2, rfl, rfl, fun x hx => absurd hx List.not_mem_nil⟩
  | x :: l, own, t1, t2 => by
    show ((lyS fl Wn (own, t1) x).bind (lay fl Wn l) = none ∧ (lyS fl Wn (own, t2) x).bind (lay fl Wn l) = none) ∨ ∃ (ow : Nat → Option Nat) (p1 p2 : Nat → Nat), (lyS fl Wn (own, t1) x).bind (lay fl Wn l) = some (ow, p1) ∧ (lyS fl Wn (own, t2) x).bind (lay fl Wn l) = some (ow, p2) ∧ ∀ y ∈ x :: l, p1 y = p2 y
    cases hf : fit own Wn (Wn / 4) (fl x + 1) with
    | none => rw [lyS_n (s := (own, t1)) hf, lyS_n (s := (own, t2)) hf]; exact Or.inl ⟨rfl, rfl⟩
    | some p =>
      rw [lyS_o (s := (own, t1)) hf, lyS_o (s := (own, t2)) hf]
      rcases lay_tp l (fillO own p (fl x + 1) (some x)) (va_up t1 x p) (va_up t2 x p) with h | ⟨ow, p1, p2, h1, h2, h3⟩
      · exact Or.inl h
      · refine Or.inr ⟨ow, p1, p2, h1, h2, fun y hy => ?_⟩
        by_cases hl : y ∈ l
        · exact h3 y hl
        · have e : y = x := by
            rcases List.mem_cons.mp hy with z | z
            · exact z
            · exact absurd z hl
          have g1 := (lay_pl l _ _ h1).1 y hl
          have g2 := (lay_pl l _ _ h2).1 y hl
          change p1 y = va_up t1 x p y at g1
          change p2 y = va_up t2 x p y at g2
          rw [g1, g2]
          unfold va_up
          rw [if_pos e, if_pos e]
theorem lay_tpn {fl : Nat → Nat} {Wn : Nat} {L : List Nat} {own : Nat → Option Nat} {t1 t2 : Nat → Nat} (h : lay fl Wn L (own, t1) = none) : lay fl Wn L (own, t2) = none := by
  rcases lay_tp (fl := fl) (Wn := Wn) L own t1 t2 with z | ⟨ow, p1, p2, h1, h2, h3⟩
  · exact z.2
  · rw [h] at h1; cases h1
theorem lay_lo {fl : Nat → Nat} {Wn k : Nat} (hk : k < Wn / 4) : ∀ (L : List Nat) (s s2 : (Nat → Option Nat) × (Nat → Nat)), lay fl Wn L s = some s2 → s2.1 k = s.1 k
  | [], s, s2, h => by cases h; rfl
  | x :: l, s, s2, h => by
    change (lyS fl Wn s x).bind (lay fl Wn l) = some s2 at h
    cases h3 : lyS fl Wn s x with
    | none => rw [h3] at h; cases h
    | some s3 =>
      rw [h3] at h
      rw [lay_lo hk l s3 s2 h]
      unfold lyS at h3
      split at h3
      · cases h3
      · rename_i p hp
        cases h3
        have hf := fit_ok (by omega) hp
        show fillO s.1 p (fl x + 1) (some x) k = s.1 k
        unfold fillO
        rw [if_neg (by omega)]
theorem fgt_n {own : Nat → Option Nat} {tad : Nat → Nat} {f n : Nat} {r : Nat → Bool} (h : bgn own tad (f + n) = none) : fgt own tad f (n + 1) r = fgt own tad f n r := by rw [fgt.eq_2, h]
theorem fgt_o {own : Nat → Option Nat} {tad : Nat → Nat} {f n u : Nat} {r : Nat → Bool} (h : bgn own tad (f + n) = some u) : fgt own tad f (n + 1) r = va_up (fgt own tad f n r) u false := by rw [fgt.eq_2, h]
theorem fgt_f {own : Nat → Option Nat} {tad : Nat → Nat} {f t k : Nat} {r : Nat → Bool} (hb : bgn own tad (f + k) = some t) : ∀ n, k < n → fgt own tad f n r t = false
  | 0, h => absurd h (Nat.not_lt_zero _)
  | n + 1, h => by
    by_cases e : k = n
    · subst e
      rw [fgt_o hb]
      unfold va_up
      rw [if_pos rfl]
    · have ih := fgt_f (r := r) hb n (by omega)
      cases hb2 : bgn own tad (f + n) with
      | none => rw [fgt_n hb2]; exact ih
      | some u =>
        rw [fgt_o hb2]
        unfold va_up
        split
        · rfl
        · exact ih
section SIM
variable {kp Wn made : Nat} {fl : Nat → Nat} {rfs : Nat → Nat → Option Nat} {root own : Nat → Option Nat} {tad : Nat → Nat} {trm : Nat → Bool} {pnx pen st : Nat} {adr : Nat → Option Nat} {rem : Nat → Bool} {half top : Nat}
theorem SI.ly_y (h : SI kp Wn made fl rfs root own tad trm pnx pen st adr rem half top) (hk : kp = 2) : ∀ x ∈ LYR kp Wn fl rfs root adr own rem, x < made ∧ ∃ a, adr x = some a ∧ a < Wn / 4 := fun x hx => by
  obtain ⟨Kp, h1, h2, h3, h4⟩ := h.kk
  obtain ⟨g1, g2⟩ := h.ly_all hk h2 h3 h4 x hx
  obtain ⟨g3, a, g4⟩ := h1 x g1
  refine ⟨g3, a, g4, ?_⟩
  apply Classical.byContradiction
  intro z
  unfold okR at g2
  rw [isOld_o hk g4 z] at g2
  cases g2
/-- how many begin among the young words -/
theorem SI.mn_cnt (h : SI kp Wn made fl rfs root own tad trm pnx pen st adr rem half top) (hk : kp = 2) {ow2 : Nat → Option Nat} {tp tp2 : Nat → Nat} (hl : lay fl Wn (LYR kp Wn fl rfs root adr own rem) (own, tp) = some (ow2, tp2)) : cnt (fun k => (bgn ow2 tad k).isSome) (Wn / 4) = cnt (yng kp Wn (rzA adr tp2 (LYR kp Wn fl rfs root adr own rem))) made + (LYR kp Wn fl rfs root adr own rem).length := by
  have hy := h.ly_y hk
  have hnd := LYR_nd (kp := kp) (Wn := Wn) (fl := fl) (rfs := rfs) (root := root) (adr := adr) (own := own) (rem := rem)
  generalize LYR kp Wn fl rfs root adr own rem = L at *
  have hpl := (lay_pl L (own, tp) (ow2, tp2) hl).2
  have e1 : cnt (fun k => (bgn ow2 tad k).isSome) (Wn / 4) = cnt (bgC own tad (fun t => decide (tad t < Wn / 4))) Wn := by
    rw [← cnt_trunc (c := fun k => (bgn ow2 tad k).isSome) Wn (by omega)]
    refine cnt_congr Wn (fun k _ => ?_)
    unfold bgC
    by_cases z : k < Wn / 4
    · have e : ow2 k = own k := lay_lo z L (own, tp) (ow2, tp2) hl
      have e2 : bgn ow2 tad k = bgn own tad k := by unfold bgn; rw [e]
      rw [e2, decide_eq_true z]
      cases hb : bgn own tad k with
      | none => rfl
      | some t =>
        have := (bgn_some hb).2
        show (true && true) = decide (tad t < Wn / 4)
        rw [decide_eq_true (by omega)]
        rfl
    · rw [decide_eq_false z]
      cases hb : bgn own tad k with
      | none => simp
      | some t =>
        have := (bgn_some hb).2
        show _ = decide (tad t < Wn / 4)
        rw [decide_eq_false (by omega)]
        simp
  rw [e1, cnt_bg (fun t => decide (tad t < Wn / 4)) h.lyd h.ta, cnt_split _ (fun o => decide (o ∉ L)) made]
  have e3 : cnt (fun k => ((adr k).isSome && decide (tad k < Wn / 4)) && decide (k ∉ L)) made = cnt (yng kp Wn (rzA adr tp2 L)) made := cnt_congr made (fun o ho => by
    unfold yng
    by_cases z : o ∈ L
    · have g := (hpl o z).1
      have e4 : rzA adr tp2 L o = some (tp2 o) := by unfold rzA; rw [if_pos z]
      rw [isOld_o hk e4 (by change Wn / 4 ≤ tp2 o at g; omega), decide_eq_false (show ¬ o ∉ L from fun zz => zz z)]
      simp
    · have e4 : rzA adr tp2 L o = adr o := by unfold rzA; rw [if_neg z]
      rw [isOldR_at e4, e4, decide_eq_true z]
      cases ha : adr o with
      | none => rfl
      | some a =>
        rw [h.ta o a ho ha]
        by_cases y : a < Wn / 4
        · rw [isOld_y ha y, decide_eq_true y]; rfl
        · rw [isOld_o hk ha y, decide_eq_false y]; rfl)
  have e5 : cnt (fun k => ((adr k).isSome && decide (tad k < Wn / 4)) && !decide (k ∉ L)) made = L.length := by
    rw [← cnt_list (n := made) L hnd (fun x hx => (hy x hx).1)]
    refine cnt_congr made (fun o ho => ?_)
    by_cases z : o ∈ L
    · obtain ⟨-, a, ha, hay⟩ := hy o z
      rw [ha, h.ta o a ho ha, decide_eq_true hay]
      simp [z]
    · simp [z]
  omega
theorem SI.mn_le (h : SI kp Wn made fl rfs root own tad trm pnx pen st adr rem half top) (hk : kp = 2) {ow2 : Nat → Option Nat} {tp tp2 : Nat → Nat} (hl : lay fl Wn (LYR kp Wn fl rfs root adr own rem) (own, tp) = some (ow2, tp2)) : (LYR kp Wn fl rfs root adr own rem).length ≤ cnt (fun k => (bgn ow2 tad k).isSome) (Wn / 4) := by
  have := h.mn_cnt hk hl
  omega
theorem SI.minor (h : SI kp Wn made fl rfs root own tad trm pnx pen st adr rem half top) (hk : kp = 2) {tp0 tp tpl tp2 : Nat → Nat} {ol ow ow2 : Nat → Option Nat} (hR : Rz made Wn fl adr own tp0 (LYR kp Wn fl rfs root adr own rem) ol ow tp) (hl : lay fl Wn (LYR kp Wn fl rfs root adr own rem) (own, tpl) = some (ow2, tp2)) :
    swO (blw made (yng kp Wn (rzA adr tp (LYR kp Wn fl rfs root adr own rem)))) (rzO Wn own ow (LYR kp Wn fl rfs root adr own rem)) = fillO ow2 0 (Wn / 4) none ∧
    cnt (yng kp Wn (rzA adr tp (LYR kp Wn fl rfs root adr own rem))) made = cnt (fun k => (bgn ow2 tad k).isSome) (Wn / 4) - (LYR kp Wn fl rfs root adr own rem).length ∧
    SI kp Wn made fl rfs root (fillO ow2 0 (Wn / 4) none) (goT tp2 tad (LYR kp Wn fl rfs root adr own rem)) (fgt (fillO ow2 0 (Wn / 4) none) (goT tp2 tad (LYR kp Wn fl rfs root adr own rem)) (Wn / 4) (Wn - Wn / 4) trm) 0 (Wn / 4) st (swA (blw made (yng kp Wn (rzA adr tp (LYR kp Wn fl rfs root adr own rem)))) (rzA adr tp (LYR kp Wn fl rfs root adr own rem))) (clrB rem made) half 0 := by
  have hmc := h.mn_cnt hk hl
  have hyl := h.ly_y hk
  have hnd := LYR_nd (kp := kp) (Wn := Wn) (fl := fl) (rfs := rfs) (root := root) (adr := adr) (own := own) (rem := rem)
  obtain ⟨Kp, k1, k2, k3, k4⟩ := h.kk
  have hall := h.ly_all hk k2 k3 k4
  have hw := h.w400
  have hw6 := h.w16
  have hlen : (LYR kp Wn fl rfs root adr own rem).length ≤ Wn := h.hB k1 _ hnd (fun x hx => (hall x hx).1)
  -- what the raised are closed under
  have hcl : ∀ x ∈ LYR kp Wn fl rfs root adr own rem, ∀ f, f < fl x → ∀ t, rfs x f = some t → okR kp Wn adr t = true → t ∈ LYR kp Wn fl rfs root adr own rem :=
    flw_closedG 401 0 _ (fun j hj => absurd hj (Nat.not_lt_zero _)) (by rw [Nat.zero_add]; exact Nat.le_trans hlen (by omega))
  have hpre : ∀ t, t ∈ rmb (okR kp Wn adr) fl rfs own (tda adr) rem (Wn / 4) (Wn - Wn / 4) (mtN (okR kp Wn adr) root 16 []) → t ∈ LYR kp Wn fl rfs root adr own rem := fun t ht => by
    obtain ⟨M, hM⟩ := flw_pre (ok := okR kp Wn adr) (fl := fl) (rfs := rfs) 401 0 (rmb (okR kp Wn adr) fl rfs own (tda adr) rem (Wn / 4) (Wn - Wn / 4) (mtN (okR kp Wn adr) root 16 []))
    unfold LYR
    rw [hM]
    exact List.mem_append_left _ ht
  have hrt : ∀ i, i < 16 → ∀ t, root i = some t → okR kp Wn adr t = true → t ∈ LYR kp Wn fl rfs root adr own rem := fun i hi t ht hok => by
    apply hpre
    obtain ⟨M, hM⟩ := rmb_ext (okR kp Wn adr) fl rfs own (tda adr) rem (Wn / 4) 0 (Wn - Wn / 4) (mtN (okR kp Wn adr) root 16 [])
    rw [Nat.zero_add] at hM
    rw [hM]
    exact List.mem_append_left _ (mtN_hasG 16 i t hi ht hok)
  have hrb : ∀ x a, x < made → adr x = some a → Wn / 4 ≤ a → rem x = true → ∀ i, i < fl x → ∀ t, rfs x i = some t → okR kp Wn adr t = true → t ∈ LYR kp Wn fl rfs root adr own rem := fun x a hx ha hy hr i hi t ht hok => by
    apply hpre
    obtain ⟨g1, g2⟩ := h.lyd.1 x a hx ha
    refine rmb_has (k := a - Wn / 4) (x := x) ?_ hr hi ht hok (by omega)
    rw [show Wn / 4 + (a - Wn / 4) = a by omega]
    exact bgn_at (g2 a (Nat.le_refl _) (by omega)) (by unfold tda; rw [ha]; rfl)
  generalize LYR kp Wn fl rfs root adr own rem = L at *
  obtain ⟨ow3, p1, p2, q1, q2, q3⟩ : ∃ (ow3 : Nat → Option Nat) (p1 p2 : Nat → Nat), lay fl Wn L (own, tp0) = some (ow3, p1) ∧ lay fl Wn L (own, tpl) = some (ow3, p2) ∧ ∀ x ∈ L, p1 x = p2 x := by
    rcases lay_tp (fl := fl) (Wn := Wn) L own tp0 tpl with z | z
    · rw [hl] at z; cases z.2
    · exact z
  obtain ⟨hR1, hR2, hR3, hR4⟩ := hR
  rw [hR1] at q1
  cases q1
  rw [hl] at q2
  cases q2
  have hpl : ∀ x ∈ L, Wn / 4 ≤ tp x ∧ tp x + fl x < Wn := (lay_pl L _ _ hR1).2
  have hA : rzA adr tp2 L = rzA adr tp L := by
    funext o
    unfold rzA
    by_cases z : o ∈ L
    · rw [if_pos z, if_pos z, q3 o z]
    · rw [if_neg z, if_neg z]
  rw [hA] at hmc
  have hrzin : ∀ o, o ∈ L → rzA adr tp L o = some (tp o) := fun o z => by unfold rzA; rw [if_pos z]
  have hrzout : ∀ o, o ∉ L → rzA adr tp L o = adr o := fun o z => by unfold rzA; rw [if_neg z]
  -- who is left
  have hleft : ∀ o a, o < made → swA (blw made (yng kp Wn (rzA adr tp L))) (rzA adr tp L) o = some a → Wn / 4 ≤ a ∧ rzA adr tp L o = some a := fun o a ho ha => by
    obtain ⟨g1, g2⟩ := swA_some ha
    refine ⟨?_, g1⟩
    apply Classical.byContradiction
    intro z
    have : yng kp Wn (rzA adr tp L) o = true := yng_t g1 (isOld_y g1 (by omega))
    unfold blw at g2
    rw [this, decide_eq_true ho] at g2
    cases g2
  have hstay : ∀ o a, rzA adr tp L o = some a → Wn / 4 ≤ a → swA (blw made (yng kp Wn (rzA adr tp L))) (rzA adr tp L) o = some a := fun o a ha hy => by
    rw [swA_kept (blw_in (yng_o (isOld_o hk ha (by omega))))]
    exact ha
  have hown : swO (blw made (yng kp Wn (rzA adr tp L))) (rzO Wn own ow L) = fillO ow 0 (Wn / 4) none := by
    funext k
    have hlk := (Lay_sw hR4 (yng kp Wn (rzA adr tp L))).2 k
    cases ho : swO (blw made (yng kp Wn (rzA adr tp L))) (rzO Wn own ow L) k with
    | none =>
      unfold fillO
      by_cases z : k < Wn / 4
      · rw [if_pos (by omega)]
      · rw [if_neg (by omega)]
        have hro : rzO Wn own ow L k = ow k := by unfold rzO; rw [if_pos (by omega)]
        cases hk2 : ow k with
        | none => rfl
        | some t =>
          obtain ⟨g1, b, g2, g3, g4⟩ := hR4.2 k t (hro.trans hk2)
          have hyb : Wn / 4 ≤ b := by
            by_cases zl : t ∈ L
            · rw [hrzin t zl] at g2
              cases g2
              exact (hpl t zl).1
            · rw [hrzout t zl] at g2
              apply Classical.byContradiction
              intro zz
              have := h.y hk t b g1 g2 (by omega)
              omega
          have hc : blw made (yng kp Wn (rzA adr tp L)) t = false := blw_in (yng_o (isOld_o hk g2 (by omega)))
          unfold swO at ho
          rw [hro, hk2] at ho
          simp only [hc] at ho
          cases ho
    | some t =>
      obtain ⟨g1, b, g2, g3, g4⟩ := hlk t ho
      have hb := (hleft t b g1 g2).1
      have hro : rzO Wn own ow L k = ow k := by unfold rzO; rw [if_pos (by omega)]
      have := swO_own ho
      unfold fillO
      rw [if_neg (by omega), ← hro, this]
  refine ⟨hown, by omega, ?_⟩
  have hlay : Lay made Wn fl (swA (blw made (yng kp Wn (rzA adr tp L))) (rzA adr tp L)) (fillO ow 0 (Wn / 4) none) := by
    rw [← hown]
    exact Lay_sw hR4 _
  have hta : ∀ o a, o < made → swA (blw made (yng kp Wn (rzA adr tp L))) (rzA adr tp L) o = some a → goT tp2 tad L o = a := fun o a ho ha => by
    obtain ⟨g1, g2⟩ := hleft o a ho ha
    rw [goT_at]
    by_cases z : o ∈ L
    · rw [if_pos z]
      rw [hrzin o z] at g2
      cases g2
      exact (q3 o z).symm
    · rw [if_neg z]
      rw [hrzout o z] at g2
      exact h.ta o a ho g2
  have hKlie : ∀ x, Kp x → (∀ b, adr x = some b → b < Wn / 4 → x ∈ L) → ∃ a, swA (blw made (yng kp Wn (rzA adr tp L))) (rzA adr tp L) x = some a := fun x hx hin => by
    obtain ⟨g1, b, g2⟩ := k1 x hx
    by_cases z : x ∈ L
    · exact ⟨tp x, hstay x _ (hrzin x z) (hpl x z).1⟩
    · refine ⟨b, hstay x b ((hrzout x z).trans g2) ?_⟩
      apply Classical.byContradiction
      intro zz
      exact z (hin b g2 (by omega))
  have hokb : ∀ x b, adr x = some b → b < Wn / 4 → okR kp Wn adr x = true := fun x b hb hy => by unfold okR; rw [isOld_y hb hy]; rfl
  refine ⟨h.kp2, h.w16, h.w400, h.md, h.fl6, h.rfb, hlay, hta, fun t ht => ?_, fun o a ho ha => ?_, fun o ho => ?_, ⟨fun x => Kp x ∧ ∃ a, swA (blw made (yng kp Wn (rzA adr tp L))) (rzA adr tp L) x = some a, fun x hx => ⟨(k1 x hx.1).1, hx.2⟩, fun x hx i hi t ht => ?_, fun i hi t ht => ?_, fun _ k t hk2 ht => ?_⟩, fun z => absurd z (by omega), fun _ => ⟨rfl, rfl, by omega, fun o a ho ha hy => ?_, fun x a hx ha hy i hi t b ht hb hz => ?_⟩⟩
  · rw [goT_at]
    split
    · rename_i z
      have := hpl t z
      rw [← q3 t z]
      omega
    · exact h.tb t ht
  · have hb := hleft o a ho ha
    obtain ⟨g1, g2⟩ := hlay.1 o a ho ha
    have hbg : bgn (fillO ow 0 (Wn / 4) none) (goT tp2 tad L) a = some o := bgn_at (g2 a (Nat.le_refl _) (by omega)) (hta o a ho ha)
    rw [fgt_f (k := a - Wn / 4) (by rw [show Wn / 4 + (a - Wn / 4) = a by omega]; exact hbg) _ (by omega)]
    unfold clrB
    rw [if_pos ho]
  · unfold clrB
    rw [if_neg (by omega)]
    exact h.rz o ho
  · have htK := k2 x hx.1 i hi t ht
    refine ⟨htK, hKlie t htK (fun b hb hy => ?_)⟩
    have hok := hokb t b hb hy
    by_cases z : x ∈ L
    · exact hcl x z i hi t ht hok
    · obtain ⟨a, ha⟩ := hx.2
      have hxm := (k1 x hx.1).1
      obtain ⟨g1, g2⟩ := hleft x a hxm ha
      rw [hrzout x z] at g2
      obtain ⟨-, -, -, -, c5⟩ := h.c2 hk
      exact hrb x a hxm g2 g1 (c5 x a hxm g2 g1 i hi t b ht hb hy) i hi t ht hok
  · have htK := k3 i hi t ht
    exact ⟨htK, hKlie t htK (fun b hb hy => hrt i hi t ht (hokb t b hb hy))⟩
  · obtain ⟨g1, b, g2, g3, g4⟩ := hlay.2 k t ht
    refine ⟨?_, b, g2⟩
    obtain ⟨g5, g6⟩ := hleft t b g1 g2
    by_cases z : t ∈ L
    · exact (hall t z).1
    · rw [hrzout t z] at g6
      exact k4 hk b t g5 ((h.lyd.1 t b g1 g6).2 b (Nat.le_refl _) (by omega))
  · have := (hleft o a ho ha).1
    omega
  · have htm := h.rfb x hx i t ht
    have := (hleft t b htm hb).1
    omega
end SIM
