/-! copies are the same on both sides -/
theorem plR_adr {fl : Nat → Nat} : ∀ (L : List Nat) (t : Nat) (A B O : Nat → Option Nat), (∀ o, o ∉ L → A o = B o) → L.foldl (plR fl) (t, A, O) = L.foldl (plR fl) (t, B, O)
  | [], t, A, B, O, h => by
    have e : A = B := funext (fun o => h o List.not_mem_nil)
    rw [e]
  | x :: l, t, A, B, O, h => by
    show l.foldl (plR fl) (t + (fl x + 1), va_up A x (some t), _) = l.foldl (plR fl) (t + (fl x + 1), va_up B x (some t), _)
    refine plR_adr l _ _ _ _ (fun o ho => ?_)
    unfold va_up
    by_cases e : o = x
    · rw [if_pos e, if_pos e]
    · rw [if_neg e, if_neg e]
      exact h o (fun z => (List.mem_cons.mp z).elim e ho)
/-- one by one behind each other: they lie so, and the other side has the same places -/
theorem pl_lay {made lo : Nat} {fl : Nat → Nat} : ∀ (L : List Nat) (t : Nat) (A O : Nat → Option Nat) (tad : Nat → Nat), L.Nodup → (∀ x ∈ L, x < made ∧ A x = none) → Lay made t fl A O → lo ≤ t → (∀ k o, O k = some o → k < t) → (∀ o a, o < made → A o = some a → lo ≤ a ∧ tad o = a) →
    Lay made (L.foldl (plR fl) (t, A, O)).1 fl (L.foldl (plR fl) (t, A, O)).2.1 (L.foldl (plR fl) (t, A, O)).2.2 ∧ (L.foldl (plR fl) (t, A, O)).2.2 = (L.foldl (plC fl) (t, tad, O)).2.2 ∧ (∀ o a, o < made → (L.foldl (plR fl) (t, A, O)).2.1 o = some a → lo ≤ a ∧ (L.foldl (plC fl) (t, tad, O)).2.1 o = a) ∧ (∀ o, (A o).isSome = true ∨ o ∈ L → ((L.foldl (plR fl) (t, A, O)).2.1 o).isSome = true) ∧ (∀ o, A o = none → o ∉ L → (L.foldl (plR fl) (t, A, O)).2.1 o = none)
  | [], t, A, O, tad, _, _, hL, _, _, hta => ⟨hL, rfl, hta, fun o ho => ho.elim id (fun z => absurd z List.not_mem_nil), fun o ho _ => ho⟩
  | x :: l, t, A, O, tad, hn, hx, hL, hlo, hO, hta => by
    have hn2 := List.nodup_cons.mp hn
    obtain ⟨hxm, hxA⟩ := hx x List.mem_cons_self
    have hu : ∀ {α : Type} (f : Nat → α) (v : α) (o : Nat), o ≠ x → va_up f x v o = f o := fun f v o h => by unfold va_up; rw [if_neg h]
    have hs : ∀ {α : Type} (f : Nat → α) (v : α), va_up f x v x = v := fun f v => by unfold va_up; rw [if_pos rfl]
    have hL2 : Lay made (t + (fl x + 1)) fl (va_up A x (some t)) (fillO O t (fl x + 1) (some x)) := by
      refine ⟨fun o b ho hb => ?_, fun k o hk => ?_⟩
      · by_cases e : o = x
        · rw [e, hs] at hb
          cases hb
          subst e
          refine ⟨by omega, fun k h1 h2 => ?_⟩
          unfold fillO
          rw [if_pos ⟨h1, by omega⟩]
        · rw [hu _ _ _ e] at hb
          obtain ⟨g1, g2⟩ := hL.1 o b ho hb
          refine ⟨by omega, fun k h1 h2 => ?_⟩
          unfold fillO
          rw [if_neg (by omega)]
          exact g2 k h1 h2
      · unfold fillO at hk
        split at hk
        · rename_i z
          cases hk
          exact ⟨hxm, t, hs _ _, z.1, by omega⟩
        · obtain ⟨g1, b, g2, g3⟩ := hL.2 k o hk
          have e : o ≠ x := fun z => by rw [z, hxA] at g2; cases g2
          exact ⟨g1, b, by rw [hu _ _ _ e]; exact g2, g3⟩
    have ih := pl_lay (lo := lo) l (t + (fl x + 1)) (va_up A x (some t)) (fillO O t (fl x + 1) (some x)) (va_up tad x t) hn2.2 (fun y hy => ⟨(hx y (List.mem_cons_of_mem _ hy)).1, by
      rw [hu _ _ _ (fun z : y = x => hn2.1 (z ▸ hy))]
      exact (hx y (List.mem_cons_of_mem _ hy)).2⟩) hL2 (by omega) (fun k o hk => by
      unfold fillO at hk
      split at hk
      · omega
      · have := hO k o hk
        omega) (fun o a ho ha => by
      by_cases e : o = x
      · rw [e, hs] at ha
        cases ha
        rw [e, hs]
        exact ⟨hlo, rfl⟩
      · rw [hu _ _ _ e] at ha
        rw [hu _ _ _ e]
        exact hta o a ho ha)
    refine ⟨ih.1, ih.2.1, ih.2.2.1, fun o ho => ?_, fun o ho hno => ?_⟩
    · apply ih.2.2.2.1 o
      by_cases e : o = x
      · left; rw [e, hs]; rfl
      · rcases ho with ho | ho
        · left; rw [hu _ _ _ e]; exact ho
        · right
          rcases List.mem_cons.mp ho with z | z
          · exact absurd z e
          · exact z
    · have e : o ≠ x := fun z => hno (by rw [z]; exact List.mem_cons_self)
      exact ih.2.2.2.2 o (by rw [hu _ _ _ e]; exact ho) (fun z => hno (List.mem_cons_of_mem _ z))
theorem plC_tb {fl : Nat → Nat} {B : Nat} : ∀ (L : List Nat) (s : Nat × (Nat → Nat) × (Nat → Option Nat)) (o : Nat), s.2.1 o < B → szL fl s.1 L ≤ B → (L.foldl (plC fl) s).2.1 o < B
  | [], s, o, h, _ => h
  | x :: l, s, o, h, h2 => by
    have h3 := szL_mono fl l (s.1 + (fl x + 1))
    change szL fl (s.1 + (fl x + 1)) l ≤ B at h2
    refine plC_tb l (plC fl s x) o ?_ h2
    show va_up s.2.1 x s.1 o < B
    unfold va_up
    split
    · omega
    · exact h
theorem Lay_mono {made W W2 : Nat} {fl : Nat → Nat} {adr own : Nat → Option Nat} (h : Lay made W fl adr own) (hw : W ≤ W2) : Lay made W2 fl adr own :=
  ⟨fun o a ho ha => ⟨by have := (h.1 o a ho ha).1; omega, (h.1 o a ho ha).2⟩, h.2⟩
section SIC
variable {kp Wn made : Nat} {fl : Nat → Nat} {rfs : Nat → Nat → Option Nat} {root own : Nat → Option Nat} {tad : Nat → Nat} {trm : Nat → Bool} {pnx pen st : Nat} {adr : Nat → Option Nat} {rem : Nat → Bool} {half top : Nat}
theorem SI.cap (h : SI kp Wn made fl rfs root own tad trm pnx pen st adr rem half top) (hk : kp = 1) : szL fl 0 (LRR fl rfs root) ≤ Wn / 2 := by
  obtain ⟨c1, c2, c3, c4, c5, c6, c7⟩ := h.c1 hk
  have hw : (half + 1) * (Wn / 2) = half * (Wn / 2) + Wn / 2 := by rw [Nat.add_mul, Nat.one_mul]
  have hh : (half + 1) * (Wn / 2) ≤ 2 * (Wn / 2) := Nat.mul_le_mul_right _ (by omega)
  have := sz_half (lo := half * (Wn / 2)) (hi := half * (Wn / 2) + Wn / 2) h.lyd (LRR fl rfs root) LRR_nd (fun x hx => by
    obtain ⟨g1, a, g2⟩ := h.lr_lie x hx
    have := c7 x a g1 g2
    exact ⟨g1, a, g2, this.1, by omega⟩) (by omega) (by omega)
  omega
theorem SI.st2 (h : SI kp Wn made fl rfs root own tad trm pnx pen st adr rem half top) (hk : kp = 1) : (if st = 0 then Wn / 2 else 0) = (1 - half) * (Wn / 2) := by
  obtain ⟨c1, c2, -⟩ := h.c1 hk
  have := h.w16
  rcases (show half = 0 ∨ half = 1 by omega) with z | z
  · rw [c2, z, if_pos (by omega)]
    omega
  · rw [c2, z, if_neg (by omega)]
    omega
theorem SI.clr (h : SI kp Wn made fl rfs root own tad trm pnx pen st adr rem half top) : fillO own 0 Wn none = fun _ => none := by
  funext k
  unfold fillO
  by_cases z : k < Wn
  · rw [if_pos (by omega)]
  · rw [if_neg (by omega)]
    exact h.own_hi k (by omega)
theorem SI.copyAll (h : SI kp Wn made fl rfs root own tad trm pnx pen st adr rem half top) (hk : kp = 1) :
    (((LRR fl rfs root).foldl (plR fl) ((1 - half) * (Wn / 2), swA (blw made (ded false kp Wn adr (LRR fl rfs root))) adr, fun _ => none)).2.2 = ((LRR fl rfs root).foldl (plC fl) ((1 - half) * (Wn / 2), tad, fun _ => none)).2.2) ∧
    SI kp Wn made fl rfs root ((LRR fl rfs root).foldl (plC fl) ((1 - half) * (Wn / 2), tad, fun _ => none)).2.2 ((LRR fl rfs root).foldl (plC fl) ((1 - half) * (Wn / 2), tad, fun _ => none)).2.1 trm ((LRR fl rfs root).foldl (plC fl) ((1 - half) * (Wn / 2), tad, fun _ => none)).1 ((1 - half) * (Wn / 2) + Wn / 2) ((1 - half) * (Wn / 2)) ((LRR fl rfs root).foldl (plR fl) ((1 - half) * (Wn / 2), swA (blw made (ded false kp Wn adr (LRR fl rfs root))) adr, fun _ => none)).2.1 (swR (blw made (ded false kp Wn adr (LRR fl rfs root))) rem) (1 - half) ((LRR fl rfs root).foldl (plR fl) ((1 - half) * (Wn / 2), swA (blw made (ded false kp Wn adr (LRR fl rfs root))) adr, fun _ => none)).1 := by
  have hlie := h.lr_lie
  have hcap := h.cap hk
  have hlen := h.lr_len
  have hw := h.w400
  obtain ⟨c1, c2, c3, c4, c5, c6, c7⟩ := h.c1 hk
  have hcl := LRR_closed (fl := fl) (rfs := rfs) (root := root) (by omega)
  have hrt := LRR_root (fl := fl) (rfs := rfs) (root := root)
  have hnd := LRR_nd (fl := fl) (rfs := rfs) (root := root)
  have hded : ∀ o, o < made → o ∉ LRR fl rfs root → swA (blw made (ded false kp Wn adr (LRR fl rfs root))) adr o = none := fun o ho hno => by
    unfold swA
    cases ha : adr o with
    | none => split <;> rfl
    | some a =>
      rw [if_pos (by unfold blw ded; rw [ha, decide_eq_true ho, decide_eq_true hno]; rfl)]
  generalize LRR fl rfs root = L at *
  generalize hlo : (1 - half) * (Wn / 2) = lo at *
  have hlo2 : lo ≤ Wn / 2 := by
    rw [← hlo]
    have := Nat.mul_le_mul_right (Wn / 2) (show 1 - half ≤ 1 by omega)
    omega
  have key := pl_lay (made := made) (lo := lo) (fl := fl) L lo (fun _ => none) (fun _ => none) tad hnd (fun x hx => ⟨(hlie x hx).1, rfl⟩) ⟨(fun o a _ ha => absurd ha (by simp)), (fun k o hk => absurd hk (by simp))⟩ (Nat.le_refl _) (fun k o hk => absurd hk (by simp)) (fun o a _ ha => absurd ha (by simp))
  have h1 := plR_1 fl L (lo, fun _ => none, fun _ => none)
  have h2 := plC_1 fl L (lo, tad, fun _ => none)
  dsimp only at h1 h2
  have h3 := szL_add fl L lo
  have hsome : ∀ o, o < made → (L.foldl (plR fl) (lo, swA (blw made (ded false kp Wn adr L)) adr, fun _ => none)).2.1 o = (L.foldl (plR fl) (lo, fun _ => none, fun _ => none)).2.1 o := by
    intro o ho
    have e := plR_adr (fl := fl) L lo (fun x => if x < made then swA (blw made (ded false kp Wn adr L)) adr x else none) (fun _ => none) (fun _ => none) (fun x hx => by
      by_cases z : x < made
      · rw [if_pos z]; exact hded x z hx
      · rw [if_neg z])
    have e2 : ∀ (M : List Nat) (t : Nat) (A B O : Nat → Option Nat), A o = B o → (M.foldl (plR fl) (t, A, O)).2.1 o = (M.foldl (plR fl) (t, B, O)).2.1 o := by
      intro M
      induction M with
      | nil => intro t A B O hh; exact hh
      | cons x l ih =>
        intro t A B O hh
        refine ih _ _ _ _ ?_
        unfold va_up
        by_cases z : o = x
        · rw [if_pos z, if_pos z]
        · rw [if_neg z, if_neg z]; exact hh
    rw [e2 L lo (swA (blw made (ded false kp Wn adr L)) adr) (fun x => if x < made then swA (blw made (ded false kp Wn adr L)) adr x else none) (fun _ => none) (by rw [if_pos ho]), e]
  have hfst : ∀ (M : List Nat) (t : Nat) (A B O : Nat → Option Nat), (M.foldl (plR fl) (t, A, O)).1 = (M.foldl (plR fl) (t, B, O)).1 ∧ (M.foldl (plR fl) (t, A, O)).2.2 = (M.foldl (plR fl) (t, B, O)).2.2 := by
    intro M
    induction M with
    | nil => intro t A B O; exact ⟨rfl, rfl⟩
    | cons x l ih => intro t A B O; exact ih _ _ _ _
  have hf := hfst L lo (swA (blw made (ded false kp Wn adr L)) adr) (fun _ => none) (fun _ => none)
  rw [hf.1, hf.2]
  have hlay : Lay made (L.foldl (plR fl) (lo, fun _ => none, fun _ => none)).1 fl (L.foldl (plR fl) (lo, swA (blw made (ded false kp Wn adr L)) adr, fun _ => none)).2.1 (L.foldl (plC fl) (lo, tad, fun _ => none)).2.2 := by
    rw [← key.2.1]
    exact ⟨fun o a ho ha => key.1.1 o a ho (by rw [← hsome o ho]; exact ha), fun k o hk => by
      obtain ⟨g1, b, g2, g3⟩ := key.1.2 k o hk
      exact ⟨g1, b, by rw [hsome o g1]; exact g2, g3⟩⟩
  have hinL : ∀ o a, o < made → (L.foldl (plR fl) (lo, swA (blw made (ded false kp Wn adr L)) adr, fun _ => none)).2.1 o = some a → o ∈ L := fun o a ho ha => by
    apply Classical.byContradiction
    intro hno
    rw [hsome o ho, key.2.2.2.2 o rfl hno] at ha
    cases ha
  refine ⟨key.2.1, h.kp2, h.w16, h.w400, h.md, h.fl6, h.rfb, Lay_mono hlay (by omega), fun o a ho ha => (key.2.2.1 o a ho (by rw [← hsome o ho]; exact ha)).2, fun t ht => plC_tb L _ t (h.tb t ht) (by dsimp only; omega), fun o a ho ha => ?_, fun o ho => ?_, ⟨fun x => x ∈ L, fun x hx => ⟨(hlie x hx).1, ?_⟩, hcl, hrt, fun z => absurd z (by omega)⟩, fun _ => ⟨by omega, hlo.symm, by omega, ?_, ?_, ?_, fun o a ho ha => ?_⟩, fun z => absurd z (by omega)⟩
  · have hin := hinL o a ho ha
    obtain ⟨-, b, hb⟩ := hlie o hin
    unfold swR
    rw [if_neg (by rw [blw_in (ded_in hin)]; decide)]
    exact h.rm o b ho hb
  · unfold swR
    split
    · rfl
    · exact h.rz o ho
  · rw [hsome x (hlie x hx).1]
    exact Option.isSome_iff_exists.mp (key.2.2.2.1 x (Or.inr hx))
  · rw [Nat.add_mul, Nat.one_mul, hlo]
  · rw [hlo, h1, h3]; omega
  · rw [h1, h3]; omega
  · have g1 := (key.2.2.1 o a ho (by rw [← hsome o ho]; exact ha)).1
    have g2 := (hlay.1 o a ho ha).1
    exact ⟨by rw [hlo]; exact g1, g2⟩
theorem SI.cp_cnt (h : SI kp Wn made fl rfs root own tad trm pnx pen st adr rem half top) : cnt (fun k => (bgn own tad k).isSome) Wn = cnt (ded false kp Wn adr (LRR fl rfs root)) made + (LRR fl rfs root).length := by
  rw [bgC_t, cnt_bg (fun _ => true) h.lyd h.ta, cnt_split _ (fun o => decide (o ∉ LRR fl rfs root)) made]
  have e1 : cnt (fun k => ((adr k).isSome && true) && decide (k ∉ LRR fl rfs root)) made = cnt (ded false kp Wn adr (LRR fl rfs root)) made := cnt_congr made (fun o _ => by
    unfold ded
    simp)
  have e2 : cnt (fun k => ((adr k).isSome && true) && !decide (k ∉ LRR fl rfs root)) made = (LRR fl rfs root).length := by
    rw [← cnt_list (n := made) (LRR fl rfs root) LRR_nd (fun x hx => (h.lr_lie x hx).1)]
    refine cnt_congr made (fun o _ => ?_)
    by_cases z : o ∈ LRR fl rfs root
    · obtain ⟨-, a, ha⟩ := h.lr_lie o z
      rw [ha]
      simp [z]
    · simp [z]
  omega
end SIC
