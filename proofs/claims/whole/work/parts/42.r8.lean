/-! THE REFERENCE: a minor -/
def tda (adr : Nat → Option Nat) : Nat → Nat := fun o => (adr o).getD 0
theorem bgn_no {own : Nat → Option Nat} {tad : Nat → Nat} {k : Nat} (h : own k = none) : bgn own tad k = none := by unfold bgn; rw [h]
theorem bgn_at {own : Nat → Option Nat} {tad : Nat → Nat} {k o : Nat} (h : own k = some o) (h2 : tad o = k) : bgn own tad k = some o := by unfold bgn; rw [h]; simp only [if_pos h2]
theorem bgn_off {own : Nat → Option Nat} {tad : Nat → Nat} {k o : Nat} (h : own k = some o) (h2 : ¬ tad o = k) : bgn own tad k = none := by unfold bgn; rw [h]; simp only [if_neg h2]
theorem rz_at {made Wn : Nat} {fl : Nat → Nat} {adr0 own0 : Nat → Option Nat} {tp0 : Nat → Nat} {L : List Nat} {ol ow : Nat → Option Nat} {tp : Nat → Nat} {k : Nat} (hR : Rz made Wn fl adr0 own0 tp0 L ol ow tp) (hn : L.Nodup) (hL : Lay made Wn fl adr0 own0) (hk : Wn / 4 ≤ k) : (rzO Wn own0 ow L k = none → own0 k = none) ∧ ∀ o, rzO Wn own0 ow L k = some o → (o ∈ L ∧ own0 k = none) ∨ (o ∉ L ∧ own0 k = some o) := by
  obtain ⟨h1, h2, h3, h4⟩ := hR
  have hat := lay_at (k := k) L (own0, tp0) (ow, tp) hn h1
  have hro : rzO Wn own0 ow L k = ow k := by unfold rzO; rw [if_pos hk]
  rw [hro]
  have hin : ∀ x ∈ L, tp x ≤ k → k < tp x + (fl x + 1) → ow k = some x := fun x hx g1 g2 => by
    have g3 := (h4.1 x (tp x) (h3 x hx).1 (by unfold rzA; rw [if_pos hx])).2 k g1 (by omega)
    rw [hro] at g3
    exact g3
  by_cases hex : ∃ x ∈ L, tp x ≤ k ∧ k < tp x + (fl x + 1)
  · have g0 : own0 k = none := hat.1 hex
    obtain ⟨x, hx, g1, g2⟩ := hex
    have g3 := hin x hx g1 g2
    refine ⟨fun _ => g0, fun o ho => ?_⟩
    rw [g3] at ho
    cases ho
    exact Or.inl ⟨hx, g0⟩
  · have g0 : ow k = own0 k := hat.2 hex
    rw [g0]
    refine ⟨id, fun o ho => Or.inr ⟨fun hoL => ?_, ho⟩⟩
    obtain ⟨-, a, ga, gy⟩ := h3 o hoL
    obtain ⟨-, b, gb, g5, g6⟩ := hL.2 k o ho
    rw [ga] at gb
    cases gb
    omega
theorem rmb_ext (ok : Nat → Bool) (fl : Nat → Nat) (rfs : Nat → Nat → Option Nat) (own : Nat → Option Nat) (tad : Nat → Nat) (trm : Nat → Bool) (f i : Nat) : ∀ (n : Nat) (L : List Nat), ∃ M, rmb ok fl rfs own tad trm f (i + n) L = rmb ok fl rfs own tad trm f i L ++ M
  | 0, L => ⟨[], (List.append_nil _).symm⟩
  | n + 1, L => by
    obtain ⟨M, hM⟩ := rmb_ext ok fl rfs own tad trm f i n L
    show ∃ M, rmb ok fl rfs own tad trm f ((i + n) + 1) L = _
    cases hb : bgn own tad (f + (i + n)) with
    | none => rw [rmb_n hb]; exact ⟨M, hM⟩
    | some t =>
      cases ht : trm t with
      | false => rw [rmb_f hb ht]; exact ⟨M, hM⟩
      | true =>
        rw [rmb_t hb ht]
        obtain ⟨M2, hM2⟩ := mtN_pre ok (rfs t) (fl t) (rmb ok fl rfs own tad trm f (i + n) L)
        exact ⟨M ++ M2, by rw [hM2, hM, List.append_assoc]⟩
theorem gbO_s {fl tp : Nat → Nat} {own : Nat → Option Nat} {L : List Nat} {i : Nat} (hi : i < L.length) : fillO (gbO fl tp own (L.take i)) (tp (L.getD i 0)) (fl (L.getD i 0) + 1) none = gbO fl tp own (L.take (i + 1)) := by
  rw [take_s hi]
  unfold gbO
  rw [List.foldl_append]
  rfl
def rsO (fl : Nat → Nat) (adr0 : Nat → Option Nat) (own : Nat → Option Nat) (L : List Nat) : Nat → Option Nat := L.foldl (fun o x => fillO o (tda adr0 x) (fl x + 1) (some x)) own
def rsA (adr0 adr : Nat → Option Nat) (L : List Nat) : Nat → Option Nat := L.foldl (fun d x => va_up d x (adr0 x)) adr
theorem rsO_s {fl : Nat → Nat} {adr0 own : Nat → Option Nat} {L : List Nat} {i a : Nat} (hi : i < L.length) (ha : adr0 (L.getD i 0) = some a) : fillO (rsO fl adr0 own (L.take i)) a (fl (L.getD i 0) + 1) (some (L.getD i 0)) = rsO fl adr0 own (L.take (i + 1)) := by
  rw [take_s hi]
  unfold rsO
  rw [List.foldl_append]
  show _ = fillO _ (tda adr0 (L.getD i 0)) _ _
  unfold tda
  rw [ha]
  rfl
theorem rsA_s {adr0 adr : Nat → Option Nat} {L : List Nat} {i a : Nat} (hi : i < L.length) (ha : adr0 (L.getD i 0) = some a) : va_up (rsA adr0 adr (L.take i)) (L.getD i 0) (some a) = rsA adr0 adr (L.take (i + 1)) := by
  rw [take_s hi]
  unfold rsA
  rw [List.foldl_append]
  show _ = va_up _ (L.getD i 0) (adr0 (L.getD i 0))
  rw [ha]
theorem rsA_at {adr0 : Nat → Option Nat} {o : Nat} : ∀ (L : List Nat) (adr : Nat → Option Nat), rsA adr0 adr L o = if o ∈ L then adr0 o else adr o
  | [], adr => by rw [if_neg List.not_mem_nil]; rfl
  | x :: l, adr => by
    show rsA adr0 (va_up adr x (adr0 x)) l o = _
    rw [rsA_at l]
    unfold va_up
    by_cases h : o ∈ l
    · rw [if_pos h, if_pos (List.mem_cons_of_mem _ h)]
    · rw [if_neg h]
      by_cases e : o = x
      · rw [if_pos e, if_pos (by rw [e]; exact List.mem_cons_self), e]
      · rw [if_neg e, if_neg (fun z => (List.mem_cons.mp z).elim e h)]
theorem rsO_out {fl : Nat → Nat} {adr0 : Nat → Option Nat} {k : Nat} : ∀ (L : List Nat) (own : Nat → Option Nat), (∀ x ∈ L, ¬ (tda adr0 x ≤ k ∧ k < tda adr0 x + (fl x + 1))) → rsO fl adr0 own L k = own k
  | [], _, _ => rfl
  | x :: l, own, h => by
    show rsO fl adr0 (fillO own _ _ _) l k = _
    rw [rsO_out l _ (fun y hy => h y (List.mem_cons_of_mem _ hy))]
    unfold fillO
    rw [if_neg (h x List.mem_cons_self)]
theorem rsO_in {fl : Nat → Nat} {adr0 : Nat → Option Nat} {k z : Nat} : ∀ (L : List Nat) (own : Nat → Option Nat), (∀ x ∈ L, (tda adr0 x ≤ k ∧ k < tda adr0 x + (fl x + 1)) → x = z) → z ∈ L → (tda adr0 z ≤ k ∧ k < tda adr0 z + (fl z + 1)) → rsO fl adr0 own L k = some z
  | [], _, _, h2, _ => absurd h2 List.not_mem_nil
  | x :: l, own, h, h2, h3 => by
    show rsO fl adr0 (fillO own _ _ _) l k = _
    by_cases hz : z ∈ l
    · exact rsO_in l _ (fun y hy => h y (List.mem_cons_of_mem _ hy)) hz h3
    · have e : z = x := by
        rcases List.mem_cons.mp h2 with e | e
        · exact e
        · exact absurd e hz
      rw [rsO_out l _ (fun y hy g => hz (by rw [← h y (List.mem_cons_of_mem _ hy) g]; exact hy))]
      unfold fillO
      rw [← e, if_pos h3]
theorem rs_back {made Wn : Nat} {fl : Nat → Nat} {adr0 own0 : Nat → Option Nat} {tp0 : Nat → Nat} {L : List Nat} {ol ow : Nat → Option Nat} {tp : Nat → Nat} (hR : Rz made Wn fl adr0 own0 tp0 L ol ow tp) (hn : L.Nodup) (hL : Lay made Wn fl adr0 own0) : rsO fl adr0 (gbO fl tp (rzO Wn own0 ow L) L) L = own0 ∧ rsA adr0 (rzA adr0 tp L) L = adr0 := by
  obtain ⟨h1, h2, h3, h4⟩ := hR
  have hpl := (lay_pl L (own0, tp0) (ow, tp) h1).2
  have htd : ∀ x ∈ L, ∃ a, adr0 x = some a ∧ tda adr0 x = a ∧ a + fl x < Wn / 4 := fun x hx => by
    obtain ⟨-, a, ga, gy⟩ := h3 x hx
    exact ⟨a, ga, by unfold tda; rw [ga]; rfl, gy⟩
  constructor
  · funext k
    have hat := lay_at (k := k) L (own0, tp0) (ow, tp) hn h1
    by_cases hk : Wn / 4 ≤ k
    · rw [rsO_out L _ (fun x hx g => by
        obtain ⟨a, -, gt, gy⟩ := htd x hx
        rw [gt] at g
        omega)]
      by_cases hex : ∃ x ∈ L, tp x ≤ k ∧ k < tp x + (fl x + 1)
      · rw [gbO_in L _ hex]
        exact (hat.1 hex).symm
      · rw [gbO_out L _ hex]
        unfold rzO
        rw [if_pos hk]
        exact hat.2 hex
    · have hg : gbO fl tp (rzO Wn own0 ow L) L k = swO (inLs L) own0 k := by
        rw [gbO_out L _ (fun ⟨x, hx, g1, g2⟩ => by
          have := (hpl x hx).1
          change Wn / 4 ≤ tp x at this
          omega)]
        unfold rzO
        rw [if_neg hk]
      by_cases hex : ∃ x ∈ L, tda adr0 x ≤ k ∧ k < tda adr0 x + (fl x + 1)
      · obtain ⟨x, hx, g⟩ := hex
        have hat2 : ∀ y ∈ L, (tda adr0 y ≤ k ∧ k < tda adr0 y + (fl y + 1)) → own0 k = some y := fun y hy g => by
          obtain ⟨a, ga, gt, gy⟩ := htd y hy
          rw [gt] at g
          exact (hL.1 y a (h3 y hy).1 ga).2 k g.1 (by omega)
        rw [rsO_in L _ (fun y hy g2 => by
          have e1 := hat2 y hy g2
          rw [hat2 x hx g] at e1
          cases e1
          rfl) hx g]
        exact (hat2 x hx g).symm
      · rw [rsO_out L _ (fun x hx g => hex ⟨x, hx, g⟩), hg]
        unfold swO
        cases ho : own0 k with
        | none => rfl
        | some o =>
          have : o ∉ L := fun hoL => by
            obtain ⟨a, ga, gt, gy⟩ := htd o hoL
            obtain ⟨-, b, gb, g5, g6⟩ := hL.2 k o ho
            rw [ga] at gb
            cases gb
            exact hex ⟨o, hoL, by rw [gt]; omega⟩
          simp [inLs, this]
  · funext o
    rw [rsA_at]
    unfold rzA
    split <;> rfl
def clrB (r : Nat → Bool) (n : Nat) : Nat → Bool := fun o => if o < n then false else r o
theorem clrB_0 (r : Nat → Bool) : clrB r 0 = r := by
  funext o
  unfold clrB
  rw [if_neg (by omega)]
theorem clrB_s (r : Nat → Bool) (n : Nat) : va_up (clrB r n) n false = clrB r (n + 1) := by
  funext o
  unfold va_up clrB
  by_cases h : o = n
  · rw [if_pos h, if_pos (by omega)]
  · rw [if_neg h]
    by_cases h2 : o < n
    · rw [if_pos h2, if_pos (by omega)]
    · rw [if_neg h2, if_neg (by omega)]
theorem up_up {α : Type} (f : Nat → α) (n : Nat) (v : α) : va_up (va_up f n v) n v = va_up f n v := by
  funext o
  unfold va_up
  split <;> rfl
def yng (kp Wn : Nat) (adr : Nat → Option Nat) : Nat → Bool := fun o => (adr o).isSome && !isOldR kp Wn adr o
def LYR (kp Wn : Nat) (fl : Nat → Nat) (rfs : Nat → Nat → Option Nat) (root adr own : Nat → Option Nat) (rem : Nat → Bool) : List Nat := flw (okR kp Wn adr) fl rfs 401 0 (rmb (okR kp Wn adr) fl rfs own (tda adr) rem (Wn / 4) (Wn - Wn / 4) (mtN (okR kp Wn adr) root 16 []))
theorem yng_n {kp Wn k : Nat} {adr : Nat → Option Nat} (h : adr k = none) : yng kp Wn adr k = false := by unfold yng; rw [h]; rfl
theorem yng_o {kp Wn k : Nat} {adr : Nat → Option Nat} (h : isOldR kp Wn adr k = true) : yng kp Wn adr k = false := by unfold yng; rw [h]; simp
theorem yng_t {kp Wn k a : Nat} {adr : Nat → Option Nat} (h : adr k = some a) (h2 : isOldR kp Wn adr k = false) : yng kp Wn adr k = true := by unfold yng; rw [h, h2]; rfl
theorem cal_X10_minorNow : mCal yX10_minorNow cX10_minorNow 4 0 (some .int) := ⟨in_447, by decide +kernel⟩
set_option maxHeartbeats 4000000 in
set_option maxRecDepth 100000 in
theorem r_minorNow {l : Launch} {dC : Nat → ClassId} {dI : Nat → Nat → Nat} {cI cZ cT : ClassId} {q : Nat → Nat} {thr : Int32} {kp : Nat} {Wn : Nat} {made : Nat} {adr : (Nat → Option Nat)} {fl : (Nat → Nat)} {rem : (Nat → Bool)} {num : (Nat → Nat → Int32)} {rfs : (Nat → Nat → Option Nat)} {root : (Nat → Option Nat)} {own : (Nat → Option Nat)} {half : Nat} {top : Nat} {coll : Nat} {mins : Nat} {movd : Nat} {size : Nat} {row : (Nat → Nat)} {plc : (Nat → Option Nat)} {old : (Nat → Option Nat)} {Kp : Nat → Prop} (hB : ∀ M : List Nat, M.Nodup → (∀ x ∈ M, Kp x) → M.length ≤ 400) (hKm : ∀ x, Kp x → x < made ∧ ∃ a, adr x = some a) (hKf : ∀ x, Kp x → ∀ i, i < fl x → ∀ t, rfs x i = some t → Kp t) (hm : made ≤ 2000) (hW : Wn ≤ 400) (hkp : kp = 2) (hfl : ∀ x, x < made → fl x ≤ 6) (hLay : Lay made Wn fl adr own) (hY : ∀ k a, k < made → adr k = some a → a < Wn / 4 → a + fl k < Wn / 4) {w : mM} (hR : RW cI cZ q thr kp Wn made adr fl rem num rfs root own half top coll mins movd size row plc old w) (hKr : ∀ i, i < 16 → ∀ t, root i = some t → Kp t) (hKo : ∀ k t, Wn / 4 ≤ k → own k = some t → Kp t) (hrm : ∀ o a, o < made → adr o = some a → a < Wn / 4 → rem o = false) (tp0 : Nat → Nat) : mC l yX10_minorNow (wsY yX10_minorNow cX10_minorNow 4 (some .int)) { frames := 3, cells := 0, slots := 0, locals := 69 } (dC, dI) vwCl (tyL cI cZ cT) 0 0 w [.ref (q 0)] (fun v w2 => ∃ (sz2 : Nat) (rw2 : Nat → Nat) (pl2 ol2 : Nat → Option Nat), (v = some (.int (-1)) ∧ lay fl Wn (LYR kp Wn fl rfs root adr own rem) (own, tp0) = none ∧ RW cI cZ q thr kp Wn made adr fl rem num rfs root own half top coll mins movd sz2 rw2 pl2 ol2 w2) ∨ ∃ (ow2 : Nat → Option Nat) (tp2 : Nat → Nat), v = some (.int (nI (cnt (yng kp Wn (rzA adr tp2 (LYR kp Wn fl rfs root adr own rem))) made))) ∧ Rz made Wn fl adr own tp0 (LYR kp Wn fl rfs root adr own rem) ol2 ow2 tp2 ∧ (LYR kp Wn fl rfs root adr own rem).Nodup ∧ RW cI cZ q thr kp Wn made (swA (blw made (yng kp Wn (rzA adr tp2 (LYR kp Wn fl rfs root adr own rem)))) (rzA adr tp2 (LYR kp Wn fl rfs root adr own rem))) fl (clrB rem made) num rfs root (swO (blw made (yng kp Wn (rzA adr tp2 (LYR kp Wn fl rfs root adr own rem)))) (rzO Wn own ow2 (LYR kp Wn fl rfs root adr own rem))) half 0 coll (mins + 1) (movd + (LYR kp Wn fl rfs root adr own rem).length) sz2 rw2 pl2 ol2 w2) := by
  refine mC.on (by decide) (Nat.le_of_ble_eq_true rfl) ?_
  intro p e s m args below meth c ls S hr hlk hnm hK hN hG hl
  have hl : lv_has ls 4 [(0, .ref (q 0))] := hl
  generalize hAe : mA w s.heap.size = A at hG ⊢
  have hab : ∀ o, o < made → ∀ a, adr o = some a → a < 2147483648 := fun o ho a ha => by have := (hLay.1 o a ho ha).1; omega
  have TF : ∀ (Lc : List Nat) (sz : Nat) (rw : Nat → Nat) (pl ol ow : Nat → Option Nat) (tp : Nat → Nat), (lay fl Wn (LYR kp Wn fl rfs root adr own rem) (own, tp0) = none) → (Lst made sz rw pl Lc) → (Rz made Wn fl adr own tp0 Lc ol ow tp) → (Lc.length ≤ 400) → ∀ (w : mM) (H : Heap) (locs : List Loc), RW cI cZ q thr kp Wn made (rzA adr tp Lc) fl rem num rfs root (rzO Wn own ow Lc) half top coll mins movd sz rw pl ol w → mG (dC, dI) vwCl A s.heap w H locs → ∀ ls : Array Slot, lv_has ls 4 [(0, .ref (q 0))] → W p l e { frames := 3, cells := 0, slots := 0, locals := 69 } s m args below meth c H locs 0 0 (MQ below (mQ (dC, dI) vwCl (tyL cI cZ cT) (fun v w2 => ∃ (sz2 : Nat) (rw2 : Nat → Nat) (pl2 ol2 : Nat → Option Nat), (v = some (.int (-1)) ∧ lay fl Wn (LYR kp Wn fl rfs root adr own rem) (own, tp0) = none ∧ RW cI cZ q thr kp Wn made adr fl rem num rfs root own half top coll mins movd sz2 rw2 pl2 ol2 w2) ∨ ∃ (ow2 : Nat → Option Nat) (tp2 : Nat → Nat), v = some (.int (nI (cnt (yng kp Wn (rzA adr tp2 (LYR kp Wn fl rfs root adr own rem))) made))) ∧ Rz made Wn fl adr own tp0 (LYR kp Wn fl rfs root adr own rem) ol2 ow2 tp2 ∧ (LYR kp Wn fl rfs root adr own rem).Nodup ∧ RW cI cZ q thr kp Wn made (swA (blw made (yng kp Wn (rzA adr tp2 (LYR kp Wn fl rfs root adr own rem)))) (rzA adr tp2 (LYR kp Wn fl rfs root adr own rem))) fl (clrB rem made) num rfs root (swO (blw made (yng kp Wn (rzA adr tp2 (LYR kp Wn fl rfs root adr own rem)))) (rzO Wn own ow2 (LYR kp Wn fl rfs root adr own rem))) half 0 coll (mins + 1) (movd + (LYR kp Wn fl rfs root adr own rem).length) sz2 rw2 pl2 ol2 w2) A) args s 0 0 A) (F0 m 140 ls []) := by
    intro Lc sz rw pl ol ow tp hno hLs hRz hl4 w H locs hR hG ls hl
    have hszc : sz = Lc.length := hLs.2.1
    refine lv_iconst (v := nI (0)) S.1 S.2.1 dX10_minorNow_140 (by decide) ?_
    refine lv_istore_n (lv' := [(2, .int (nI (0))), (0, .ref (q 0))]) S.1 S.2.1 dX10_minorNow_141 rfl hl (by decide) rfl (fun ls hl => ?_)
    have LA : ∀ (fu : Nat) (i : Nat), Lc.length - i < fu → (i ≤ Lc.length) → ∀ (w : mM) (H : Heap) (locs : List Loc), RW cI cZ q thr kp Wn made (rzA adr tp Lc) fl rem num rfs root (gbO fl tp (rzO Wn own ow Lc) (Lc.take i)) half top coll mins movd sz rw pl ol w → mG (dC, dI) vwCl A s.heap w H locs → ∀ ls : Array Slot, lv_has ls 4 [(2, .int (nI (i))), (0, .ref (q 0))] → W p l e { frames := 3, cells := 0, slots := 0, locals := 69 } s m args below meth c H locs 0 0 (MQ below (mQ (dC, dI) vwCl (tyL cI cZ cT) (fun v w2 => ∃ (sz2 : Nat) (rw2 : Nat → Nat) (pl2 ol2 : Nat → Option Nat), (v = some (.int (-1)) ∧ lay fl Wn (LYR kp Wn fl rfs root adr own rem) (own, tp0) = none ∧ RW cI cZ q thr kp Wn made adr fl rem num rfs root own half top coll mins movd sz2 rw2 pl2 ol2 w2) ∨ ∃ (ow2 : Nat → Option Nat) (tp2 : Nat → Nat), v = some (.int (nI (cnt (yng kp Wn (rzA adr tp2 (LYR kp Wn fl rfs root adr own rem))) made))) ∧ Rz made Wn fl adr own tp0 (LYR kp Wn fl rfs root adr own rem) ol2 ow2 tp2 ∧ (LYR kp Wn fl rfs root adr own rem).Nodup ∧ RW cI cZ q thr kp Wn made (swA (blw made (yng kp Wn (rzA adr tp2 (LYR kp Wn fl rfs root adr own rem)))) (rzA adr tp2 (LYR kp Wn fl rfs root adr own rem))) fl (clrB rem made) num rfs root (swO (blw made (yng kp Wn (rzA adr tp2 (LYR kp Wn fl rfs root adr own rem)))) (rzO Wn own ow2 (LYR kp Wn fl rfs root adr own rem))) half 0 coll (mins + 1) (movd + (LYR kp Wn fl rfs root adr own rem).length) sz2 rw2 pl2 ol2 w2) A) args s 0 0 A) (F0 m 142 ls []) := by
      intro fu
      induction fu with
      | zero => intro i h1; exact absurd h1 (Nat.not_lt_zero _)
      | succ fu ihLA =>
        intro i h1 h2 w H locs hR hG ls hl
        refine lv_iload_n S.1 S.2.1 dX10_minorNow_142 rfl (lv_at hl 0 rfl) ?_
        refine lv_aload_n S.1 S.2.1 dX10_minorNow_143 rfl (lv_at hl 1 rfl) ?_
        refine rg_size S hK hG hR dX10_minorNow_144 ?_
        refine lv_icmp_ge (tgt := 166) S.1 S.2.1 dX10_minorNow_147 (by decide) (fun c1 => ?_) (fun c1 => ?_)
        · have c1 : sz ≤ i := (nI_leI (a := sz) (b := i) (by omega) (by omega)).mp c1
          have hi : i = Lc.length := by omega
          subst hi
          rw [List.take_length] at hR
          refine lv_iconst (v := nI (0)) S.1 S.2.1 dX10_minorNow_166 (by decide) ?_
          refine lv_istore_n (lv' := [(2, .int (nI (0))), (0, .ref (q 0))]) S.1 S.2.1 dX10_minorNow_167 rfl hl (by decide) rfl (fun ls hl => ?_)
          have LB : ∀ (fu : Nat) (j : Nat), Lc.length - j < fu → (j ≤ Lc.length) → ∀ (w : mM) (H : Heap) (locs : List Loc), RW cI cZ q thr kp Wn made (rsA adr (rzA adr tp Lc) (Lc.take j)) fl rem num rfs root (rsO fl adr (gbO fl tp (rzO Wn own ow Lc) Lc) (Lc.take j)) half top coll mins movd sz rw pl ol w → mG (dC, dI) vwCl A s.heap w H locs → ∀ ls : Array Slot, lv_has ls 4 [(2, .int (nI (j))), (0, .ref (q 0))] → W p l e { frames := 3, cells := 0, slots := 0, locals := 69 } s m args below meth c H locs 0 0 (MQ below (mQ (dC, dI) vwCl (tyL cI cZ cT) (fun v w2 => ∃ (sz2 : Nat) (rw2 : Nat → Nat) (pl2 ol2 : Nat → Option Nat), (v = some (.int (-1)) ∧ lay fl Wn (LYR kp Wn fl rfs root adr own rem) (own, tp0) = none ∧ RW cI cZ q thr kp Wn made adr fl rem num rfs root own half top coll mins movd sz2 rw2 pl2 ol2 w2) ∨ ∃ (ow2 : Nat → Option Nat) (tp2 : Nat → Nat), v = some (.int (nI (cnt (yng kp Wn (rzA adr tp2 (LYR kp Wn fl rfs root adr own rem))) made))) ∧ Rz made Wn fl adr own tp0 (LYR kp Wn fl rfs root adr own rem) ol2 ow2 tp2 ∧ (LYR kp Wn fl rfs root adr own rem).Nodup ∧ RW cI cZ q thr kp Wn made (swA (blw made (yng kp Wn (rzA adr tp2 (LYR kp Wn fl rfs root adr own rem)))) (rzA adr tp2 (LYR kp Wn fl rfs root adr own rem))) fl (clrB rem made) num rfs root (swO (blw made (yng kp Wn (rzA adr tp2 (LYR kp Wn fl rfs root adr own rem)))) (rzO Wn own ow2 (LYR kp Wn fl rfs root adr own rem))) half 0 coll (mins + 1) (movd + (LYR kp Wn fl rfs root adr own rem).length) sz2 rw2 pl2 ol2 w2) A) args s 0 0 A) (F0 m 168 ls []) := by
            intro fu
            induction fu with
            | zero => intro j h1; exact absurd h1 (Nat.not_lt_zero _)
            | succ fu ihLB =>
              intro j h1 h3 w H locs hR hG ls hl
              refine lv_iload_n S.1 S.2.1 dX10_minorNow_168 rfl (lv_at hl 0 rfl) ?_
              refine lv_aload_n S.1 S.2.1 dX10_minorNow_169 rfl (lv_at hl 1 rfl) ?_
              refine rg_size S hK hG hR dX10_minorNow_170 ?_
              refine lv_icmp_ge (tgt := 198) S.1 S.2.1 dX10_minorNow_173 (by decide) (fun c2 => ?_) (fun c2 => ?_)
              · have c2 : sz ≤ j := (nI_leI (a := sz) (b := j) (by omega) (by omega)).mp c2
                have hj : j = Lc.length := by omega
                subst hj
                rw [List.take_length, (rs_back hRz hLs.1 hLay).1, (rs_back hRz hLs.1 hLay).2] at hR
                refine lv_iconst (v := -1) S.1 S.2.1 dX10_minorNow_198 (by decide) ?_
                exact mw_iret S hr hlk hK hG dX10_minorNow_199 ⟨sz, rw, pl, ol, Or.inl ⟨rfl, hno, hR⟩⟩
              · have c2 : ¬ (sz ≤ j) := fun h9 => c2 ((nI_leI (a := sz) (b := j) (by omega) (by omega)).mpr h9)
                have hj2 : j < Lc.length := by omega
                have hrow := Lst_row hLs (show j < sz by omega)
                obtain ⟨hxm, a9, ha9, hy9⟩ := hRz.2.2.1 _ hrow.2.1
                have hol := hRz.2.1 j hj2
                rw [ha9] at hol
                refine lv_aload_n S.1 S.2.1 dX10_minorNow_176 rfl (lv_at hl 1 rfl) ?_
                refine lv_aload_n S.1 S.2.1 dX10_minorNow_177 rfl (lv_at hl 1 rfl) ?_
                refine rg_row S hK hG hR dX10_minorNow_178 ?_
                refine lv_iload_n S.1 S.2.1 dX10_minorNow_181 rfl (lv_at hl 0 rfl) ?_
                refine rl_row S hK hG hR (j) (by omega) dX10_minorNow_182 ?_
                refine lv_eqi (y := nI (Lc.getD j 0)) (by rw [hrow.1]) ?_
                refine lv_aload_n S.1 S.2.1 dX10_minorNow_183 rfl (lv_at hl 1 rfl) ?_
                refine rg_old S hK hG hR dX10_minorNow_184 ?_
                refine lv_iload_n S.1 S.2.1 dX10_minorNow_187 rfl (lv_at hl 0 rfl) ?_
                refine rl_old S hK hG hR (j) (by omega) dX10_minorNow_188 ?_
                refine lv_eqi (y := nI (a9)) (by rw [hol]; rfl) ?_
                refine mCV (As := [.int (nI (Lc.getD j 0)), .int (nI (a9))]) (rest := []) S (r_lie hR (Lc.getD j 0) a9 (by omega) (by omega)) cal_X10_lie in_440 in_441 in_442 in_5 hK hN hG hR.obj rfl rfl rfl hl.1 (Nat.le_of_ble_eq_true rfl) ⟨by decide, by decide⟩ ⟨rfl, rfl⟩ ⟨by decide, by decide⟩ dX10_minorNow_189 (fun v w H locs hp hG => ?_)
                obtain ⟨rfl, hR⟩ := hp
                rw [rsO_s hj2 ha9, rsA_s hj2 ha9] at hR
                refine W.eq (g2 := F0 m 192 ls []) rfl ?_
                refine lv_iinc (v := nI (j + 1)) (lv' := [(2, .int (nI (j + 1))), (0, .ref (q 0))]) S.1 S.2.1 dX10_minorNow_192 hl (k := 0) rfl (nI_1 _) (by decide) rfl (fun ls hl => ?_)
                refine lv_goto (tgt := 168) S.1 S.2.1 dX10_minorNow_195 (by decide) ?_
                exact ihLB (j + 1) (by omega) (by omega) _ _ _ hR hG ls (lv_sub hl [0, 1] rfl)
          exact LB (Lc.length + 1) 0 (by omega) (by omega) _ _ _ (hR) hG ls (lv_sub hl [0, 1] rfl)
        · have c1 : ¬ (sz ≤ i) := fun h9 => c1 ((nI_leI (a := sz) (b := i) (by omega) (by omega)).mpr h9)
          have hi2 : i < Lc.length := by omega
          have hrow := Lst_row hLs (show i < sz by omega)
          obtain ⟨hxm, a9, ha9, hy9⟩ := hRz.2.2.1 _ hrow.2.1
          have hpl := (lay_pl Lc (own, tp0) (ow, tp) hRz.1).2 _ hrow.2.1
          change Wn / 4 ≤ tp (Lc.getD i 0) ∧ tp (Lc.getD i 0) + fl (Lc.getD i 0) < Wn at hpl
          refine lv_aload_n S.1 S.2.1 dX10_minorNow_150 rfl (lv_at hl 1 rfl) ?_
          refine lv_aload_n S.1 S.2.1 dX10_minorNow_151 rfl (lv_at hl 1 rfl) ?_
          refine rg_row S hK hG hR dX10_minorNow_152 ?_
          refine lv_iload_n S.1 S.2.1 dX10_minorNow_155 rfl (lv_at hl 0 rfl) ?_
          refine rl_row S hK hG hR (i) (by omega) dX10_minorNow_156 ?_
          refine lv_eqi (y := nI (Lc.getD i 0)) (by rw [hrow.1]) ?_
          refine mCV (As := [.int (nI (Lc.getD i 0))]) (rest := []) S (r_leave hR (Lc.getD i 0) (tp (Lc.getD i 0)) (by omega) (by unfold rzA; rw [if_pos hrow.2.1]) (by omega)) cal_X10_leave in_436 in_437 in_438 in_5 hK hN hG hR.obj rfl rfl rfl hl.1 (Nat.le_of_ble_eq_true rfl) ⟨by decide, by decide⟩ ⟨rfl, rfl⟩ ⟨by decide, by decide⟩ dX10_minorNow_157 (fun v w H locs hp hG => ?_)
          obtain ⟨rfl, hR⟩ := hp
          rw [gbO_s hi2] at hR
          refine W.eq (g2 := F0 m 160 ls []) rfl ?_
          refine lv_iinc (v := nI (i + 1)) (lv' := [(2, .int (nI (i + 1))), (0, .ref (q 0))]) S.1 S.2.1 dX10_minorNow_160 hl (k := 0) rfl (nI_1 _) (by decide) rfl (fun ls hl => ?_)
          refine lv_goto (tgt := 142) S.1 S.2.1 dX10_minorNow_163 (by decide) ?_
          exact ihLA (i + 1) (by omega) (by omega) _ _ _ hR hG ls (lv_sub hl [0, 1] rfl)
    exact LA (Lc.length + 1) 0 (by omega) (by omega) _ _ _ (hR) hG ls (lv_sub hl [0, 1] rfl)
  have TG : ∀ (sz : Nat) (rw : Nat → Nat) (pl ol ow : Nat → Option Nat) (tp : Nat → Nat), (Lst made sz rw pl (LYR kp Wn fl rfs root adr own rem)) → (Rz made Wn fl adr own tp0 (LYR kp Wn fl rfs root adr own rem) ol ow tp) → ∀ (w : mM) (H : Heap) (locs : List Loc), RW cI cZ q thr kp Wn made (rzA adr tp (LYR kp Wn fl rfs root adr own rem)) fl rem num rfs root (rzO Wn own ow (LYR kp Wn fl rfs root adr own rem)) half top coll mins movd sz rw pl ol w → mG (dC, dI) vwCl A s.heap w H locs → ∀ ls : Array Slot, lv_has ls 4 [(0, .ref (q 0))] → W p l e { frames := 3, cells := 0, slots := 0, locals := 69 } s m args below meth c H locs 0 0 (MQ below (mQ (dC, dI) vwCl (tyL cI cZ cT) (fun v w2 => ∃ (sz2 : Nat) (rw2 : Nat → Nat) (pl2 ol2 : Nat → Option Nat), (v = some (.int (-1)) ∧ lay fl Wn (LYR kp Wn fl rfs root adr own rem) (own, tp0) = none ∧ RW cI cZ q thr kp Wn made adr fl rem num rfs root own half top coll mins movd sz2 rw2 pl2 ol2 w2) ∨ ∃ (ow2 : Nat → Option Nat) (tp2 : Nat → Nat), v = some (.int (nI (cnt (yng kp Wn (rzA adr tp2 (LYR kp Wn fl rfs root adr own rem))) made))) ∧ Rz made Wn fl adr own tp0 (LYR kp Wn fl rfs root adr own rem) ol2 ow2 tp2 ∧ (LYR kp Wn fl rfs root adr own rem).Nodup ∧ RW cI cZ q thr kp Wn made (swA (blw made (yng kp Wn (rzA adr tp2 (LYR kp Wn fl rfs root adr own rem)))) (rzA adr tp2 (LYR kp Wn fl rfs root adr own rem))) fl (clrB rem made) num rfs root (swO (blw made (yng kp Wn (rzA adr tp2 (LYR kp Wn fl rfs root adr own rem)))) (rzO Wn own ow2 (LYR kp Wn fl rfs root adr own rem))) half 0 coll (mins + 1) (movd + (LYR kp Wn fl rfs root adr own rem).length) sz2 rw2 pl2 ol2 w2) A) args s 0 0 A) (F0 m 200 ls []) := by
    intro sz rw pl ol ow tp hLs hRz w H locs hR hG ls hl
    have hszc : sz = (LYR kp Wn fl rfs root adr own rem).length := hLs.2.1
    refine lv_aload_n S.1 S.2.1 dX10_minorNow_200 rfl (lv_at hl 0 rfl) ?_
    refine lv_dup S.1 S.2.1 dX10_minorNow_201 rfl ?_
    refine rg_movd S hK hG hR dX10_minorNow_202 ?_
    refine lv_aload_n S.1 S.2.1 dX10_minorNow_205 rfl (lv_at hl 0 rfl) ?_
    refine rg_size S hK hG hR dX10_minorNow_206 ?_
    refine lv_iadd S.1 S.2.1 dX10_minorNow_209 ?_
    refine lv_eqi (nI_add _ _) ?_
    refine lv_eqi (y := nI (movd + (LYR kp Wn fl rfs root adr own rem).length)) (by rw [hszc]) ?_
    refine rp_movd S hK hG hR (movd + (LYR kp Wn fl rfs root adr own rem).length) dX10_minorNow_210 (fun w H locs hR hG => ?_)
    refine lv_iconst (v := nI (0)) S.1 S.2.1 dX10_minorNow_213 (by decide) ?_
    refine lv_istore_n (lv' := [(2, .int (nI (0))), (0, .ref (q 0))]) S.1 S.2.1 dX10_minorNow_214 rfl hl (by decide) rfl (fun ls hl => ?_)
    refine lv_iconst (v := nI (0)) S.1 S.2.1 dX10_minorNow_215 (by decide) ?_
    refine lv_istore_n (lv' := [(3, .int (nI (0))), (2, .int (nI (0))), (0, .ref (q 0))]) S.1 S.2.1 dX10_minorNow_216 rfl hl (by decide) rfl (fun ls hl => ?_)
    have LG : ∀ (fu : Nat) (k : Nat), made - k < fu → (k ≤ made) → ∀ (w : mM) (H : Heap) (locs : List Loc), RW cI cZ q thr kp Wn made (swA (blw k (yng kp Wn (rzA adr tp (LYR kp Wn fl rfs root adr own rem)))) (rzA adr tp (LYR kp Wn fl rfs root adr own rem))) fl (clrB rem k) num rfs root (swO (blw k (yng kp Wn (rzA adr tp (LYR kp Wn fl rfs root adr own rem)))) (rzO Wn own ow (LYR kp Wn fl rfs root adr own rem))) half top coll mins (movd + (LYR kp Wn fl rfs root adr own rem).length) sz rw pl ol w → mG (dC, dI) vwCl A s.heap w H locs → ∀ ls : Array Slot, lv_has ls 4 [(3, .int (nI (k))), (2, .int (nI (cnt (yng kp Wn (rzA adr tp (LYR kp Wn fl rfs root adr own rem))) k))), (0, .ref (q 0))] → W p l e { frames := 3, cells := 0, slots := 0, locals := 69 } s m args below meth c H locs 0 0 (MQ below (mQ (dC, dI) vwCl (tyL cI cZ cT) (fun v w2 => ∃ (sz2 : Nat) (rw2 : Nat → Nat) (pl2 ol2 : Nat → Option Nat), (v = some (.int (-1)) ∧ lay fl Wn (LYR kp Wn fl rfs root adr own rem) (own, tp0) = none ∧ RW cI cZ q thr kp Wn made adr fl rem num rfs root own half top coll mins movd sz2 rw2 pl2 ol2 w2) ∨ ∃ (ow2 : Nat → Option Nat) (tp2 : Nat → Nat), v = some (.int (nI (cnt (yng kp Wn (rzA adr tp2 (LYR kp Wn fl rfs root adr own rem))) made))) ∧ Rz made Wn fl adr own tp0 (LYR kp Wn fl rfs root adr own rem) ol2 ow2 tp2 ∧ (LYR kp Wn fl rfs root adr own rem).Nodup ∧ RW cI cZ q thr kp Wn made (swA (blw made (yng kp Wn (rzA adr tp2 (LYR kp Wn fl rfs root adr own rem)))) (rzA adr tp2 (LYR kp Wn fl rfs root adr own rem))) fl (clrB rem made) num rfs root (swO (blw made (yng kp Wn (rzA adr tp2 (LYR kp Wn fl rfs root adr own rem)))) (rzO Wn own ow2 (LYR kp Wn fl rfs root adr own rem))) half 0 coll (mins + 1) (movd + (LYR kp Wn fl rfs root adr own rem).length) sz2 rw2 pl2 ol2 w2) A) args s 0 0 A) (F0 m 217 ls []) := by
      intro fu
      induction fu with
      | zero => intro k h1; exact absurd h1 (Nat.not_lt_zero _)
      | succ fu ihLG =>
        intro k h1 h2 w H locs hR hG ls hl
        refine lv_iload_n S.1 S.2.1 dX10_minorNow_217 rfl (lv_at hl 0 rfl) ?_
        refine lv_aload_n S.1 S.2.1 dX10_minorNow_218 rfl (lv_at hl 2 rfl) ?_
        refine rg_made S hK hG hR dX10_minorNow_219 ?_
        refine lv_icmp_ge (tgt := 264) S.1 S.2.1 dX10_minorNow_222 (by decide) (fun c1 => ?_) (fun c1 => ?_)
        · have c1 : made ≤ k := (nI_leI (a := made) (b := k) (by omega) (by omega)).mp c1
          have hk : k = made := by omega
          rw [hk] at hR hl
          refine lv_aload_n S.1 S.2.1 dX10_minorNow_264 rfl (lv_at hl 2 rfl) ?_
          refine lv_iconst (v := nI (0)) S.1 S.2.1 dX10_minorNow_265 (by decide) ?_
          refine rp_top S hK hG hR (0) dX10_minorNow_266 (fun w H locs hR hG => ?_)
          refine lv_aload_n S.1 S.2.1 dX10_minorNow_269 rfl (lv_at hl 2 rfl) ?_
          refine lv_dup S.1 S.2.1 dX10_minorNow_270 rfl ?_
          refine rg_mins S hK hG hR dX10_minorNow_271 ?_
          refine lv_iconst (v := nI (1)) S.1 S.2.1 dX10_minorNow_274 (by decide) ?_
          refine lv_iadd S.1 S.2.1 dX10_minorNow_275 ?_
          refine lv_eqi (nI_add _ _) ?_
          refine rp_mins S hK hG hR (mins + 1) dX10_minorNow_276 (fun w H locs hR hG => ?_)
          refine lv_iload_n S.1 S.2.1 dX10_minorNow_279 rfl (lv_at hl 1 rfl) ?_
          exact mw_iret S hr hlk hK hG dX10_minorNow_280 ⟨sz, rw, pl, ol, Or.inr ⟨ow, tp, rfl, hRz, hLs.1, hR⟩⟩
        · have c1 : ¬ (made ≤ k) := fun h9 => c1 ((nI_leI (a := made) (b := k) (by omega) (by omega)).mpr h9)
          have hab2 : ∀ x, rzA adr tp (LYR kp Wn fl rfs root adr own rem) k = some x → x < 2147483648 := fun x hx => by have := Lay_b hRz.2.2.2 (show k < made by omega) hx; omega
          refine lv_aload_n S.1 S.2.1 dX10_minorNow_225 rfl (lv_at hl 2 rfl) ?_
          refine rg_adr S hK hG hR dX10_minorNow_226 ?_
          refine lv_iload_n S.1 S.2.1 dX10_minorNow_229 rfl (lv_at hl 0 rfl) ?_
          refine rl_adr S hK hG hR (k) (by omega) dX10_minorNow_230 ?_
          refine lv_eqi (y := oI (rzA adr tp (LYR kp Wn fl rfs root adr own rem) k)) (by rw [swA_at]) ?_
          refine lv_iconst (v := -1) S.1 S.2.1 dX10_minorNow_231 (by decide) ?_
          refine lv_icmp_eq (tgt := 251) S.1 S.2.1 dX10_minorNow_232 (by decide) (fun c2 => ?_) (fun c2 => ?_)
          · have hc : (yng kp Wn (rzA adr tp (LYR kp Wn fl rfs root adr own rem))) k = false := yng_n ((oI_m1 hab2).mp c2)
            rw [swA_k (Or.inl hc), swO_k hRz.2.2.2 (Or.inl hc)] at hR
            refine lv_aload_n S.1 S.2.1 dX10_minorNow_251 rfl (lv_at hl 2 rfl) ?_
            refine rg_rem S hK hG hR dX10_minorNow_252 ?_
            refine lv_iload_n S.1 S.2.1 dX10_minorNow_255 rfl (lv_at hl 0 rfl) ?_
            refine lv_iconst (v := bI false) S.1 S.2.1 dX10_minorNow_256 (by decide) ?_
            refine rs_rem S hK hG hR (k) (false) (by omega) dX10_minorNow_257 (fun w H locs hR hG => ?_)
            rw [clrB_s] at hR
            refine lv_iinc (v := nI (k + 1)) (lv' := [(3, .int (nI (k + 1))), (2, .int (nI (cnt (yng kp Wn (rzA adr tp (LYR kp Wn fl rfs root adr own rem))) k))), (0, .ref (q 0))]) S.1 S.2.1 dX10_minorNow_258 hl (k := 0) rfl (nI_1 _) (by decide) rfl (fun ls hl => ?_)
            refine lv_goto (tgt := 217) S.1 S.2.1 dX10_minorNow_261 (by decide) ?_
            rw [← cnt_s0 hc] at hl
            exact ihLG (k + 1) (by omega) (by omega) _ _ _ hR hG ls (lv_sub hl [0, 1, 2] rfl)
          · obtain ⟨a, ha⟩ : ∃ a, rzA adr tp (LYR kp Wn fl rfs root adr own rem) k = some a := by
              cases h : rzA adr tp (LYR kp Wn fl rfs root adr own rem) k with
              | none => exact absurd ((oI_m1 hab2).mpr h) c2
              | some a => exact ⟨a, rfl⟩
            have hb := Lay_b hRz.2.2.2 (show k < made by omega) ha
            refine lv_aload_n S.1 S.2.1 dX10_minorNow_235 rfl (lv_at hl 2 rfl) ?_
            refine lv_iload_n S.1 S.2.1 dX10_minorNow_236 rfl (lv_at hl 0 rfl) ?_
            refine mCV (As := [.int (nI (k))]) (rest := []) S (r_isOld hR k (by omega) hW (by omega) (by rw [swA_at]; exact hab2)) cal_X10_isOld in_428 in_429 in_430 in_5 hK hN hG hR.obj rfl rfl rfl hl.1 (Nat.le_of_ble_eq_true rfl) ⟨by decide, by decide⟩ ⟨rfl, rfl⟩ ⟨by decide, by decide⟩ dX10_minorNow_237 (fun v w H locs hp hG => ?_)
            obtain ⟨rfl, hw9⟩ := hp
            rw [hw9] at hG
            rw [isOldR_at swA_at]
            refine W.eq (g2 := F0 m 240 ls [.int (bI (isOldR kp Wn (rzA adr tp (LYR kp Wn fl rfs root adr own rem)) k))]) rfl ?_
            refine lv_if_ne (tgt := 251) S.1 S.2.1 dX10_minorNow_240 (by decide) (fun c3 => ?_) (fun c3 => ?_)
            · have hc : (yng kp Wn (rzA adr tp (LYR kp Wn fl rfs root adr own rem))) k = false := yng_o (bI_t c3)
              rw [swA_k (Or.inl hc), swO_k hRz.2.2.2 (Or.inl hc)] at hR
              refine lv_aload_n S.1 S.2.1 dX10_minorNow_251 rfl (lv_at hl 2 rfl) ?_
              refine rg_rem S hK hG hR dX10_minorNow_252 ?_
              refine lv_iload_n S.1 S.2.1 dX10_minorNow_255 rfl (lv_at hl 0 rfl) ?_
              refine lv_iconst (v := bI false) S.1 S.2.1 dX10_minorNow_256 (by decide) ?_
              refine rs_rem S hK hG hR (k) (false) (by omega) dX10_minorNow_257 (fun w H locs hR hG => ?_)
              rw [clrB_s] at hR
              refine lv_iinc (v := nI (k + 1)) (lv' := [(3, .int (nI (k + 1))), (2, .int (nI (cnt (yng kp Wn (rzA adr tp (LYR kp Wn fl rfs root adr own rem))) k))), (0, .ref (q 0))]) S.1 S.2.1 dX10_minorNow_258 hl (k := 0) rfl (nI_1 _) (by decide) rfl (fun ls hl => ?_)
              refine lv_goto (tgt := 217) S.1 S.2.1 dX10_minorNow_261 (by decide) ?_
              rw [← cnt_s0 hc] at hl
              exact ihLG (k + 1) (by omega) (by omega) _ _ _ hR hG ls (lv_sub hl [0, 1, 2] rfl)
            · have hc : (yng kp Wn (rzA adr tp (LYR kp Wn fl rfs root adr own rem))) k = true := yng_t ha (bI_f c3)
              refine lv_aload_n S.1 S.2.1 dX10_minorNow_243 rfl (lv_at hl 2 rfl) ?_
              refine lv_iload_n S.1 S.2.1 dX10_minorNow_244 rfl (lv_at hl 0 rfl) ?_
              refine mCV (As := [.int (nI (k))]) (rest := []) S (r_go hR k a (by omega) (by rw [swA_at]; exact ha) (by omega)) cal_X10_go in_432 in_433 in_434 in_5 hK hN hG hR.obj rfl rfl rfl hl.1 (Nat.le_of_ble_eq_true rfl) ⟨by decide, by decide⟩ ⟨rfl, rfl⟩ ⟨by decide, by decide⟩ dX10_minorNow_245 (fun v w H locs hp hG => ?_)
              obtain ⟨rfl, hR⟩ := hp
              rw [swA_s hc, swO_s hRz.2.2.2 (by omega) ha hc] at hR
              refine W.eq (g2 := F0 m 248 ls []) rfl ?_
              refine lv_iinc (v := nI (cnt (yng kp Wn (rzA adr tp (LYR kp Wn fl rfs root adr own rem))) k + 1)) (lv' := [(2, .int (nI (cnt (yng kp Wn (rzA adr tp (LYR kp Wn fl rfs root adr own rem))) k + 1))), (3, .int (nI (k))), (0, .ref (q 0))]) S.1 S.2.1 dX10_minorNow_248 hl (k := 1) rfl (nI_1 _) (by decide) rfl (fun ls hl => ?_)
              refine lv_aload_n S.1 S.2.1 dX10_minorNow_251 rfl (lv_at hl 2 rfl) ?_
              refine rg_rem S hK hG hR dX10_minorNow_252 ?_
              refine lv_iload_n S.1 S.2.1 dX10_minorNow_255 rfl (lv_at hl 1 rfl) ?_
              refine lv_iconst (v := bI false) S.1 S.2.1 dX10_minorNow_256 (by decide) ?_
              refine rs_rem S hK hG hR (k) (false) (by omega) dX10_minorNow_257 (fun w H locs hR hG => ?_)
              rw [up_up, clrB_s] at hR
              refine lv_iinc (v := nI (k + 1)) (lv' := [(3, .int (nI (k + 1))), (2, .int (nI (cnt (yng kp Wn (rzA adr tp (LYR kp Wn fl rfs root adr own rem))) k + 1))), (0, .ref (q 0))]) S.1 S.2.1 dX10_minorNow_258 hl (k := 1) rfl (nI_1 _) (by decide) rfl (fun ls hl => ?_)
              refine lv_goto (tgt := 217) S.1 S.2.1 dX10_minorNow_261 (by decide) ?_
              rw [← cnt_s1 hc] at hl
              exact ihLG (k + 1) (by omega) (by omega) _ _ _ hR hG ls (lv_sub hl [0, 1, 2] rfl)
    exact LG (made + 1) 0 (by omega) (by omega) _ _ _ (by rw [blw_0, swA_f, swO_f, clrB_0]; exact hR) hG ls (lv_sub hl [0, 1, 2] rfl)
  have TH : ∀ (b : Bool) (Lc : List Nat) (sz : Nat) (rw : Nat → Nat) (pl ol ow : Nat → Option Nat) (tp : Nat → Nat), (b = true → flw (okR kp Wn adr) fl rfs 401 0 Lc = LYR kp Wn fl rfs root adr own rem) → (b = false → lay fl Wn (LYR kp Wn fl rfs root adr own rem) (own, tp0) = none) → (Lst made sz rw pl Lc) → (Rz made Wn fl adr own tp0 Lc ol ow tp) → (Lc.length ≤ 400) → (b = true → ∀ x ∈ Lc, Kp x) → ∀ (w : mM) (H : Heap) (locs : List Loc), RW cI cZ q thr kp Wn made (rzA adr tp Lc) fl rem num rfs root (rzO Wn own ow Lc) half top coll mins movd sz rw pl ol w → mG (dC, dI) vwCl A s.heap w H locs → ∀ ls : Array Slot, lv_has ls 4 [(2, .int (nI (0))), (1, .int (bI (b))), (0, .ref (q 0))] → W p l e { frames := 3, cells := 0, slots := 0, locals := 69 } s m args below meth c H locs 0 0 (MQ below (mQ (dC, dI) vwCl (tyL cI cZ cT) (fun v w2 => ∃ (sz2 : Nat) (rw2 : Nat → Nat) (pl2 ol2 : Nat → Option Nat), (v = some (.int (-1)) ∧ lay fl Wn (LYR kp Wn fl rfs root adr own rem) (own, tp0) = none ∧ RW cI cZ q thr kp Wn made adr fl rem num rfs root own half top coll mins movd sz2 rw2 pl2 ol2 w2) ∨ ∃ (ow2 : Nat → Option Nat) (tp2 : Nat → Nat), v = some (.int (nI (cnt (yng kp Wn (rzA adr tp2 (LYR kp Wn fl rfs root adr own rem))) made))) ∧ Rz made Wn fl adr own tp0 (LYR kp Wn fl rfs root adr own rem) ol2 ow2 tp2 ∧ (LYR kp Wn fl rfs root adr own rem).Nodup ∧ RW cI cZ q thr kp Wn made (swA (blw made (yng kp Wn (rzA adr tp2 (LYR kp Wn fl rfs root adr own rem)))) (rzA adr tp2 (LYR kp Wn fl rfs root adr own rem))) fl (clrB rem made) num rfs root (swO (blw made (yng kp Wn (rzA adr tp2 (LYR kp Wn fl rfs root adr own rem)))) (rzO Wn own ow2 (LYR kp Wn fl rfs root adr own rem))) half 0 coll (mins + 1) (movd + (LYR kp Wn fl rfs root adr own rem).length) sz2 rw2 pl2 ol2 w2) A) args s 0 0 A) (F0 m 107 ls []) := by
    intro b Lc sz rw pl ol ow tp hT hN2 hLs hRz h4 hKc w H locs hR hG ls hl
    have L3 : ∀ (fu : Nat) (i : Nat) (b : Bool) (Lc : List Nat) (sz : Nat) (rw : Nat → Nat) (pl ol ow : Nat → Option Nat) (tp : Nat → Nat), 402 - i < fu → (i ≤ 401) → (b = true → flw (okR kp Wn adr) fl rfs (401 - i) i Lc = LYR kp Wn fl rfs root adr own rem) → (b = false → lay fl Wn (LYR kp Wn fl rfs root adr own rem) (own, tp0) = none) → (Lst made sz rw pl Lc) → (Rz made Wn fl adr own tp0 Lc ol ow tp) → (Lc.length ≤ 400) → (b = true → ∀ x ∈ Lc, Kp x) → ∀ (w : mM) (H : Heap) (locs : List Loc), RW cI cZ q thr kp Wn made (rzA adr tp Lc) fl rem num rfs root (rzO Wn own ow Lc) half top coll mins movd sz rw pl ol w → mG (dC, dI) vwCl A s.heap w H locs → ∀ ls : Array Slot, lv_has ls 4 [(2, .int (nI (i))), (1, .int (bI (b))), (0, .ref (q 0))] → W p l e { frames := 3, cells := 0, slots := 0, locals := 69 } s m args below meth c H locs 0 0 (MQ below (mQ (dC, dI) vwCl (tyL cI cZ cT) (fun v w2 => ∃ (sz2 : Nat) (rw2 : Nat → Nat) (pl2 ol2 : Nat → Option Nat), (v = some (.int (-1)) ∧ lay fl Wn (LYR kp Wn fl rfs root adr own rem) (own, tp0) = none ∧ RW cI cZ q thr kp Wn made adr fl rem num rfs root own half top coll mins movd sz2 rw2 pl2 ol2 w2) ∨ ∃ (ow2 : Nat → Option Nat) (tp2 : Nat → Nat), v = some (.int (nI (cnt (yng kp Wn (rzA adr tp2 (LYR kp Wn fl rfs root adr own rem))) made))) ∧ Rz made Wn fl adr own tp0 (LYR kp Wn fl rfs root adr own rem) ol2 ow2 tp2 ∧ (LYR kp Wn fl rfs root adr own rem).Nodup ∧ RW cI cZ q thr kp Wn made (swA (blw made (yng kp Wn (rzA adr tp2 (LYR kp Wn fl rfs root adr own rem)))) (rzA adr tp2 (LYR kp Wn fl rfs root adr own rem))) fl (clrB rem made) num rfs root (swO (blw made (yng kp Wn (rzA adr tp2 (LYR kp Wn fl rfs root adr own rem)))) (rzO Wn own ow2 (LYR kp Wn fl rfs root adr own rem))) half 0 coll (mins + 1) (movd + (LYR kp Wn fl rfs root adr own rem).length) sz2 rw2 pl2 ol2 w2) A) args s 0 0 A) (F0 m 107 ls []) := by
      intro fu
      induction fu with
      | zero => intro i b Lc sz rw pl ol ow tp h1; exact absurd h1 (Nat.not_lt_zero _)
      | succ fu ihL3 =>
        intro i b Lc sz rw pl ol ow tp h1 h2 hT hN2 hLs hRz h4 hKc w H locs hR hG ls hl
        have hszc : sz = Lc.length := hLs.2.1
        refine lv_iload_n S.1 S.2.1 dX10_minorNow_107 rfl (lv_at hl 0 rfl) ?_
        refine lv_aload_n S.1 S.2.1 dX10_minorNow_108 rfl (lv_at hl 2 rfl) ?_
        refine rg_size S hK hG hR dX10_minorNow_109 ?_
        refine lv_icmp_ge (tgt := 136) S.1 S.2.1 dX10_minorNow_112 (by decide) (fun c1 => ?_) (fun c1 => ?_)
        · have c1 : sz ≤ i := (nI_leI (a := sz) (b := i) (by omega) (by omega)).mp c1
          cases b with
          | true =>
            have hT := hT rfl
            rw [flw_end (by omega)] at hT
            subst hT
            refine lv_iload_n S.1 S.2.1 dX10_minorNow_136 rfl (lv_at hl 1 rfl) ?_
            refine lv_if_ne (tgt := 200) S.1 S.2.1 dX10_minorNow_137 (by decide) (fun c5 => ?_) (fun c5 => ?_)
            · exact TG sz rw pl ol ow tp hLs hRz _ _ _ hR hG ls (lv_sub hl [2] rfl)
            · exact absurd c5 (by decide)
          | false =>
            refine lv_iload_n S.1 S.2.1 dX10_minorNow_136 rfl (lv_at hl 1 rfl) ?_
            refine lv_if_ne (tgt := 200) S.1 S.2.1 dX10_minorNow_137 (by decide) (fun c5 => ?_) (fun c5 => ?_)
            · exact absurd rfl c5
            · exact TF Lc sz rw pl ol ow tp (hN2 rfl) hLs hRz h4 _ _ _ hR hG ls (lv_sub hl [2] rfl)
        · have c1 : ¬ (sz ≤ i) := fun h9 => c1 ((nI_leI (a := sz) (b := i) (by omega) (by omega)).mpr h9)
          refine lv_iload_n S.1 S.2.1 dX10_minorNow_115 rfl (lv_at hl 1 rfl) ?_
          refine lv_if_eq (tgt := 136) S.1 S.2.1 dX10_minorNow_116 (by decide) (fun c2 => ?_) (fun c2 => ?_)
          · have c2 := bI_f c2
            subst c2
            refine lv_iload_n S.1 S.2.1 dX10_minorNow_136 rfl (lv_at hl 1 rfl) ?_
            refine lv_if_ne (tgt := 200) S.1 S.2.1 dX10_minorNow_137 (by decide) (fun c5 => ?_) (fun c5 => ?_)
            · exact absurd rfl c5
            · exact TF Lc sz rw pl ol ow tp (hN2 rfl) hLs hRz h4 _ _ _ hR hG ls (lv_sub hl [2] rfl)
          · have c2 := bI_t c2
            subst c2
            have hT := hT rfl
            have hKc := hKc rfl
            have hi2 : i < Lc.length := by omega
            have hrow := Lst_row hLs (show i < sz by omega)
            rw [show 401 - i = (401 - (i + 1)) + 1 by omega, flw_step hi2] at hT
            refine lv_aload_n S.1 S.2.1 dX10_minorNow_119 rfl (lv_at hl 2 rfl) ?_
            refine lv_aload_n S.1 S.2.1 dX10_minorNow_120 rfl (lv_at hl 2 rfl) ?_
            refine rg_row S hK hG hR dX10_minorNow_121 ?_
            refine lv_iload_n S.1 S.2.1 dX10_minorNow_124 rfl (lv_at hl 0 rfl) ?_
            refine rl_row S hK hG hR (i) (by omega) dX10_minorNow_125 ?_
            refine lv_eqi (y := nI (Lc.getD i 0)) (by rw [hrow.1]) ?_
            have hKx : ∀ x ∈ mtN (okR kp Wn adr) (rfs (Lc.getD i 0)) (fl (Lc.getD i 0)) Lc, Kp x := mtN_all hKc _ (fun i2 hi3 t ht _ => hKf _ (hKc _ hrow.2.1) i2 hi3 t ht)
            refine mCV (As := [.int (nI (Lc.getD i 0))]) (rest := []) S (r_raiseFields (Kp := Kp) hB hKm hKf hR hm hW hkp hfl hLay hY hLs hRz hKc (Lc.getD i 0) (hKc _ hrow.2.1)) cal_X10_raiseFields in_453 in_454 in_455 in_5 hK hN hG hR.obj rfl rfl rfl hl.1 (Nat.le_of_ble_eq_true rfl) ⟨by decide, by decide⟩ ⟨rfl, rfl⟩ ⟨by decide, by decide⟩ dX10_minorNow_126 (fun v w H locs hp hG => ?_)
            rcases hp with ⟨rfl, sz2, rw2, pl2, ol2, ow2, tp2, hR, hLs2, hRz2⟩ | ⟨rfl, hno, Lp, h5, sz2, rw2, pl2, ol2, ow2, tp2, hR, hLs2, hRz2⟩
            · refine W.eq (g2 := F0 m 129 ls [.int (bI (true))]) rfl ?_
              refine lv_istore_n (lv' := [(1, .int (bI (true))), (2, .int (nI (i))), (0, .ref (q 0))]) S.1 S.2.1 dX10_minorNow_129 rfl hl (by decide) rfl (fun ls hl => ?_)
              refine lv_iinc (v := nI (i + 1)) (lv' := [(2, .int (nI (i + 1))), (1, .int (bI (true))), (0, .ref (q 0))]) S.1 S.2.1 dX10_minorNow_130 hl (k := 1) rfl (nI_1 _) (by decide) rfl (fun ls hl => ?_)
              refine lv_goto (tgt := 107) S.1 S.2.1 dX10_minorNow_133 (by decide) ?_
              exact ihL3 (i + 1) true (mtN (okR kp Wn adr) (rfs (Lc.getD i 0)) (fl (Lc.getD i 0)) Lc) sz2 rw2 pl2 ol2 ow2 tp2 (by omega) (by omega) (fun _ => hT) (fun z => nomatch z) hLs2 hRz2 (hB _ hLs2.1 hKx) (fun _ => hKx) _ _ _ hR hG ls (lv_sub hl [0, 1, 2] rfl)
            · refine W.eq (g2 := F0 m 129 ls [.int (bI (false))]) rfl ?_
              refine lv_istore_n (lv' := [(1, .int (bI (false))), (2, .int (nI (i))), (0, .ref (q 0))]) S.1 S.2.1 dX10_minorNow_129 rfl hl (by decide) rfl (fun ls hl => ?_)
              refine lv_iinc (v := nI (i + 1)) (lv' := [(2, .int (nI (i + 1))), (1, .int (bI (false))), (0, .ref (q 0))]) S.1 S.2.1 dX10_minorNow_130 hl (k := 1) rfl (nI_1 _) (by decide) rfl (fun ls hl => ?_)
              refine lv_goto (tgt := 107) S.1 S.2.1 dX10_minorNow_133 (by decide) ?_
              exact ihL3 (i + 1) false (Lp) sz2 rw2 pl2 ol2 ow2 tp2 (by omega) (by omega) (fun z => nomatch z) (fun _ => by obtain ⟨M, hM⟩ := flw_pre (ok := okR kp Wn adr) (fl := fl) (rfs := rfs) (401 - (i + 1)) (i + 1) (mtN (okR kp Wn adr) (rfs (Lc.getD i 0)) (fl (Lc.getD i 0)) Lc); rw [← hT, hM]; exact lay_ext hno) hLs2 hRz2 h5 (fun z => nomatch z) _ _ _ hR hG ls (lv_sub hl [0, 1, 2] rfl)
    exact L3 (403) 0 b Lc sz rw pl ol ow tp (by omega) (by omega) hT hN2 hLs hRz h4 hKc _ _ _ (hR) hG ls (lv_sub hl [0, 1, 2] rfl)
  have TS : ∀ (b : Bool) (Lc : List Nat) (sz : Nat) (rw : Nat → Nat) (pl ol ow : Nat → Option Nat) (tp : Nat → Nat), (b = true → mtN (okR kp Wn adr) root 16 [] = Lc) → (b = false → lay fl Wn (mtN (okR kp Wn adr) root 16 []) (own, tp0) = none) → (Lst made sz rw pl Lc) → (Rz made Wn fl adr own tp0 Lc ol ow tp) → (Lc.length ≤ 400) → (b = true → ∀ x ∈ Lc, Kp x) → ∀ (w : mM) (H : Heap) (locs : List Loc), RW cI cZ q thr kp Wn made (rzA adr tp Lc) fl rem num rfs root (rzO Wn own ow Lc) half top coll mins movd sz rw pl ol w → mG (dC, dI) vwCl A s.heap w H locs → ∀ ls : Array Slot, lv_has ls 4 [(2, .int (nI (Wn / 4 + 0))), (1, .int (bI (b))), (0, .ref (q 0))] → W p l e { frames := 3, cells := 0, slots := 0, locals := 69 } s m args below meth c H locs 0 0 (MQ below (mQ (dC, dI) vwCl (tyL cI cZ cT) (fun v w2 => ∃ (sz2 : Nat) (rw2 : Nat → Nat) (pl2 ol2 : Nat → Option Nat), (v = some (.int (-1)) ∧ lay fl Wn (LYR kp Wn fl rfs root adr own rem) (own, tp0) = none ∧ RW cI cZ q thr kp Wn made adr fl rem num rfs root own half top coll mins movd sz2 rw2 pl2 ol2 w2) ∨ ∃ (ow2 : Nat → Option Nat) (tp2 : Nat → Nat), v = some (.int (nI (cnt (yng kp Wn (rzA adr tp2 (LYR kp Wn fl rfs root adr own rem))) made))) ∧ Rz made Wn fl adr own tp0 (LYR kp Wn fl rfs root adr own rem) ol2 ow2 tp2 ∧ (LYR kp Wn fl rfs root adr own rem).Nodup ∧ RW cI cZ q thr kp Wn made (swA (blw made (yng kp Wn (rzA adr tp2 (LYR kp Wn fl rfs root adr own rem)))) (rzA adr tp2 (LYR kp Wn fl rfs root adr own rem))) fl (clrB rem made) num rfs root (swO (blw made (yng kp Wn (rzA adr tp2 (LYR kp Wn fl rfs root adr own rem)))) (rzO Wn own ow2 (LYR kp Wn fl rfs root adr own rem))) half 0 coll (mins + 1) (movd + (LYR kp Wn fl rfs root adr own rem).length) sz2 rw2 pl2 ol2 w2) A) args s 0 0 A) (F0 m 42 ls []) := by
    intro b Lc sz rw pl ol ow tp hT hN2 hLs hRz h4 hKc w H locs hR hG ls hl
    have L2 : ∀ (fu : Nat) (n : Nat) (b : Bool) (Lc : List Nat) (sz : Nat) (rw : Nat → Nat) (pl ol ow : Nat → Option Nat) (tp : Nat → Nat), Wn - n < fu → (n ≤ Wn - Wn / 4) → (b = true → rmb (okR kp Wn adr) fl rfs own (tda adr) rem (Wn / 4) n (mtN (okR kp Wn adr) root 16 []) = Lc) → (b = false → lay fl Wn (rmb (okR kp Wn adr) fl rfs own (tda adr) rem (Wn / 4) n (mtN (okR kp Wn adr) root 16 [])) (own, tp0) = none) → (Lst made sz rw pl Lc) → (Rz made Wn fl adr own tp0 Lc ol ow tp) → (Lc.length ≤ 400) → (b = true → ∀ x ∈ Lc, Kp x) → ∀ (w : mM) (H : Heap) (locs : List Loc), RW cI cZ q thr kp Wn made (rzA adr tp Lc) fl rem num rfs root (rzO Wn own ow Lc) half top coll mins movd sz rw pl ol w → mG (dC, dI) vwCl A s.heap w H locs → ∀ ls : Array Slot, lv_has ls 4 [(2, .int (nI (Wn / 4 + n))), (1, .int (bI (b))), (0, .ref (q 0))] → W p l e { frames := 3, cells := 0, slots := 0, locals := 69 } s m args below meth c H locs 0 0 (MQ below (mQ (dC, dI) vwCl (tyL cI cZ cT) (fun v w2 => ∃ (sz2 : Nat) (rw2 : Nat → Nat) (pl2 ol2 : Nat → Option Nat), (v = some (.int (-1)) ∧ lay fl Wn (LYR kp Wn fl rfs root adr own rem) (own, tp0) = none ∧ RW cI cZ q thr kp Wn made adr fl rem num rfs root own half top coll mins movd sz2 rw2 pl2 ol2 w2) ∨ ∃ (ow2 : Nat → Option Nat) (tp2 : Nat → Nat), v = some (.int (nI (cnt (yng kp Wn (rzA adr tp2 (LYR kp Wn fl rfs root adr own rem))) made))) ∧ Rz made Wn fl adr own tp0 (LYR kp Wn fl rfs root adr own rem) ol2 ow2 tp2 ∧ (LYR kp Wn fl rfs root adr own rem).Nodup ∧ RW cI cZ q thr kp Wn made (swA (blw made (yng kp Wn (rzA adr tp2 (LYR kp Wn fl rfs root adr own rem)))) (rzA adr tp2 (LYR kp Wn fl rfs root adr own rem))) fl (clrB rem made) num rfs root (swO (blw made (yng kp Wn (rzA adr tp2 (LYR kp Wn fl rfs root adr own rem)))) (rzO Wn own ow2 (LYR kp Wn fl rfs root adr own rem))) half 0 coll (mins + 1) (movd + (LYR kp Wn fl rfs root adr own rem).length) sz2 rw2 pl2 ol2 w2) A) args s 0 0 A) (F0 m 42 ls []) := by
      intro fu
      induction fu with
      | zero => intro n b Lc sz rw pl ol ow tp h1; exact absurd h1 (Nat.not_lt_zero _)
      | succ fu ihL2 =>
        intro n b Lc sz rw pl ol ow tp h1 h2 hT hN2 hLs hRz h4 hKc w H locs hR hG ls hl
        refine lv_iload_n S.1 S.2.1 dX10_minorNow_42 rfl (lv_at hl 0 rfl) ?_
        refine lv_aload_n S.1 S.2.1 dX10_minorNow_43 rfl (lv_at hl 2 rfl) ?_
        refine rg_Wn S hK hG hR dX10_minorNow_44 ?_
        refine lv_icmp_ge (tgt := 105) S.1 S.2.1 dX10_minorNow_47 (by decide) (fun c1 => ?_) (fun c1 => ?_)
        · have c1 : Wn ≤ (Wn / 4 + n) := (nI_leI (a := Wn) (b := Wn / 4 + n) (by omega) (by omega)).mp c1
          have hn : n = Wn - Wn / 4 := by omega
          subst hn
          refine lv_iconst (v := nI (0)) S.1 S.2.1 dX10_minorNow_105 (by decide) ?_
          refine lv_istore_n (lv' := [(2, .int (nI (0))), (1, .int (bI (b))), (0, .ref (q 0))]) S.1 S.2.1 dX10_minorNow_106 rfl hl (by decide) rfl (fun ls hl => ?_)
          exact TH b Lc sz rw pl ol ow tp (fun hb => by rw [← hT hb]; rfl) (fun hb => by obtain ⟨M, hM⟩ := flw_pre (ok := okR kp Wn adr) (fl := fl) (rfs := rfs) 401 0 (rmb (okR kp Wn adr) fl rfs own (tda adr) rem (Wn / 4) (Wn - Wn / 4) (mtN (okR kp Wn adr) root 16 [])); unfold LYR; rw [hM]; exact lay_ext (hN2 hb)) hLs hRz h4 hKc _ _ _ hR hG ls (lv_sub hl [0, 1, 2] rfl)
        · have c1 : ¬ (Wn ≤ (Wn / 4 + n)) := fun h9 => c1 ((nI_leI (a := Wn) (b := Wn / 4 + n) (by omega) (by omega)).mpr h9)
          refine lv_iload_n S.1 S.2.1 dX10_minorNow_50 rfl (lv_at hl 1 rfl) ?_
          refine lv_if_eq (tgt := 105) S.1 S.2.1 dX10_minorNow_51 (by decide) (fun c2 => ?_) (fun c2 => ?_)
          · have c2 := bI_f c2
            subst c2
            refine lv_iconst (v := nI (0)) S.1 S.2.1 dX10_minorNow_105 (by decide) ?_
            refine lv_istore_n (lv' := [(2, .int (nI (0))), (1, .int (bI (false))), (0, .ref (q 0))]) S.1 S.2.1 dX10_minorNow_106 rfl hl (by decide) rfl (fun ls hl => ?_)
            exact TH false Lc sz rw pl ol ow tp (fun z => nomatch z) (fun hb => by obtain ⟨n9, hn9⟩ : ∃ n9, Wn - Wn / 4 = n + n9 := ⟨Wn - Wn / 4 - n, by omega⟩; obtain ⟨M2, hM2⟩ := rmb_ext (okR kp Wn adr) fl rfs own (tda adr) rem (Wn / 4) n n9 (mtN (okR kp Wn adr) root 16 []); obtain ⟨M, hM⟩ := flw_pre (ok := okR kp Wn adr) (fl := fl) (rfs := rfs) 401 0 (rmb (okR kp Wn adr) fl rfs own (tda adr) rem (Wn / 4) (Wn - Wn / 4) (mtN (okR kp Wn adr) root 16 [])); unfold LYR; rw [hM, hn9, hM2, List.append_assoc]; exact lay_ext (hN2 rfl)) hLs hRz h4 (fun z => nomatch z) _ _ _ hR hG ls (lv_sub hl [0, 1, 2] rfl)
          · have c2 := bI_t c2
            subst c2
            have hT := hT rfl
            have hKc := hKc rfl
            subst hT
            have hat := rz_at hRz hLs.1 hLay (show Wn / 4 ≤ Wn / 4 + n by omega)
            refine lv_aload_n S.1 S.2.1 dX10_minorNow_54 rfl (lv_at hl 2 rfl) ?_
            refine rg_own S hK hG hR dX10_minorNow_55 ?_
            refine lv_iload_n S.1 S.2.1 dX10_minorNow_58 rfl (lv_at hl 0 rfl) ?_
            refine rl_own S hK hG hR (Wn / 4 + n) (by omega) dX10_minorNow_59 ?_
            cases hown : rzO Wn own ow (rmb (okR kp Wn adr) fl rfs own (tda adr) rem (Wn / 4) n (mtN (okR kp Wn adr) root 16 [])) (Wn / 4 + n) with
            | none =>
              refine W.eq (g2 := F0 m 60 ls [.int (oI none)]) rfl ?_
              refine lv_istore_n (lv' := [(3, .int (oI none)), (2, .int (nI (Wn / 4 + n))), (1, .int (bI (true))), (0, .ref (q 0))]) S.1 S.2.1 dX10_minorNow_60 rfl hl (by decide) rfl (fun ls hl => ?_)
              refine lv_iload_n S.1 S.2.1 dX10_minorNow_61 rfl (lv_at hl 0 rfl) ?_
              refine lv_iconst (v := -1) S.1 S.2.1 dX10_minorNow_62 (by decide) ?_
              refine lv_icmp_eq (tgt := 93) S.1 S.2.1 dX10_minorNow_63 (by decide) (fun c3 => ?_) (fun c3 => ?_)
              · have hst : rmb (okR kp Wn adr) fl rfs own (tda adr) rem (Wn / 4) (n + 1) (mtN (okR kp Wn adr) root 16 []) = rmb (okR kp Wn adr) fl rfs own (tda adr) rem (Wn / 4) n (mtN (okR kp Wn adr) root 16 []) := rmb_n (bgn_no (hat.1 hown))
                refine lv_iconst (v := bI true) S.1 S.2.1 dX10_minorNow_93 (by decide) ?_
                refine lv_goto (tgt := 98) S.1 S.2.1 dX10_minorNow_94 (by decide) ?_
                refine lv_istore_n (lv' := [(1, .int (bI (true))), (3, .int (oI none)), (2, .int (nI (Wn / 4 + n))), (0, .ref (q 0))]) S.1 S.2.1 dX10_minorNow_98 rfl hl (by decide) rfl (fun ls hl => ?_)
                refine lv_iinc (v := nI (Wn / 4 + n + 1)) (lv' := [(2, .int (nI (Wn / 4 + n + 1))), (1, .int (bI (true))), (3, .int (oI none)), (0, .ref (q 0))]) S.1 S.2.1 dX10_minorNow_99 hl (k := 2) rfl (nI_1 _) (by decide) rfl (fun ls hl => ?_)
                refine lv_goto (tgt := 42) S.1 S.2.1 dX10_minorNow_102 (by decide) ?_
                exact ihL2 (n + 1) true (rmb (okR kp Wn adr) fl rfs own (tda adr) rem (Wn / 4) n (mtN (okR kp Wn adr) root 16 [])) sz rw pl ol ow tp (by omega) (by omega) (fun _ => hst) (fun z => nomatch z) hLs hRz h4 (fun _ => hKc) _ _ _ hR hG ls (lv_sub hl [0, 1, 3] rfl)
              · exact absurd rfl c3
            | some o =>
              refine W.eq (g2 := F0 m 60 ls [.int (nI (o))]) rfl ?_
              obtain ⟨hom, b9, hb9, hb8, hb7⟩ := hRz.2.2.2.2 _ o hown
              have hbb := Lay_b hRz.2.2.2 hom hb9
              refine lv_istore_n (lv' := [(3, .int (nI (o))), (2, .int (nI (Wn / 4 + n))), (1, .int (bI (true))), (0, .ref (q 0))]) S.1 S.2.1 dX10_minorNow_60 rfl hl (by decide) rfl (fun ls hl => ?_)
              refine lv_iload_n S.1 S.2.1 dX10_minorNow_61 rfl (lv_at hl 0 rfl) ?_
              refine lv_iconst (v := -1) S.1 S.2.1 dX10_minorNow_62 (by decide) ?_
              refine lv_icmp_eq (tgt := 93) S.1 S.2.1 dX10_minorNow_63 (by decide) (fun c3 => ?_) (fun c3 => ?_)
              · exact absurd c3 (nI_m1 (by omega))
              · refine lv_aload_n S.1 S.2.1 dX10_minorNow_66 rfl (lv_at hl 3 rfl) ?_
                refine rg_adr S hK hG hR dX10_minorNow_67 ?_
                refine lv_iload_n S.1 S.2.1 dX10_minorNow_70 rfl (lv_at hl 0 rfl) ?_
                refine rl_adr S hK hG hR (o) (by omega) dX10_minorNow_71 ?_
                refine lv_eqi (y := nI (b9)) (by rw [hb9]; rfl) ?_
                refine lv_iload_n S.1 S.2.1 dX10_minorNow_72 rfl (lv_at hl 1 rfl) ?_
                refine lv_icmp_ne (tgt := 93) S.1 S.2.1 dX10_minorNow_73 (by decide) (fun c4 => ?_) (fun c4 => ?_)
                · have c4 : ¬ (b9 = (Wn / 4 + n)) := fun h9 => c4 ((nI_eq (a := b9) (b := Wn / 4 + n) (by omega) (by omega)).mpr h9)
                  have hst : rmb (okR kp Wn adr) fl rfs own (tda adr) rem (Wn / 4) (n + 1) (mtN (okR kp Wn adr) root 16 []) = rmb (okR kp Wn adr) fl rfs own (tda adr) rem (Wn / 4) n (mtN (okR kp Wn adr) root 16 []) := by
                    rcases hat.2 o hown with ⟨hoL, h0⟩ | ⟨hoL, h0⟩
                    · exact rmb_n (bgn_no h0)
                    · have hao : adr o = some b9 := by rw [← hb9]; unfold rzA; rw [if_neg hoL]
                      have htd : tda adr o = b9 := by unfold tda; rw [hao]; rfl
                      exact rmb_n (bgn_off h0 (by rw [htd]; exact c4))
                  refine lv_iconst (v := bI true) S.1 S.2.1 dX10_minorNow_93 (by decide) ?_
                  refine lv_goto (tgt := 98) S.1 S.2.1 dX10_minorNow_94 (by decide) ?_
                  refine lv_istore_n (lv' := [(1, .int (bI (true))), (3, .int (nI (o))), (2, .int (nI (Wn / 4 + n))), (0, .ref (q 0))]) S.1 S.2.1 dX10_minorNow_98 rfl hl (by decide) rfl (fun ls hl => ?_)
                  refine lv_iinc (v := nI (Wn / 4 + n + 1)) (lv' := [(2, .int (nI (Wn / 4 + n + 1))), (1, .int (bI (true))), (3, .int (nI (o))), (0, .ref (q 0))]) S.1 S.2.1 dX10_minorNow_99 hl (k := 2) rfl (nI_1 _) (by decide) rfl (fun ls hl => ?_)
                  refine lv_goto (tgt := 42) S.1 S.2.1 dX10_minorNow_102 (by decide) ?_
                  exact ihL2 (n + 1) true (rmb (okR kp Wn adr) fl rfs own (tda adr) rem (Wn / 4) n (mtN (okR kp Wn adr) root 16 [])) sz rw pl ol ow tp (by omega) (by omega) (fun _ => hst) (fun z => nomatch z) hLs hRz h4 (fun _ => hKc) _ _ _ hR hG ls (lv_sub hl [0, 1, 3] rfl)
                · have c4 : b9 = (Wn / 4 + n) := (nI_eq (a := b9) (b := Wn / 4 + n) (by omega) (by omega)).mp c4
                  refine lv_aload_n S.1 S.2.1 dX10_minorNow_76 rfl (lv_at hl 3 rfl) ?_
                  refine rg_rem S hK hG hR dX10_minorNow_77 ?_
                  refine lv_iload_n S.1 S.2.1 dX10_minorNow_80 rfl (lv_at hl 0 rfl) ?_
                  refine rl_rem S hK hG hR (o) (by omega) dX10_minorNow_81 ?_
                  refine lv_if_eq (tgt := 93) S.1 S.2.1 dX10_minorNow_82 (by decide) (fun c5 => ?_) (fun c5 => ?_)
                  · have hst : rmb (okR kp Wn adr) fl rfs own (tda adr) rem (Wn / 4) (n + 1) (mtN (okR kp Wn adr) root 16 []) = rmb (okR kp Wn adr) fl rfs own (tda adr) rem (Wn / 4) n (mtN (okR kp Wn adr) root 16 []) := by
                      rcases hat.2 o hown with ⟨hoL, h0⟩ | ⟨hoL, h0⟩
                      · exact rmb_n (bgn_no h0)
                      · have hao : adr o = some b9 := by rw [← hb9]; unfold rzA; rw [if_neg hoL]
                        have htd : tda adr o = b9 := by unfold tda; rw [hao]; rfl
                        exact rmb_f (bgn_at h0 (by rw [htd]; exact c4)) (bI_f c5)
                    refine lv_iconst (v := bI true) S.1 S.2.1 dX10_minorNow_93 (by decide) ?_
                    refine lv_goto (tgt := 98) S.1 S.2.1 dX10_minorNow_94 (by decide) ?_
                    refine lv_istore_n (lv' := [(1, .int (bI (true))), (3, .int (nI (o))), (2, .int (nI (Wn / 4 + n))), (0, .ref (q 0))]) S.1 S.2.1 dX10_minorNow_98 rfl hl (by decide) rfl (fun ls hl => ?_)
                    refine lv_iinc (v := nI (Wn / 4 + n + 1)) (lv' := [(2, .int (nI (Wn / 4 + n + 1))), (1, .int (bI (true))), (3, .int (nI (o))), (0, .ref (q 0))]) S.1 S.2.1 dX10_minorNow_99 hl (k := 2) rfl (nI_1 _) (by decide) rfl (fun ls hl => ?_)
                    refine lv_goto (tgt := 42) S.1 S.2.1 dX10_minorNow_102 (by decide) ?_
                    exact ihL2 (n + 1) true (rmb (okR kp Wn adr) fl rfs own (tda adr) rem (Wn / 4) n (mtN (okR kp Wn adr) root 16 [])) sz rw pl ol ow tp (by omega) (by omega) (fun _ => hst) (fun z => nomatch z) hLs hRz h4 (fun _ => hKc) _ _ _ hR hG ls (lv_sub hl [0, 1, 3] rfl)
                  · have c5 := bI_t c5
                    have hoL : o ∉ rmb (okR kp Wn adr) fl rfs own (tda adr) rem (Wn / 4) n (mtN (okR kp Wn adr) root 16 []) := fun z => by
                      obtain ⟨-, a9, ha9, hy9⟩ := hRz.2.2.1 o z
                      rw [hrm o a9 hom ha9 (by omega)] at c5
                      cases c5
                    obtain h0 : own (Wn / 4 + n) = some o := by
                      rcases hat.2 o hown with ⟨z, -⟩ | ⟨-, h0⟩
                      · exact absurd z hoL
                      · exact h0
                    have hao : adr o = some b9 := by rw [← hb9]; unfold rzA; rw [if_neg hoL]
                    have htd : tda adr o = b9 := by unfold tda; rw [hao]; rfl
                    have hst : rmb (okR kp Wn adr) fl rfs own (tda adr) rem (Wn / 4) (n + 1) (mtN (okR kp Wn adr) root 16 []) = mtN (okR kp Wn adr) (rfs o) (fl o) (rmb (okR kp Wn adr) fl rfs own (tda adr) rem (Wn / 4) n (mtN (okR kp Wn adr) root 16 [])) := rmb_t (bgn_at h0 (by rw [htd]; exact c4)) c5
                    have hKo2 : Kp o := hKo _ o (by omega) h0
                    have hKx : ∀ x ∈ mtN (okR kp Wn adr) (rfs o) (fl o) (rmb (okR kp Wn adr) fl rfs own (tda adr) rem (Wn / 4) n (mtN (okR kp Wn adr) root 16 [])), Kp x := mtN_all hKc _ (fun i2 hi3 t ht _ => hKf _ hKo2 i2 hi3 t ht)
                    refine lv_aload_n S.1 S.2.1 dX10_minorNow_85 rfl (lv_at hl 3 rfl) ?_
                    refine lv_iload_n S.1 S.2.1 dX10_minorNow_86 rfl (lv_at hl 0 rfl) ?_
                    refine mCV (As := [.int (nI (o))]) (rest := []) S (r_raiseFields (Kp := Kp) hB hKm hKf hR hm hW hkp hfl hLay hY hLs hRz hKc o hKo2) cal_X10_raiseFields in_453 in_454 in_455 in_5 hK hN hG hR.obj rfl rfl rfl hl.1 (Nat.le_of_ble_eq_true rfl) ⟨by decide, by decide⟩ ⟨rfl, rfl⟩ ⟨by decide, by decide⟩ dX10_minorNow_87 (fun v w H locs hp hG => ?_)
                    rcases hp with ⟨rfl, sz2, rw2, pl2, ol2, ow2, tp2, hR, hLs2, hRz2⟩ | ⟨rfl, hno, Lp, h5, sz2, rw2, pl2, ol2, ow2, tp2, hR, hLs2, hRz2⟩
                    · refine W.eq (g2 := F0 m 90 ls [.int (bI (true))]) rfl ?_
                      refine lv_if_eq (tgt := 97) S.1 S.2.1 dX10_minorNow_90 (by decide) (fun c6 => ?_) (fun c6 => ?_)
                      · exact absurd c6 (by decide)
                      · refine lv_iconst (v := bI true) S.1 S.2.1 dX10_minorNow_93 (by decide) ?_
                        refine lv_goto (tgt := 98) S.1 S.2.1 dX10_minorNow_94 (by decide) ?_
                        refine lv_istore_n (lv' := [(1, .int (bI (true))), (3, .int (nI (o))), (2, .int (nI (Wn / 4 + n))), (0, .ref (q 0))]) S.1 S.2.1 dX10_minorNow_98 rfl hl (by decide) rfl (fun ls hl => ?_)
                        refine lv_iinc (v := nI (Wn / 4 + n + 1)) (lv' := [(2, .int (nI (Wn / 4 + n + 1))), (1, .int (bI (true))), (3, .int (nI (o))), (0, .ref (q 0))]) S.1 S.2.1 dX10_minorNow_99 hl (k := 2) rfl (nI_1 _) (by decide) rfl (fun ls hl => ?_)
                        refine lv_goto (tgt := 42) S.1 S.2.1 dX10_minorNow_102 (by decide) ?_
                        exact ihL2 (n + 1) true (mtN (okR kp Wn adr) (rfs o) (fl o) (rmb (okR kp Wn adr) fl rfs own (tda adr) rem (Wn / 4) n (mtN (okR kp Wn adr) root 16 []))) sz2 rw2 pl2 ol2 ow2 tp2 (by omega) (by omega) (fun _ => hst) (fun z => nomatch z) hLs2 hRz2 (hB _ hLs2.1 hKx) (fun _ => hKx) _ _ _ hR hG ls (lv_sub hl [0, 1, 3] rfl)
                    · refine W.eq (g2 := F0 m 90 ls [.int (bI (false))]) rfl ?_
                      refine lv_if_eq (tgt := 97) S.1 S.2.1 dX10_minorNow_90 (by decide) (fun c6 => ?_) (fun c6 => ?_)
                      · refine lv_iconst (v := bI false) S.1 S.2.1 dX10_minorNow_97 (by decide) ?_
                        refine lv_istore_n (lv' := [(1, .int (bI (false))), (3, .int (nI (o))), (2, .int (nI (Wn / 4 + n))), (0, .ref (q 0))]) S.1 S.2.1 dX10_minorNow_98 rfl hl (by decide) rfl (fun ls hl => ?_)
                        refine lv_iinc (v := nI (Wn / 4 + n + 1)) (lv' := [(2, .int (nI (Wn / 4 + n + 1))), (1, .int (bI (false))), (3, .int (nI (o))), (0, .ref (q 0))]) S.1 S.2.1 dX10_minorNow_99 hl (k := 2) rfl (nI_1 _) (by decide) rfl (fun ls hl => ?_)
                        refine lv_goto (tgt := 42) S.1 S.2.1 dX10_minorNow_102 (by decide) ?_
                        exact ihL2 (n + 1) false (Lp) sz2 rw2 pl2 ol2 ow2 tp2 (by omega) (by omega) (fun z => nomatch z) (fun _ => by rw [hst]; exact hno) hLs2 hRz2 h5 (fun z => nomatch z) _ _ _ hR hG ls (lv_sub hl [0, 1, 3] rfl)
                      · exact absurd c6 (by decide)
    exact L2 (Wn + 1) 0 b Lc sz rw pl ol ow tp (by omega) (by omega) hT hN2 hLs hRz h4 hKc _ _ _ (hR) hG ls (lv_sub hl [0, 1, 2] rfl)
  refine lv_aload_n S.1 S.2.1 dX10_minorNow_0 rfl (lv_at hl 0 rfl) ?_
  refine mCV (As := []) (rest := []) S (r_begin hR hm) cal_X10_begin in_412 in_413 in_414 in_5 hK hN hG hR.obj rfl rfl rfl hl.1 (Nat.le_of_ble_eq_true rfl) ⟨by decide, by decide⟩ ⟨rfl, rfl⟩ ⟨by decide, by decide⟩ dX10_minorNow_1 (fun v w H locs hp hG => ?_)
  obtain ⟨rfl, hR⟩ := hp
  rw [← rzA_nil adr tp0] at hR
  rw [← rzO_nil Wn own] at hR
  refine W.eq (g2 := F0 m 4 ls []) rfl ?_
  refine lv_iconst (v := bI true) S.1 S.2.1 dX10_minorNow_4 (by decide) ?_
  refine lv_istore_n (lv' := [(1, .int (bI (true))), (0, .ref (q 0))]) S.1 S.2.1 dX10_minorNow_5 rfl hl (by decide) rfl (fun ls hl => ?_)
  refine lv_iconst (v := nI (0)) S.1 S.2.1 dX10_minorNow_6 (by decide) ?_
  refine lv_istore_n (lv' := [(2, .int (nI (0))), (1, .int (bI (true))), (0, .ref (q 0))]) S.1 S.2.1 dX10_minorNow_7 rfl hl (by decide) rfl (fun ls hl => ?_)
  have L1 : ∀ (fu : Nat) (i : Nat) (b : Bool) (Lc : List Nat) (sz : Nat) (rw : Nat → Nat) (pl ol ow : Nat → Option Nat) (tp : Nat → Nat), 16 - i < fu → (i ≤ 16) → (b = true → mtN (okR kp Wn adr) root i [] = Lc) → (b = false → lay fl Wn (mtN (okR kp Wn adr) root i []) (own, tp0) = none) → (Lst made sz rw pl Lc) → (Rz made Wn fl adr own tp0 Lc ol ow tp) → (Lc.length ≤ 400) → (b = true → ∀ x ∈ Lc, Kp x) → ∀ (w : mM) (H : Heap) (locs : List Loc), RW cI cZ q thr kp Wn made (rzA adr tp Lc) fl rem num rfs root (rzO Wn own ow Lc) half top coll mins movd sz rw pl ol w → mG (dC, dI) vwCl A s.heap w H locs → ∀ ls : Array Slot, lv_has ls 4 [(2, .int (nI (i))), (1, .int (bI (b))), (0, .ref (q 0))] → W p l e { frames := 3, cells := 0, slots := 0, locals := 69 } s m args below meth c H locs 0 0 (MQ below (mQ (dC, dI) vwCl (tyL cI cZ cT) (fun v w2 => ∃ (sz2 : Nat) (rw2 : Nat → Nat) (pl2 ol2 : Nat → Option Nat), (v = some (.int (-1)) ∧ lay fl Wn (LYR kp Wn fl rfs root adr own rem) (own, tp0) = none ∧ RW cI cZ q thr kp Wn made adr fl rem num rfs root own half top coll mins movd sz2 rw2 pl2 ol2 w2) ∨ ∃ (ow2 : Nat → Option Nat) (tp2 : Nat → Nat), v = some (.int (nI (cnt (yng kp Wn (rzA adr tp2 (LYR kp Wn fl rfs root adr own rem))) made))) ∧ Rz made Wn fl adr own tp0 (LYR kp Wn fl rfs root adr own rem) ol2 ow2 tp2 ∧ (LYR kp Wn fl rfs root adr own rem).Nodup ∧ RW cI cZ q thr kp Wn made (swA (blw made (yng kp Wn (rzA adr tp2 (LYR kp Wn fl rfs root adr own rem)))) (rzA adr tp2 (LYR kp Wn fl rfs root adr own rem))) fl (clrB rem made) num rfs root (swO (blw made (yng kp Wn (rzA adr tp2 (LYR kp Wn fl rfs root adr own rem)))) (rzO Wn own ow2 (LYR kp Wn fl rfs root adr own rem))) half 0 coll (mins + 1) (movd + (LYR kp Wn fl rfs root adr own rem).length) sz2 rw2 pl2 ol2 w2) A) args s 0 0 A) (F0 m 8 ls []) := by
    intro fu
    induction fu with
    | zero => intro i b Lc sz rw pl ol ow tp h1; exact absurd h1 (Nat.not_lt_zero _)
    | succ fu ihL1 =>
      intro i b Lc sz rw pl ol ow tp h1 h2 hT hN2 hLs hRz h4 hKc w H locs hR hG ls hl
      refine lv_iload_n S.1 S.2.1 dX10_minorNow_8 rfl (lv_at hl 0 rfl) ?_
      refine lv_bipush (v := nI (16)) S.1 S.2.1 dX10_minorNow_9 (by decide) ?_
      refine lv_icmp_ge (tgt := 35) S.1 S.2.1 dX10_minorNow_11 (by decide) (fun c1 => ?_) (fun c1 => ?_)
      · have c1 : 16 ≤ i := (nI_leI (a := 16) (b := i) (by omega) (by omega)).mp c1
        have hi : i = 16 := by omega
        subst hi
        refine lv_aload_n S.1 S.2.1 dX10_minorNow_35 rfl (lv_at hl 2 rfl) ?_
        refine rg_Wn S hK hG hR dX10_minorNow_36 ?_
        refine lv_iconst (v := nI (4)) S.1 S.2.1 dX10_minorNow_39 (by decide) ?_
        refine lv_idiv S.1 S.2.1 dX10_minorNow_40 (by decide) ?_
        refine lv_eqi (pk_div (by omega) (by omega) (by omega)) ?_
        refine lv_eqi (y := nI (Wn / 4 + 0)) (rfl) ?_
        refine lv_istore_n (lv' := [(2, .int (nI (Wn / 4 + 0))), (1, .int (bI (b))), (0, .ref (q 0))]) S.1 S.2.1 dX10_minorNow_41 rfl hl (by decide) rfl (fun ls hl => ?_)
        exact TS b Lc sz rw pl ol ow tp hT hN2 hLs hRz h4 hKc _ _ _ hR hG ls (lv_sub hl [0, 1, 2] rfl)
      · have c1 : ¬ (16 ≤ i) := fun h9 => c1 ((nI_leI (a := 16) (b := i) (by omega) (by omega)).mpr h9)
        refine lv_iload_n S.1 S.2.1 dX10_minorNow_14 rfl (lv_at hl 1 rfl) ?_
        refine lv_if_eq (tgt := 35) S.1 S.2.1 dX10_minorNow_15 (by decide) (fun c2 => ?_) (fun c2 => ?_)
        · have c2 := bI_f c2
          subst c2
          refine lv_aload_n S.1 S.2.1 dX10_minorNow_35 rfl (lv_at hl 2 rfl) ?_
          refine rg_Wn S hK hG hR dX10_minorNow_36 ?_
          refine lv_iconst (v := nI (4)) S.1 S.2.1 dX10_minorNow_39 (by decide) ?_
          refine lv_idiv S.1 S.2.1 dX10_minorNow_40 (by decide) ?_
          refine lv_eqi (pk_div (by omega) (by omega) (by omega)) ?_
          refine lv_eqi (y := nI (Wn / 4 + 0)) (rfl) ?_
          refine lv_istore_n (lv' := [(2, .int (nI (Wn / 4 + 0))), (1, .int (bI (false))), (0, .ref (q 0))]) S.1 S.2.1 dX10_minorNow_41 rfl hl (by decide) rfl (fun ls hl => ?_)
          exact TS false Lc sz rw pl ol ow tp (fun z => nomatch z) (fun hb => by obtain ⟨n9, hn9⟩ : ∃ n9, 16 = i + n9 := ⟨16 - i, by omega⟩; obtain ⟨M2, hM2⟩ := mtN_ext (okR kp Wn adr) root i n9 []; rw [hn9, hM2]; exact lay_ext (hN2 rfl)) hLs hRz h4 (fun z => nomatch z) _ _ _ hR hG ls (lv_sub hl [0, 1, 2] rfl)
        · have c2 := bI_t c2
          subst c2
          have hT := hT rfl
          have hKc := hKc rfl
          subst hT
          have hKx : ∀ x ∈ mtN (okR kp Wn adr) root (i + 1) [], Kp x := mtL_all hKc (fun t ht _ => hKr i (by omega) t ht)
          refine lv_aload_n S.1 S.2.1 dX10_minorNow_18 rfl (lv_at hl 2 rfl) ?_
          refine lv_aload_n S.1 S.2.1 dX10_minorNow_19 rfl (lv_at hl 2 rfl) ?_
          refine rg_root S hK hG hR dX10_minorNow_20 ?_
          refine lv_iload_n S.1 S.2.1 dX10_minorNow_23 rfl (lv_at hl 0 rfl) ?_
          refine rl_root S hK hG hR (i) (by omega) dX10_minorNow_24 ?_
          refine mCV (As := [.int (oI (root i))]) (rest := []) S (r_raise hR hm hW hkp hfl hLay hY hLs hRz (root i) (fun t ht => hKm _ (hKr i (by omega) t ht)) (hB _ (mtL_nd hLs.1) hKx)) cal_X10_raise in_449 in_450 in_451 in_5 hK hN hG hR.obj rfl rfl rfl hl.1 (Nat.le_of_ble_eq_true rfl) ⟨by decide, by decide⟩ ⟨rfl, rfl⟩ ⟨by decide, by decide⟩ dX10_minorNow_25 (fun v w H locs hp hG => ?_)
          rcases hp with ⟨rfl, sz2, rw2, pl2, ol2, ow2, tp2, hR, hLs2, hRz2⟩ | ⟨rfl, hno, Lp, h5, sz2, rw2, pl2, ol2, ow2, tp2, hR, hLs2, hRz2⟩
          · refine W.eq (g2 := F0 m 28 ls [.int (bI (true))]) rfl ?_
            refine lv_istore_n (lv' := [(1, .int (bI (true))), (2, .int (nI (i))), (0, .ref (q 0))]) S.1 S.2.1 dX10_minorNow_28 rfl hl (by decide) rfl (fun ls hl => ?_)
            refine lv_iinc (v := nI (i + 1)) (lv' := [(2, .int (nI (i + 1))), (1, .int (bI (true))), (0, .ref (q 0))]) S.1 S.2.1 dX10_minorNow_29 hl (k := 1) rfl (nI_1 _) (by decide) rfl (fun ls hl => ?_)
            refine lv_goto (tgt := 8) S.1 S.2.1 dX10_minorNow_32 (by decide) ?_
            exact ihL1 (i + 1) true (mtN (okR kp Wn adr) root (i + 1) []) sz2 rw2 pl2 ol2 ow2 tp2 (by omega) (by omega) (fun _ => rfl) (fun z => nomatch z) hLs2 hRz2 (hB _ hLs2.1 hKx) (fun _ => hKx) _ _ _ hR hG ls (lv_sub hl [0, 1, 2] rfl)
          · refine W.eq (g2 := F0 m 28 ls [.int (bI (false))]) rfl ?_
            refine lv_istore_n (lv' := [(1, .int (bI (false))), (2, .int (nI (i))), (0, .ref (q 0))]) S.1 S.2.1 dX10_minorNow_28 rfl hl (by decide) rfl (fun ls hl => ?_)
            refine lv_iinc (v := nI (i + 1)) (lv' := [(2, .int (nI (i + 1))), (1, .int (bI (false))), (0, .ref (q 0))]) S.1 S.2.1 dX10_minorNow_29 hl (k := 1) rfl (nI_1 _) (by decide) rfl (fun ls hl => ?_)
            refine lv_goto (tgt := 8) S.1 S.2.1 dX10_minorNow_32 (by decide) ?_
            exact ihL1 (i + 1) false (Lp) sz2 rw2 pl2 ol2 ow2 tp2 (by omega) (by omega) (fun z => nomatch z) (fun _ => hno) hLs2 hRz2 h5 (fun z => nomatch z) _ _ _ hR hG ls (lv_sub hl [0, 1, 2] rfl)
  exact L1 (17) 0 true [] 0 row (clrO plc made) old own tp0 (by omega) (by omega) (fun _ => rfl) (fun z => nomatch z) Lst_nil (Rz_nil hLay) (by decide) (fun _ x hx => absurd hx List.not_mem_nil) _ _ _ (hR) hG ls (lv_sub hl [0, 1, 2] rfl)
