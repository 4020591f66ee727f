/-! THE REFERENCE: going over to the old, one by one -/
theorem fitR_congr {own own2 : Nat → Option Nat} {W many : Nat} : ∀ (n k fr : Nat), (∀ j, k ≤ j → j < W → own j = own2 j) → fitR own W many n k fr = fitR own2 W many n k fr
  | 0, _, _, _ => rfl
  | n + 1, k, fr, h => by
    rw [fitR.eq_2, fitR.eq_2]
    by_cases hk : k < W
    · rw [if_pos hk, if_pos hk, h k (Nat.le_refl k) hk, fitR_congr n (k + 1) _ (fun j h1 h2 => h j (by omega) h2)]
    · rw [if_neg hk, if_neg hk]
theorem fit_congr {own own2 : Nat → Option Nat} {W f many : Nat} (h : ∀ j, f ≤ j → j < W → own j = own2 j) : fit own W f many = fit own2 W f many := fitR_congr _ _ _ h
theorem Lay_move {made Wn k a p : Nat} {fl : Nat → Nat} {adr own : Nat → Option Nat} (hL : Lay made Wn fl adr own) (hk : k < made) (ha : adr k = some a) (hp : p + fl k < Wn) (hf : ∀ j, p ≤ j → j < p + (fl k + 1) → own j = none) : Lay made Wn fl (va_up adr k (some p)) (fillO (fillO own a (fl k + 1) none) p (fl k + 1) (some k)) := by
  refine ⟨fun o b ho hb => ?_, fun j o hj => ?_⟩
  · unfold va_up at hb
    by_cases e : o = k
    · rw [if_pos e] at hb
      cases hb
      subst e
      refine ⟨hp, fun j h1 h2 => ?_⟩
      unfold fillO
      rw [if_pos ⟨h1, by omega⟩]
    · rw [if_neg e] at hb
      obtain ⟨g1, g2⟩ := hL.1 o b ho hb
      refine ⟨g1, fun j h1 h2 => ?_⟩
      have g3 := g2 j h1 h2
      unfold fillO
      rw [if_neg (fun z => by rw [hf j z.1 z.2] at g3; cases g3), if_neg (fun z => by
        have g4 := (hL.1 k a hk ha).2 j z.1 (by omega)
        rw [g3] at g4
        cases g4
        exact e rfl)]
      exact g3
  · unfold fillO at hj
    by_cases h1 : p ≤ j ∧ j < p + (fl k + 1)
    · rw [if_pos h1] at hj
      cases hj
      exact ⟨hk, p, by unfold va_up; rw [if_pos rfl], h1.1, by omega⟩
    · rw [if_neg h1] at hj
      by_cases h2 : a ≤ j ∧ j < a + (fl k + 1)
      · rw [if_pos h2] at hj
        cases hj
      · rw [if_neg h2] at hj
        obtain ⟨g1, b, g2, g3, g4⟩ := hL.2 j o hj
        refine ⟨g1, b, ?_, g3, g4⟩
        have e : o ≠ k := fun z => by
          subst z
          rw [ha] at g2
          cases g2
          exact h2 ⟨g3, by omega⟩
        unfold va_up
        rw [if_neg e]
        exact g2
def inLs (L : List Nat) : Nat → Bool := fun o => decide (o ∈ L)
def rzO (Wn : Nat) (own0 ow : Nat → Option Nat) (L : List Nat) : Nat → Option Nat := fun k => if Wn / 4 ≤ k then ow k else swO (inLs L) own0 k
def rzA (adr0 : Nat → Option Nat) (tp : Nat → Nat) (L : List Nat) : Nat → Option Nat := fun o => if o ∈ L then some (tp o) else adr0 o
def okR (kp Wn : Nat) (adr : Nat → Option Nat) : Nat → Bool := fun o => !isOldR kp Wn adr o
def Rz (made Wn : Nat) (fl : Nat → Nat) (adr0 own0 : Nat → Option Nat) (tp0 : Nat → Nat) (L : List Nat) (ol ow : Nat → Option Nat) (tp : Nat → Nat) : Prop :=
  lay fl Wn L (own0, tp0) = some (ow, tp) ∧ (∀ i, i < L.length → ol i = adr0 (L.getD i 0)) ∧ (∀ x ∈ L, x < made ∧ ∃ a, adr0 x = some a ∧ a + fl x < Wn / 4) ∧ Lay made Wn fl (rzA adr0 tp L) (rzO Wn own0 ow L)
theorem rzA_nil (adr0 : Nat → Option Nat) (tp : Nat → Nat) : rzA adr0 tp [] = adr0 := by
  funext o
  unfold rzA
  rw [if_neg List.not_mem_nil]
theorem rzO_nil (Wn : Nat) (own0 : Nat → Option Nat) : rzO Wn own0 own0 [] = own0 := by
  funext k
  unfold rzO
  split
  · rfl
  · unfold swO inLs
    cases own0 k with
    | none => rfl
    | some o => simp
theorem Rz_nil {made Wn : Nat} {fl : Nat → Nat} {adr0 own0 : Nat → Option Nat} {tp0 : Nat → Nat} {ol : Nat → Option Nat} (h : Lay made Wn fl adr0 own0) : Rz made Wn fl adr0 own0 tp0 [] ol own0 tp0 :=
  ⟨rfl, fun i hi => absurd hi (Nat.not_lt_zero _), fun x hx => absurd hx List.not_mem_nil, by rw [rzA_nil, rzO_nil]; exact h⟩
theorem mem_snoc {L : List Nat} {k x : Nat} : x ∈ L ++ [k] ↔ x ∈ L ∨ x = k := by
  rw [List.mem_append, List.mem_singleton]
theorem rzA_push {adr0 : Nat → Option Nat} {tp : Nat → Nat} {L : List Nat} {k p : Nat} : va_up (rzA adr0 tp L) k (some p) = rzA adr0 (va_up tp k p) (L ++ [k]) := by
  funext o
  unfold va_up rzA
  by_cases e : o = k
  · rw [if_pos e, if_pos (mem_snoc.mpr (Or.inr e))]
    show some p = some (if o = k then p else tp o)
    rw [if_pos e]
  · rw [if_neg e]
    by_cases h : o ∈ L
    · rw [if_pos h, if_pos (mem_snoc.mpr (Or.inl h))]
      show some (tp o) = some (if o = k then p else tp o)
      rw [if_neg e]
    · rw [if_neg h, if_neg (fun z => (mem_snoc.mp z).elim h e)]
theorem rzO_push {made Wn : Nat} {fl : Nat → Nat} {adr0 own0 ow : Nat → Option Nat} {L : List Nat} {k a p : Nat} (hL : Lay made Wn fl adr0 own0) (hk : k < made) (ha : adr0 k = some a) (hy : a + fl k < Wn / 4) (hp : Wn / 4 ≤ p) : fillO (fillO (rzO Wn own0 ow L) a (fl k + 1) none) p (fl k + 1) (some k) = rzO Wn own0 (fillO ow p (fl k + 1) (some k)) (L ++ [k]) := by
  funext j
  show fillO (fillO (rzO Wn own0 ow L) a (fl k + 1) none) p (fl k + 1) (some k) j = if Wn / 4 ≤ j then fillO ow p (fl k + 1) (some k) j else swO (inLs (L ++ [k])) own0 j
  by_cases h1 : Wn / 4 ≤ j
  · rw [if_pos h1]
    unfold fillO
    by_cases h2 : p ≤ j ∧ j < p + (fl k + 1)
    · rw [if_pos h2, if_pos h2]
    · rw [if_neg h2, if_neg h2, if_neg (by omega)]
      unfold rzO
      rw [if_pos h1]
  · rw [if_neg h1]
    unfold fillO
    rw [if_neg (by omega)]
    by_cases h2 : a ≤ j ∧ j < a + (fl k + 1)
    · rw [if_pos h2]
      have h3 := (hL.1 k a hk ha).2 j h2.1 (by omega)
      unfold swO
      rw [h3]
      simp [inLs]
    · rw [if_neg h2]
      unfold rzO
      rw [if_neg h1]
      unfold swO
      cases h3 : own0 j with
      | none => rfl
      | some o =>
        have e : o ≠ k := fun z => by
          subst z
          obtain ⟨-, b, g2, g3, g4⟩ := hL.2 j o h3
          rw [ha] at g2
          cases g2
          exact h2 ⟨g3, by omega⟩
        simp [inLs, e]
theorem Rz_push {made Wn : Nat} {fl : Nat → Nat} {adr0 own0 : Nat → Option Nat} {tp0 : Nat → Nat} {L : List Nat} {ol ow : Nat → Option Nat} {tp : Nat → Nat} {k a p : Nat} (hR : Rz made Wn fl adr0 own0 tp0 L ol ow tp) (hL : Lay made Wn fl adr0 own0) (hk : k < made) (hn : k ∉ L) (ha : adr0 k = some a) (hy : a + fl k < Wn / 4) (hp : fit ow Wn (Wn / 4) (fl k + 1) = some p) : Rz made Wn fl adr0 own0 tp0 (L ++ [k]) (va_up ol L.length (adr0 k)) (fillO ow p (fl k + 1) (some k)) (va_up tp k p) := by
  obtain ⟨h1, h2, h3, h4⟩ := hR
  have hf := fit_ok (by omega) hp
  refine ⟨?_, fun i hi => ?_, fun x hx => ?_, ?_⟩
  · rw [lay_app, h1]
    show lay fl Wn [k] (ow, tp) = _
    rw [lay_1, lyS_o hp]
  · rw [List.length_append] at hi
    have : [k].length = 1 := rfl
    unfold va_up
    by_cases e : i = L.length
    · rw [if_pos e, e]
      simp [List.getD]
    · rw [if_neg e, getD_pre (by omega)]
      exact h2 i (by omega)
  · rcases mem_snoc.mp hx with hx | rfl
    · exact h3 x hx
    · exact ⟨hk, a, ha, hy⟩
  · rw [← rzA_push, ← rzO_push hL hk ha hy hf.1]
    refine Lay_move h4 hk (by unfold rzA; rw [if_neg hn]; exact ha) (by omega) (fun j g1 g2 => ?_)
    unfold rzO
    rw [if_pos (by omega)]
    exact hf.2.2 j g1 g2
theorem rzO_fit {Wn many : Nat} {own0 ow : Nat → Option Nat} {L : List Nat} : fit (rzO Wn own0 ow L) Wn (Wn / 4) many = fit ow Wn (Wn / 4) many :=
  fit_congr (fun j h _ => by unfold rzO; rw [if_pos h])
theorem lay_ext {fl : Nat → Nat} {Wn : Nat} {L M : List Nat} {s : (Nat → Option Nat) × (Nat → Nat)} (h : lay fl Wn L s = none) : lay fl Wn (L ++ M) s = none := by rw [lay_app, h]; rfl
theorem mtN_ext (ok : Nat → Bool) (f : Nat → Option Nat) (i : Nat) : ∀ (n : Nat) (L : List Nat), ∃ M, mtN ok f (i + n) L = mtN ok f i L ++ M
  | 0, L => ⟨[], (List.append_nil _).symm⟩
  | n + 1, L => by
    obtain ⟨M, hM⟩ := mtN_ext ok f i n L
    obtain ⟨M2, hM2⟩ := mtL_pre ok (mtN ok f (i + n) L) (f (i + n))
    exact ⟨M ++ M2, by rw [← List.append_assoc, ← hM]; exact hM2⟩
theorem cal_X10_raise : mCal yX10_raise cX10_raise 3 1 (some .boolean) := ⟨in_452, by decide +kernel⟩
set_option maxHeartbeats 4000000 in
set_option maxRecDepth 100000 in
theorem r_raise {l : Launch} {dC : Nat → ClassId} {dI : Nat → Nat → Nat} {cI cZ cT : ClassId} {q : Nat → Nat} {thr : Int32} {kp : Nat} {Wn : Nat} {made : Nat} {fl : (Nat → Nat)} {rem : (Nat → Bool)} {num : (Nat → Nat → Int32)} {rfs : (Nat → Nat → Option Nat)} {root : (Nat → Option Nat)} {half : Nat} {top : Nat} {coll : Nat} {mins : Nat} {movd : Nat}  {sz : Nat} {rw : Nat → Nat} {pl ol ow adr0 own0 : Nat → Option Nat} {tp tp0 : Nat → Nat} {L : List Nat} {w : mM} (hR : RW cI cZ q thr kp Wn made (rzA adr0 tp L) fl rem num rfs root (rzO Wn own0 ow L) half top coll mins movd sz rw pl ol w) (hm : made ≤ 2000) (hW : Wn ≤ 400) (hkp : kp = 2) (hfl : ∀ x, x < made → fl x ≤ 6) (hLay : Lay made Wn fl adr0 own0) (hY : ∀ k a, k < made → adr0 k = some a → a < Wn / 4 → a + fl k < Wn / 4) (hLs : Lst made sz rw pl L) (hRz : Rz made Wn fl adr0 own0 tp0 L ol ow tp) (o : Option Nat) (ho : ∀ k, o = some k → k < made ∧ ∃ a, adr0 k = some a) (hB : (mtL (okR kp Wn adr0) L o).length ≤ 400) : mC l yX10_raise (wsY yX10_raise cX10_raise 3 (some .boolean)) { frames := 1, cells := 0, slots := 0, locals := 24 } (dC, dI) vwCl (tyL cI cZ cT) 0 0 w [.ref (q 0), .int (oI (o))] (fun v w2 => (v = some (.int (bI true)) ∧ ∃ (sz2 : Nat) (rw2 : Nat → Nat) (pl2 ol2 ow2 : Nat → Option Nat) (tp2 : Nat → Nat), RW cI cZ q thr kp Wn made (rzA adr0 tp2 (mtL (okR kp Wn adr0) L o)) fl rem num rfs root (rzO Wn own0 ow2 (mtL (okR kp Wn adr0) L o)) half top coll mins movd sz2 rw2 pl2 ol2 w2 ∧ Lst made sz2 rw2 pl2 (mtL (okR kp Wn adr0) L o) ∧ Rz made Wn fl adr0 own0 tp0 (mtL (okR kp Wn adr0) L o) ol2 ow2 tp2) ∨ (v = some (.int (bI false)) ∧ lay fl Wn (mtL (okR kp Wn adr0) L o) (own0, tp0) = none ∧ ∃ Lp : List Nat, Lp.length ≤ 400 ∧ ∃ (sz2 : Nat) (rw2 : Nat → Nat) (pl2 ol2 ow2 : Nat → Option Nat) (tp2 : Nat → Nat), RW cI cZ q thr kp Wn made (rzA adr0 tp2 (Lp)) fl rem num rfs root (rzO Wn own0 ow2 (Lp)) half top coll mins movd sz2 rw2 pl2 ol2 w2 ∧ Lst made sz2 rw2 pl2 (Lp) ∧ Rz made Wn fl adr0 own0 tp0 (Lp) ol2 ow2 tp2)) := by
  refine mC.on (by decide) (Nat.le_of_ble_eq_true rfl) ?_
  intro p e s m args below meth c ls S hr hlk hnm hK hN hG hl
  have hl : lv_has ls 3 [(0, .ref (q 0)), (1, .int (oI (o)))] := hl
  generalize hAe : mA w s.heap.size = A at hG ⊢
  cases o with
  | none =>
    refine lv_iload_n S.1 S.2.1 dX10_raise_0 rfl (lv_at hl 1 rfl) ?_
    refine lv_iconst (v := -1) S.1 S.2.1 dX10_raise_1 (by decide) ?_
    refine lv_icmp_eq (tgt := 23) S.1 S.2.1 dX10_raise_2 (by decide) (fun c1 => ?_) (fun c1 => ?_)
    · refine lv_iconst (v := nI (1)) S.1 S.2.1 dX10_raise_23 (by decide) ?_
      exact mw_zret S hr (by decide) hlk hK hG dX10_raise_24 (Or.inl ⟨rfl, sz, rw, pl, ol, ow, tp, hR, hLs, hRz⟩)
    · exact absurd rfl c1
  | some k =>
    have hl : lv_has ls 3 [(0, .ref (q 0)), (1, .int (nI (k)))] := hl
    obtain ⟨hk, a, ha⟩ := ho k rfl
    have hl0 : L.length ≤ 400 := by
      obtain ⟨M, hM⟩ := mtL_pre (okR kp Wn adr0) L (some k)
      rw [hM, List.length_append] at hB
      omega
    have hfk := hfl k hk
    have hab := (hLay.1 k a hk ha).1
    refine lv_iload_n S.1 S.2.1 dX10_raise_0 rfl (lv_at hl 1 rfl) ?_
    refine lv_iconst (v := -1) S.1 S.2.1 dX10_raise_1 (by decide) ?_
    refine lv_icmp_eq (tgt := 23) S.1 S.2.1 dX10_raise_2 (by decide) (fun c1 => ?_) (fun c1 => ?_)
    · exact absurd c1 (nI_m1 (by omega))
    · refine lv_aload_n S.1 S.2.1 dX10_raise_5 rfl (lv_at hl 0 rfl) ?_
      refine rg_plc S hK hG hR dX10_raise_6 ?_
      refine lv_iload_n S.1 S.2.1 dX10_raise_9 rfl (lv_at hl 1 rfl) ?_
      refine rl_plc S hK hG hR (k) (by omega) dX10_raise_10 ?_
      refine lv_iconst (v := -1) S.1 S.2.1 dX10_raise_11 (by decide) ?_
      refine lv_icmp_ne (tgt := 23) S.1 S.2.1 dX10_raise_12 (by decide) (fun c2 => ?_) (fun c2 => ?_)
      · have hin : k ∈ L := Classical.not_not.mp (fun z => c2 ((oI_m1 (Lst_b hLs hk hl0)).mpr ((hLs.2.2.2.1 k hk).mpr z)))
        refine lv_iconst (v := nI (1)) S.1 S.2.1 dX10_raise_23 (by decide) ?_
        exact mw_zret S hr (by decide) hlk hK hG dX10_raise_24 (Or.inl ⟨rfl, by rw [mtL_no (Or.inr hin)]; exact ⟨sz, rw, pl, ol, ow, tp, hR, hLs, hRz⟩⟩)
      · have hin : k ∉ L := (hLs.2.2.2.1 k hk).mp ((oI_m1 (Lst_b hLs hk hl0)).mp c2)
        have hrk : rzA adr0 tp L k = adr0 k := by unfold rzA; rw [if_neg hin]
        refine lv_aload_n S.1 S.2.1 dX10_raise_15 rfl (lv_at hl 0 rfl) ?_
        refine lv_iload_n S.1 S.2.1 dX10_raise_16 rfl (lv_at hl 1 rfl) ?_
        refine mCV (As := [.int (nI (k))]) (rest := []) S (r_isOld hR k (by omega) hW (by omega) (by rw [hrk, ha]; intro b hb; cases hb; omega)) cal_X10_isOld in_428 in_429 in_430 in_5 hK hN hG hR.obj rfl rfl rfl hl.1 (Nat.le_of_ble_eq_true rfl) ⟨by decide, by decide⟩ ⟨rfl, rfl⟩ ⟨by decide, by decide⟩ dX10_raise_17 (fun v w H locs hp hG => ?_)
        obtain ⟨rfl, hw9⟩ := hp
        rw [hw9] at hG
        rw [isOldR_at hrk]
        refine W.eq (g2 := F0 m 20 ls [.int (bI (isOldR kp Wn adr0 k))]) rfl ?_
        refine lv_if_eq (tgt := 25) S.1 S.2.1 dX10_raise_20 (by decide) (fun c3 => ?_) (fun c3 => ?_)
        · have c3 := bI_f c3
          have hyk : a < Wn / 4 := by
            apply Classical.byContradiction
            intro z
            rw [isOld_o hkp ha z] at c3
            cases c3
          have hy := hY k a hk ha hyk
          have hok : okR kp Wn adr0 k = true := by unfold okR; rw [c3]; rfl
          rw [mtL_yes hok hin] at hB ⊢
          have hlen : (L ++ [k]).length = L.length + 1 := by rw [List.length_append]; rfl
          have hsz : sz = L.length := hLs.2.1
          have hbo : ∀ j x, rzO Wn own0 ow L j = some x → x < 2147483648 := fun j x hx => by have := (hRz.2.2.2.2 j x hx).1; omega
          refine lv_aload_n S.1 S.2.1 dX10_raise_25 rfl (lv_at hl 0 rfl) ?_
          refine lv_aload_n S.1 S.2.1 dX10_raise_26 rfl (lv_at hl 0 rfl) ?_
          refine rg_Wn S hK hG hR dX10_raise_27 ?_
          refine lv_iconst (v := nI (4)) S.1 S.2.1 dX10_raise_30 (by decide) ?_
          refine lv_idiv S.1 S.2.1 dX10_raise_31 (by decide) ?_
          refine lv_eqi (pk_div (by omega) (by omega) (by omega)) ?_
          refine lv_iconst (v := nI (1)) S.1 S.2.1 dX10_raise_32 (by decide) ?_
          refine lv_aload_n S.1 S.2.1 dX10_raise_33 rfl (lv_at hl 0 rfl) ?_
          refine rg_fl S hK hG hR dX10_raise_34 ?_
          refine lv_iload_n S.1 S.2.1 dX10_raise_37 rfl (lv_at hl 1 rfl) ?_
          refine rl_fl S hK hG hR (k) (by omega) dX10_raise_38 ?_
          refine lv_iadd S.1 S.2.1 dX10_raise_39 ?_
          refine lv_eqi (nI_add _ _) ?_
          refine mCV (As := [.int (nI (Wn / 4)), .int (nI (1 + (fl k)))]) (rest := []) S (r_fit hR (Wn / 4) (1 + fl k) (by omega) (by omega) (by omega) hW hbo) cal_X10_fit in_393 in_394 in_395 in_5 hK hN hG hR.obj rfl rfl rfl hl.1 (Nat.le_of_ble_eq_true rfl) ⟨by decide, by decide⟩ ⟨rfl, rfl⟩ ⟨by decide, by decide⟩ dX10_raise_40 (fun v w H locs hp hG => ?_)
          obtain ⟨rfl, hw9⟩ := hp
          rw [hw9] at hG
          rw [rzO_fit, Nat.add_comm 1 (fl k)]
          refine W.eq (g2 := F0 m 43 ls [.int (oI (fit ow Wn (Wn / 4) (fl k + 1)))]) rfl ?_
          cases hft : fit ow Wn (Wn / 4) (fl k + 1) with
          | none =>
            refine W.eq (g2 := F0 m 43 ls [.int (-1)]) rfl ?_
            refine lv_istore_n (lv' := [(2, .int (-1)), (0, .ref (q 0)), (1, .int (nI (k)))]) S.1 S.2.1 dX10_raise_43 rfl hl (by decide) rfl (fun ls hl => ?_)
            refine lv_iload_n S.1 S.2.1 dX10_raise_44 rfl (lv_at hl 0 rfl) ?_
            refine lv_iconst (v := -1) S.1 S.2.1 dX10_raise_45 (by decide) ?_
            refine lv_icmp_ne (tgt := 51) S.1 S.2.1 dX10_raise_46 (by decide) (fun c4 => ?_) (fun c4 => ?_)
            · exact absurd rfl c4
            · refine lv_iconst (v := nI (0)) S.1 S.2.1 dX10_raise_49 (by decide) ?_
              exact mw_zret S hr (by decide) hlk hK hG dX10_raise_50 (Or.inr ⟨rfl, by rw [lay_app, hRz.1]; exact (lay_1 fl Wn k (ow, tp)).trans (lyS_n hft), L, hl0, sz, rw, pl, ol, ow, tp, hR, hLs, hRz⟩)
          | some p0 =>
            refine W.eq (g2 := F0 m 43 ls [.int (nI (p0))]) rfl ?_
            have hf := fit_ok (by omega) hft
            refine lv_istore_n (lv' := [(2, .int (nI (p0))), (0, .ref (q 0)), (1, .int (nI (k)))]) S.1 S.2.1 dX10_raise_43 rfl hl (by decide) rfl (fun ls hl => ?_)
            refine lv_iload_n S.1 S.2.1 dX10_raise_44 rfl (lv_at hl 0 rfl) ?_
            refine lv_iconst (v := -1) S.1 S.2.1 dX10_raise_45 (by decide) ?_
            refine lv_icmp_ne (tgt := 51) S.1 S.2.1 dX10_raise_46 (by decide) (fun c4 => ?_) (fun c4 => ?_)
            · refine lv_aload_n S.1 S.2.1 dX10_raise_51 rfl (lv_at hl 1 rfl) ?_
              refine rg_old S hK hG hR dX10_raise_52 ?_
              refine lv_aload_n S.1 S.2.1 dX10_raise_55 rfl (lv_at hl 1 rfl) ?_
              refine rg_size S hK hG hR dX10_raise_56 ?_
              refine lv_aload_n S.1 S.2.1 dX10_raise_59 rfl (lv_at hl 1 rfl) ?_
              refine rg_adr S hK hG hR dX10_raise_60 ?_
              refine lv_iload_n S.1 S.2.1 dX10_raise_63 rfl (lv_at hl 2 rfl) ?_
              refine rl_adr S hK hG hR (k) (by omega) dX10_raise_64 ?_
              refine lv_eqi (y := oI (adr0 k)) (by rw [hrk]) ?_
              refine rs_old S hK hG hR (sz) (adr0 k) (by omega) dX10_raise_65 (fun w H locs hR hG => ?_)
              refine lv_aload_n S.1 S.2.1 dX10_raise_66 rfl (lv_at hl 1 rfl) ?_
              refine lv_iload_n S.1 S.2.1 dX10_raise_67 rfl (lv_at hl 2 rfl) ?_
              refine mCV (As := [.int (nI (k))]) (rest := []) S (r_leave hR k a (by omega) (hrk.trans ha) (by omega)) cal_X10_leave in_436 in_437 in_438 in_5 hK hN hG hR.obj rfl rfl rfl hl.1 (Nat.le_of_ble_eq_true rfl) ⟨by decide, by decide⟩ ⟨rfl, rfl⟩ ⟨by decide, by decide⟩ dX10_raise_68 (fun v w H locs hp hG => ?_)
              obtain ⟨rfl, hR⟩ := hp
              refine W.eq (g2 := F0 m 71 ls []) rfl ?_
              refine lv_aload_n S.1 S.2.1 dX10_raise_71 rfl (lv_at hl 1 rfl) ?_
              refine lv_iload_n S.1 S.2.1 dX10_raise_72 rfl (lv_at hl 2 rfl) ?_
              refine mCV (As := [.int (nI (k))]) (rest := []) S (r_meet hR hLs (some k) (fun t ht => by cases ht; exact hk) hm (by rw [mtL_out hin]; exact hB)) cal_X10_meet in_416 in_417 in_418 in_5 hK hN hG hR.obj rfl rfl rfl hl.1 (Nat.le_of_ble_eq_true rfl) ⟨by decide, by decide⟩ ⟨rfl, rfl⟩ ⟨by decide, by decide⟩ dX10_raise_73 (fun v w H locs hp hG => ?_)
              obtain ⟨rfl, sz2, rw2, pl2, hR, hLs2⟩ := hp
              refine W.eq (g2 := F0 m 76 ls []) rfl ?_
              refine lv_aload_n S.1 S.2.1 dX10_raise_76 rfl (lv_at hl 1 rfl) ?_
              refine lv_iload_n S.1 S.2.1 dX10_raise_77 rfl (lv_at hl 2 rfl) ?_
              refine lv_iload_n S.1 S.2.1 dX10_raise_78 rfl (lv_at hl 0 rfl) ?_
              refine mCV (As := [.int (nI (k)), .int (nI (p0))]) (rest := []) S (r_lie hR k p0 (by omega) (by omega)) cal_X10_lie in_440 in_441 in_442 in_5 hK hN hG hR.obj rfl rfl rfl hl.1 (Nat.le_of_ble_eq_true rfl) ⟨by decide, by decide⟩ ⟨rfl, rfl⟩ ⟨by decide, by decide⟩ dX10_raise_79 (fun v w H locs hp hG => ?_)
              obtain ⟨rfl, hR⟩ := hp
              rw [rzA_push, rzO_push hLay hk ha hy hf.1, hsz] at hR
              rw [mtL_out hin] at hLs2
              refine W.eq (g2 := F0 m 82 ls []) rfl ?_
              refine lv_iconst (v := nI (1)) S.1 S.2.1 dX10_raise_82 (by decide) ?_
              exact mw_zret S hr (by decide) hlk hK hG dX10_raise_83 (Or.inl ⟨rfl, sz2, rw2, pl2, _, _, _, hR, hLs2, Rz_push hRz hLay hk hin ha hy hft⟩)
            · exact absurd c4 (nI_m1 (by omega))
        · have c3 := bI_t c3
          refine lv_iconst (v := nI (1)) S.1 S.2.1 dX10_raise_23 (by decide) ?_
          exact mw_zret S hr (by decide) hlk hK hG dX10_raise_24 (Or.inl ⟨rfl, by rw [mtL_no (Or.inl (by unfold okR; rw [c3]; rfl))]; exact ⟨sz, rw, pl, ol, ow, tp, hR, hLs, hRz⟩⟩)
theorem cal_X10_raiseFields : mCal yX10_raiseFields cX10_raiseFields 4 1 (some .boolean) := ⟨in_456, by decide +kernel⟩
set_option maxHeartbeats 4000000 in
set_option maxRecDepth 100000 in
theorem r_raiseFields {l : Launch} {dC : Nat → ClassId} {dI : Nat → Nat → Nat} {cI cZ cT : ClassId} {q : Nat → Nat} {thr : Int32} {kp : Nat} {Wn : Nat} {made : Nat} {fl : (Nat → Nat)} {rem : (Nat → Bool)} {num : (Nat → Nat → Int32)} {rfs : (Nat → Nat → Option Nat)} {root : (Nat → Option Nat)} {half : Nat} {top : Nat} {coll : Nat} {mins : Nat} {movd : Nat}  {sz : Nat} {rw : Nat → Nat} {pl ol ow adr0 own0 : Nat → Option Nat} {tp tp0 : Nat → Nat} {L : List Nat} {Kp : Nat → Prop} (hB : ∀ M : List Nat, M.Nodup → (∀ x ∈ M, Kp x) → M.length ≤ 400) (hKm : ∀ x, Kp x → x < made ∧ ∃ a, adr0 x = some a) (hKf : ∀ x, Kp x → ∀ i, i < fl x → ∀ t, rfs x i = some t → Kp t) {w : mM} (hR : RW cI cZ q thr kp Wn made (rzA adr0 tp L) fl rem num rfs root (rzO Wn own0 ow L) half top coll mins movd sz rw pl ol w) (hm : made ≤ 2000) (hW : Wn ≤ 400) (hkp : kp = 2) (hfl : ∀ x, x < made → fl x ≤ 6) (hLay : Lay made Wn fl adr0 own0) (hY : ∀ k a, k < made → adr0 k = some a → a < Wn / 4 → a + fl k < Wn / 4) (hLs : Lst made sz rw pl L) (hRz : Rz made Wn fl adr0 own0 tp0 L ol ow tp) (hKL : ∀ x ∈ L, Kp x) (o : Nat) (ho : Kp o) : mC l yX10_raiseFields (wsY yX10_raiseFields cX10_raiseFields 4 (some .boolean)) { frames := 2, cells := 0, slots := 0, locals := 46 } (dC, dI) vwCl (tyL cI cZ cT) 0 0 w [.ref (q 0), .int (nI (o))] (fun v w2 => (v = some (.int (bI true)) ∧ ∃ (sz2 : Nat) (rw2 : Nat → Nat) (pl2 ol2 ow2 : Nat → Option Nat) (tp2 : Nat → Nat), RW cI cZ q thr kp Wn made (rzA adr0 tp2 (mtN (okR kp Wn adr0) (rfs o) (fl o) L)) fl rem num rfs root (rzO Wn own0 ow2 (mtN (okR kp Wn adr0) (rfs o) (fl o) L)) half top coll mins movd sz2 rw2 pl2 ol2 w2 ∧ Lst made sz2 rw2 pl2 (mtN (okR kp Wn adr0) (rfs o) (fl o) L) ∧ Rz made Wn fl adr0 own0 tp0 (mtN (okR kp Wn adr0) (rfs o) (fl o) L) ol2 ow2 tp2) ∨ (v = some (.int (bI false)) ∧ lay fl Wn (mtN (okR kp Wn adr0) (rfs o) (fl o) L) (own0, tp0) = none ∧ ∃ Lp : List Nat, Lp.length ≤ 400 ∧ ∃ (sz2 : Nat) (rw2 : Nat → Nat) (pl2 ol2 ow2 : Nat → Option Nat) (tp2 : Nat → Nat), RW cI cZ q thr kp Wn made (rzA adr0 tp2 (Lp)) fl rem num rfs root (rzO Wn own0 ow2 (Lp)) half top coll mins movd sz2 rw2 pl2 ol2 w2 ∧ Lst made sz2 rw2 pl2 (Lp) ∧ Rz made Wn fl adr0 own0 tp0 (Lp) ol2 ow2 tp2)) := by
  refine mC.on (by decide) (Nat.le_of_ble_eq_true rfl) ?_
  intro p e s m args below meth c ls S hr hlk hnm hK hN hG hl
  have hl : lv_has ls 4 [(0, .ref (q 0)), (1, .int (nI (o)))] := hl
  generalize hAe : mA w s.heap.size = A at hG ⊢
  have hom := (hKm o ho).1
  have hfo := hfl o hom
  refine lv_iconst (v := bI true) S.1 S.2.1 dX10_raiseFields_0 (by decide) ?_
  refine lv_istore_n (lv' := [(2, .int (bI (true))), (0, .ref (q 0)), (1, .int (nI (o)))]) S.1 S.2.1 dX10_raiseFields_1 rfl hl (by decide) rfl (fun ls hl => ?_)
  refine lv_iconst (v := nI (0)) S.1 S.2.1 dX10_raiseFields_2 (by decide) ?_
  refine lv_istore_n (lv' := [(3, .int (nI (0))), (2, .int (bI (true))), (0, .ref (q 0)), (1, .int (nI (o)))]) S.1 S.2.1 dX10_raiseFields_3 rfl hl (by decide) rfl (fun ls hl => ?_)
  have L1 : ∀ (fu : Nat) (i : Nat) (b : Bool) (Lc : List Nat) (sz : Nat) (rw : Nat → Nat) (pl ol ow : Nat → Option Nat) (tp : Nat → Nat), fl o - i < fu → (i ≤ fl o) → (b = true → mtN (okR kp Wn adr0) (rfs o) i L = Lc) → (b = false → lay fl Wn (mtN (okR kp Wn adr0) (rfs o) i L) (own0, tp0) = none) → (Lst made sz rw pl Lc) → (Rz made Wn fl adr0 own0 tp0 Lc ol ow tp) → (Lc.length ≤ 400) → ∀ (w : mM) (H : Heap) (locs : List Loc), RW cI cZ q thr kp Wn made (rzA adr0 tp Lc) fl rem num rfs root (rzO Wn own0 ow Lc) half top coll mins movd sz rw pl ol w → mG (dC, dI) vwCl A s.heap w H locs → ∀ ls : Array Slot, lv_has ls 4 [(3, .int (nI (i))), (2, .int (bI (b))), (0, .ref (q 0)), (1, .int (nI (o)))] → W p l e { frames := 2, cells := 0, slots := 0, locals := 46 } s m args below meth c H locs 0 0 (MQ below (mQ (dC, dI) vwCl (tyL cI cZ cT) (fun v w2 => (v = some (.int (bI true)) ∧ ∃ (sz2 : Nat) (rw2 : Nat → Nat) (pl2 ol2 ow2 : Nat → Option Nat) (tp2 : Nat → Nat), RW cI cZ q thr kp Wn made (rzA adr0 tp2 (mtN (okR kp Wn adr0) (rfs o) (fl o) L)) fl rem num rfs root (rzO Wn own0 ow2 (mtN (okR kp Wn adr0) (rfs o) (fl o) L)) half top coll mins movd sz2 rw2 pl2 ol2 w2 ∧ Lst made sz2 rw2 pl2 (mtN (okR kp Wn adr0) (rfs o) (fl o) L) ∧ Rz made Wn fl adr0 own0 tp0 (mtN (okR kp Wn adr0) (rfs o) (fl o) L) ol2 ow2 tp2) ∨ (v = some (.int (bI false)) ∧ lay fl Wn (mtN (okR kp Wn adr0) (rfs o) (fl o) L) (own0, tp0) = none ∧ ∃ Lp : List Nat, Lp.length ≤ 400 ∧ ∃ (sz2 : Nat) (rw2 : Nat → Nat) (pl2 ol2 ow2 : Nat → Option Nat) (tp2 : Nat → Nat), RW cI cZ q thr kp Wn made (rzA adr0 tp2 (Lp)) fl rem num rfs root (rzO Wn own0 ow2 (Lp)) half top coll mins movd sz2 rw2 pl2 ol2 w2 ∧ Lst made sz2 rw2 pl2 (Lp) ∧ Rz made Wn fl adr0 own0 tp0 (Lp) ol2 ow2 tp2)) A) args s 0 0 A) (F0 m 4 ls []) := by
    intro fu
    induction fu with
    | zero => intro i b Lc sz rw pl ol ow tp h1; exact absurd h1 (Nat.not_lt_zero _)
    | succ fu ihL1 =>
      intro i b Lc sz rw pl ol ow tp h1 h2 hT hN2 hLs hRz h4 w H locs hR hG ls hl
      refine lv_iload_n S.1 S.2.1 dX10_raiseFields_4 rfl (lv_at hl 0 rfl) ?_
      refine lv_aload_n S.1 S.2.1 dX10_raiseFields_5 rfl (lv_at hl 2 rfl) ?_
      refine rg_fl S hK hG hR dX10_raiseFields_6 ?_
      refine lv_iload_n S.1 S.2.1 dX10_raiseFields_9 rfl (lv_at hl 3 rfl) ?_
      refine rl_fl S hK hG hR (o) (by omega) dX10_raiseFields_10 ?_
      refine lv_icmp_ge (tgt := 40) S.1 S.2.1 dX10_raiseFields_11 (by decide) (fun c1 => ?_) (fun c1 => ?_)
      · have c1 : (fl o) ≤ i := (nI_leI (a := fl o) (b := i) (by omega) (by omega)).mp c1
        have hi : i = fl o := by omega
        subst hi
        refine lv_iload_n S.1 S.2.1 dX10_raiseFields_40 rfl (lv_at hl 1 rfl) ?_
        cases b with
        | true => exact mw_zret S hr (by decide) hlk hK hG dX10_raiseFields_41 (Or.inl ⟨rfl, by rw [hT rfl]; exact ⟨sz, rw, pl, ol, ow, tp, hR, hLs, hRz⟩⟩)
        | false => exact mw_zret S hr (by decide) hlk hK hG dX10_raiseFields_41 (Or.inr ⟨rfl, hN2 rfl, Lc, h4, sz, rw, pl, ol, ow, tp, hR, hLs, hRz⟩)
      · have c1 : ¬ ((fl o) ≤ i) := fun h9 => c1 ((nI_leI (a := fl o) (b := i) (by omega) (by omega)).mpr h9)
        refine lv_iload_n S.1 S.2.1 dX10_raiseFields_14 rfl (lv_at hl 1 rfl) ?_
        refine lv_if_eq (tgt := 40) S.1 S.2.1 dX10_raiseFields_15 (by decide) (fun c2 => ?_) (fun c2 => ?_)
        · have c2 := bI_f c2
          subst c2
          refine lv_iload_n S.1 S.2.1 dX10_raiseFields_40 rfl (lv_at hl 1 rfl) ?_
          obtain ⟨n9, hn9⟩ : ∃ n9, fl o = i + n9 := ⟨fl o - i, by omega⟩
          obtain ⟨M, hM⟩ := mtN_ext (okR kp Wn adr0) (rfs o) i n9 L
          exact mw_zret S hr (by decide) hlk hK hG dX10_raiseFields_41 (Or.inr ⟨rfl, by rw [hn9, hM]; exact lay_ext (hN2 rfl), Lc, h4, sz, rw, pl, ol, ow, tp, hR, hLs, hRz⟩)
        · have c2 := bI_t c2
          subst c2
          have hT := hT rfl
          subst hT
          have hKd : ∀ x ∈ mtN (okR kp Wn adr0) (rfs o) i L, Kp x := mtN_all hKL i (fun i2 hi3 t ht _ => hKf _ ho i2 (by omega) t ht)
          refine lv_aload_n S.1 S.2.1 dX10_raiseFields_18 rfl (lv_at hl 2 rfl) ?_
          refine lv_aload_n S.1 S.2.1 dX10_raiseFields_19 rfl (lv_at hl 2 rfl) ?_
          refine rg_rfs S hK hG hR dX10_raiseFields_20 ?_
          refine lv_bipush (v := nI (6)) S.1 S.2.1 dX10_raiseFields_23 (by decide) ?_
          refine lv_iload_n S.1 S.2.1 dX10_raiseFields_25 rfl (lv_at hl 3 rfl) ?_
          refine lv_imul S.1 S.2.1 dX10_raiseFields_26 ?_
          refine lv_eqi (pk_mul _ _) ?_
          refine lv_iload_n S.1 S.2.1 dX10_raiseFields_27 rfl (lv_at hl 0 rfl) ?_
          refine lv_iadd S.1 S.2.1 dX10_raiseFields_28 ?_
          refine lv_eqi (nI_add _ _) ?_
          refine rl_rfs S hK hG hR (o) (i) (by omega) (by omega) dX10_raiseFields_29 ?_
          refine mCV (As := [.int (oI (rfs o i))]) (rest := []) S (r_raise hR hm hW hkp hfl hLay hY hLs hRz (rfs o i) (fun t ht => hKm _ (hKf _ ho i (by omega) t ht)) (hB _ (mtL_nd hLs.1) (mtL_all hKd (fun t ht _ => hKf _ ho i (by omega) t ht)))) cal_X10_raise in_449 in_450 in_451 in_5 hK hN hG hR.obj rfl rfl rfl hl.1 (Nat.le_of_ble_eq_true rfl) ⟨by decide, by decide⟩ ⟨rfl, rfl⟩ ⟨by decide, by decide⟩ dX10_raiseFields_30 (fun v w H locs hp hG => ?_)
          rcases hp with ⟨rfl, sz2, rw2, pl2, ol2, ow2, tp2, hR, hLs2, hRz2⟩ | ⟨rfl, hno, Lp, h5, sz2, rw2, pl2, ol2, ow2, tp2, hR, hLs2, hRz2⟩
          · refine W.eq (g2 := F0 m 33 ls [.int (bI (true))]) rfl ?_
            refine lv_istore_n (lv' := [(2, .int (bI (true))), (3, .int (nI (i))), (0, .ref (q 0)), (1, .int (nI (o)))]) S.1 S.2.1 dX10_raiseFields_33 rfl hl (by decide) rfl (fun ls hl => ?_)
            refine lv_iinc (v := nI (i + 1)) (lv' := [(3, .int (nI (i + 1))), (2, .int (bI (true))), (0, .ref (q 0)), (1, .int (nI (o)))]) S.1 S.2.1 dX10_raiseFields_34 hl (k := 1) rfl (nI_1 _) (by decide) rfl (fun ls hl => ?_)
            refine lv_goto (tgt := 4) S.1 S.2.1 dX10_raiseFields_37 (by decide) ?_
            exact ihL1 (i + 1) true (mtN (okR kp Wn adr0) (rfs o) (i + 1) L) sz2 rw2 pl2 ol2 ow2 tp2 (by omega) (by omega) (fun _ => rfl) (fun z => nomatch z) hLs2 hRz2 (hB _ hLs2.1 (mtL_all hKd (fun t ht _ => hKf _ ho i (by omega) t ht))) _ _ _ hR hG ls (lv_sub hl [0, 1, 2, 3] rfl)
          · refine W.eq (g2 := F0 m 33 ls [.int (bI (false))]) rfl ?_
            refine lv_istore_n (lv' := [(2, .int (bI (false))), (3, .int (nI (i))), (0, .ref (q 0)), (1, .int (nI (o)))]) S.1 S.2.1 dX10_raiseFields_33 rfl hl (by decide) rfl (fun ls hl => ?_)
            refine lv_iinc (v := nI (i + 1)) (lv' := [(3, .int (nI (i + 1))), (2, .int (bI (false))), (0, .ref (q 0)), (1, .int (nI (o)))]) S.1 S.2.1 dX10_raiseFields_34 hl (k := 1) rfl (nI_1 _) (by decide) rfl (fun ls hl => ?_)
            refine lv_goto (tgt := 4) S.1 S.2.1 dX10_raiseFields_37 (by decide) ?_
            exact ihL1 (i + 1) false (Lp) sz2 rw2 pl2 ol2 ow2 tp2 (by omega) (by omega) (fun z => nomatch z) (fun _ => hno) hLs2 hRz2 h5 _ _ _ hR hG ls (lv_sub hl [0, 1, 2, 3] rfl)
  exact L1 (fl o + 1) 0 true L sz rw pl ol ow tp (by omega) (by omega) (fun _ => rfl) (fun z => nomatch z) hLs hRz (hB L hLs.1 hKL) _ _ _ (hR) hG ls (lv_sub hl [0, 1, 2, 3] rfl)
