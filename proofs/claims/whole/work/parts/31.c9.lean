def tgO (t : Int32 ⊕ (Nat × Nat)) : Option Nat := match t with | .inl _ => none | .inr (o, _) => some o
def rtA (root : Nat → Option Nat) (x : Int32) : Option Nat := if inR 16 x = true then root x.toNatClampNeg else none
theorem tgt_rn {fl : Nat → Nat} {root : Nat → Option Nat} {x f : Int32} (h : rtA root x = none) : tgO (tgt fl root x f) = none := by
  unfold rtA at h
  unfold tgt
  by_cases hx : inR 16 x = true
  · rw [if_pos hx] at h
    by_cases hf : inR 6 f = true
    · rw [if_pos ⟨hx, hf⟩, h]; rfl
    · rw [if_neg (fun z => hf z.2)]; rfl
  · rw [if_neg (fun z => hx z.1)]; rfl
theorem rtA_s {root : Nat → Option Nat} {x : Int32} {t : Nat} (h : rtA root x = some t) : ∃ j, j < 16 ∧ x = nI j ∧ root j = some t := by
  unfold rtA at h
  by_cases hx : inR 16 x = true
  · rw [if_pos hx] at h
    obtain ⟨j, hj, rfl⟩ := inR_ex (by decide) hx
    rw [nI_clamp (by omega)] at h
    exact ⟨j, hj, rfl, h⟩
  · rw [if_neg hx] at h; cases h
theorem tgt_rf {fl : Nat → Nat} {root : Nat → Option Nat} {x f : Int32} {t : Nat} (h : rtA root x = some t) (h6b : fl t ≤ 6) (hf : inR (fl t) f = false) : tgO (tgt fl root x f) = none := by
  obtain ⟨j, hj, rfl, hr⟩ := rtA_s h
  by_cases h6 : inR 6 f = true
  · obtain ⟨i, hi, rfl⟩ := inR_ex (by decide) h6
    rw [tgt_b3 hj hi hr (fun z => by rw [inR_nI z (by omega)] at hf; cases hf)]
    rfl
  · rw [tgt_b2 (by cases hz : inR 6 f with | false => rfl | true => exact absurd hz h6)]; rfl
theorem tgt_rt {fl : Nat → Nat} {root : Nat → Option Nat} {x f : Int32} {t : Nat} (h : rtA root x = some t) (h6 : fl t ≤ 6) (hf : inR (fl t) f = true) : tgO (tgt fl root x f) = some t := by
  obtain ⟨j, hj, rfl, hr⟩ := rtA_s h
  obtain ⟨i, hi, rfl⟩ := inR_ex (by omega) hf
  rw [tgt_o hj (by omega) hr hi]
  rfl
theorem tgO_inl {t : Int32 ⊕ (Nat × Nat)} (h : tgO t = none) : ∃ c, t = .inl c := by
  cases t with
  | inl c => exact ⟨c, rfl⟩
  | inr p => cases h
theorem tgO_inr {t : Int32 ⊕ (Nat × Nat)} {o : Nat} (h : tgO t = some o) : ∃ i, t = .inr (o, i) := by
  cases t with
  | inl c => cases h
  | inr p => cases h; exact ⟨p.2, rfl⟩
def isOldC (kp Wn : Nat) (tad : Nat → Nat) (k : Nat) : Bool := decide (kp = 2) && decide (Wn / 4 ≤ tad k)
theorem up_self {α : Type} (f : Nat → α) (k : Nat) : va_up f k (f k) = f := by
  funext j
  unfold va_up
  by_cases h : j = k
  · rw [if_pos h, h]
  · rw [if_neg h]
theorem cal_X9_asNumber : mCal yX9_asNumber cX9_asNumber 1 1 (some .int) := ⟨in_513, by decide +kernel⟩
set_option maxHeartbeats 4000000 in
set_option maxRecDepth 100000 in
theorem h_asNumber {l : Launch} {dC : Nat → ClassId} {dI : Nat → Nat → Nat} {cI cZ cT : ClassId} {q : Nat → Nat} {kp : Nat} {Wn : Nat} {made : Nat} {fl : (Nat → Nat)} {num : (Nat → Nat → Int32)} {rfs : (Nat → Nat → Option Nat)} {root : (Nat → Option Nat)} {own : (Nat → Option Nat)} {tad : (Nat → Nat)} {trm : (Nat → Bool)} {tpl : (Nat → Nat)} {wlk : (Nat → Nat)} {ord : (Nat → Nat)} {met : (Nat → Option Nat)} {msz : Nat} {cur : Nat} {mend : Nat} {pnx : Nat} {pen : Nat} {st : Nat} {coll : Nat} {mins : Nat} {movd : Nat} {w : mM} (hC : CW cI cT q kp Wn made fl num rfs root own tad trm tpl wlk ord met msz cur mend pnx pen st coll mins movd w) (b : Bool) : mC l yX9_asNumber (wsY yX9_asNumber cX9_asNumber 1 (some .int)) { frames := 0, cells := 0, slots := 0, locals := 0 } (dC, dI) vwCl (tyL cI cZ cT) 0 0 w [.int (bI (b))] (fun v w2 => v = some (.int (bI b)) ∧ w2 = w) := by
  refine mC.on (by decide) (Nat.le_of_ble_eq_true rfl) ?_
  intro p e s m args below meth c ls S hr hlk hnm hK hN hG hl
  have hl : lv_has ls 1 [(0, .int (bI (b)))] := hl
  generalize hAe : mA w s.heap.size = A at hG ⊢
  refine lv_iload_n S.1 S.2.1 dX9_asNumber_0 rfl (lv_at hl 0 rfl) ?_
  refine lv_if_eq (tgt := 8) S.1 S.2.1 dX9_asNumber_1 (by decide) (fun c1 => ?_) (fun c1 => ?_)
  · refine lv_iconst (v := nI (0)) S.1 S.2.1 dX9_asNumber_8 (by decide) ?_
    exact mw_iret S hr hlk hK hG dX9_asNumber_9 ⟨by rw [bI_f c1]; rfl, rfl⟩
  · refine lv_iconst (v := nI (1)) S.1 S.2.1 dX9_asNumber_4 (by decide) ?_
    refine lv_goto (tgt := 9) S.1 S.2.1 dX9_asNumber_5 (by decide) ?_
    exact mw_iret S hr hlk hK hG dX9_asNumber_9 ⟨by rw [bI_t c1]; rfl, rfl⟩
theorem cal_X9_nameOf : mCal yX9_nameOf cX9_nameOf 1 1 (some .int) := ⟨in_544, by decide +kernel⟩
set_option maxHeartbeats 4000000 in
set_option maxRecDepth 100000 in
theorem h_nameOf {l : Launch} {dC : Nat → ClassId} {dI : Nat → Nat → Nat} {cI cZ cT : ClassId} {q : Nat → Nat} {kp : Nat} {Wn : Nat} {made : Nat} {fl : (Nat → Nat)} {num : (Nat → Nat → Int32)} {rfs : (Nat → Nat → Option Nat)} {root : (Nat → Option Nat)} {own : (Nat → Option Nat)} {tad : (Nat → Nat)} {trm : (Nat → Bool)} {tpl : (Nat → Nat)} {wlk : (Nat → Nat)} {ord : (Nat → Nat)} {met : (Nat → Option Nat)} {msz : Nat} {cur : Nat} {mend : Nat} {pnx : Nat} {pen : Nat} {st : Nat} {coll : Nat} {mins : Nat} {movd : Nat} {w : mM} (hC : CW cI cT q kp Wn made fl num rfs root own tad trm tpl wlk ord met msz cur mend pnx pen st coll mins movd w) (o : Option Nat) (ho : ∀ t, o = some t → t < made) : mC l yX9_nameOf (wsY yX9_nameOf cX9_nameOf 1 (some .int)) { frames := 0, cells := 0, slots := 0, locals := 0 } (dC, dI) vwCl (tyL cI cZ cT) 0 0 w [va_rf ((o).map (tq q))] (fun v w2 => v = some (.int (oI o)) ∧ w2 = w) := by
  refine mC.on (by decide) (by cases o <;> exact Nat.le_of_ble_eq_true rfl) ?_
  intro p e s m args below meth c ls S hr hlk hnm hK hN hG hl
  have hl : lv_has ls 1 [(0, va_rf ((o).map (tq q)))] := (by cases o <;> exact hl)
  generalize hAe : mA w s.heap.size = A at hG ⊢
  refine lw_aload_n S.1 S.2.1 dX9_nameOf_0 rfl (lv_at hl 0 rfl) ?_
  refine lw_ifnonnull (x := o) (tgt := 8) S.1 S.2.1 dX9_nameOf_1 (by decide) (fun c1 => ?_) (fun t c1 => ?_)
  · refine lv_iconst (v := -1) S.1 S.2.1 dX9_nameOf_4 (by decide) ?_
    refine lv_goto (tgt := 12) S.1 S.2.1 dX9_nameOf_5 (by decide) ?_
    exact mw_iret S hr hlk hK hG dX9_nameOf_12 ⟨by rw [c1]; rfl, rfl⟩
  · subst c1
    have htm := ho t rfl
    have hl : lv_has ls 1 [(0, .ref (tq q t))] := hl
    refine lv_aload_n S.1 S.2.1 dX9_nameOf_8 rfl (lv_at hl 0 rfl) ?_
    refine cg_RX9_66 S hK hG hC (t) (by omega) dX9_nameOf_9 ?_
    exact mw_iret S hr hlk hK hG dX9_nameOf_12 ⟨rfl, rfl⟩
theorem cal_X9_holderOf : mCal yX9_holderOf cX9_holderOf 4 2 (some (.object "KeptHeap$Thing")) := ⟨in_464, by decide +kernel⟩
set_option maxHeartbeats 4000000 in
set_option maxRecDepth 100000 in
theorem h_holderOf {l : Launch} {dC : Nat → ClassId} {dI : Nat → Nat → Nat} {cI cZ cT : ClassId} {q : Nat → Nat} {kp : Nat} {Wn : Nat} {made : Nat} {fl : (Nat → Nat)} {num : (Nat → Nat → Int32)} {rfs : (Nat → Nat → Option Nat)} {root : (Nat → Option Nat)} {own : (Nat → Option Nat)} {tad : (Nat → Nat)} {trm : (Nat → Bool)} {tpl : (Nat → Nat)} {wlk : (Nat → Nat)} {ord : (Nat → Nat)} {met : (Nat → Option Nat)} {msz : Nat} {cur : Nat} {mend : Nat} {pnx : Nat} {pen : Nat} {st : Nat} {coll : Nat} {mins : Nat} {movd : Nat} {w : mM} (hC : CW cI cT q kp Wn made fl num rfs root own tad trm tpl wlk ord met msz cur mend pnx pen st coll mins movd w) (hW4 : Wn ≤ 400) (hrb : ∀ j, j < 16 → ∀ o, root j = some o → o < made) (hfl : ∀ o, o < made → fl o ≤ 6) (x f : Int32) : mC l yX9_holderOf (wsY yX9_holderOf cX9_holderOf 4 (some (.object "KeptHeap$Thing"))) { frames := 2, cells := 0, slots := 0, locals := 42 } (dC, dI) vwCl (tyL cI cZ cT) 0 0 w [.ref (q 0), .int (x), .int (f)] (fun v w2 => v = some (va_rf ((tgO (tgt fl root x f)).map (tq q))) ∧ w2 = w) := by
  refine mC.on (by decide) (Nat.le_of_ble_eq_true rfl) ?_
  intro p e s m args below meth c ls S hr hlk hnm hK hN hG hl
  have hl : lv_has ls 4 [(0, .ref (q 0)), (1, .int (x)), (2, .int (f))] := hl
  generalize hAe : mA w s.heap.size = A at hG ⊢
  refine lv_aload_n S.1 S.2.1 dX9_holderOf_0 rfl (lv_at hl 0 rfl) ?_
  refine cg_RX9_25 S hK hG hC dX9_holderOf_1 ?_
  refine lv_iload_n S.1 S.2.1 dX9_holderOf_4 rfl (lv_at hl 1 rfl) ?_
  refine mCV (As := [.int (x)]) (rest := []) S (o_thingOf hC (by omega) x) cal_X4_thingOf in_465 in_196 in_197 in_21 hK hN hG hC.obj4 rfl rfl rfl hl.1 (Nat.le_of_ble_eq_true rfl) ⟨by decide, by decide⟩ ⟨rfl, rfl⟩ ⟨by decide, by decide⟩ dX9_holderOf_5 (fun v w H locs hp hG => ?_)
  obtain ⟨rfl, hw9⟩ := hp
  have hw9 := hw9.symm
  subst hw9
  refine W.eq (g2 := F0 m 8 ls [va_rf ((rtA root x).map (tq q))]) rfl ?_
  refine lw_astore_n (lv' := [(3, va_rf ((rtA root x).map (tq q))), (0, .ref (q 0)), (1, .int (x)), (2, .int (f))]) S.1 S.2.1 dX9_holderOf_8 rfl hl (by decide) rfl (fun ls hl => ?_)
  refine lw_aload_n S.1 S.2.1 dX9_holderOf_9 rfl (lv_at hl 0 rfl) ?_
  refine lw_ifnull (x := rtA root x) (tgt := 25) S.1 S.2.1 dX9_holderOf_10 (by decide) (fun c1 => ?_) (fun t c1 => ?_)
  · refine lv_null S.1 S.2.1 dX9_holderOf_25 ?_
    exact mw_aret (r := none) S hr hlk hK hG dX9_holderOf_26 ⟨by rw [tgt_rn c1]; rfl, rfl⟩
  · obtain ⟨j, hj, hxj, hjt⟩ := rtA_s c1
    have htm := hrb j hj t hjt
    have htf := hfl t htm
    rw [c1] at hl
    have hl : lv_has ls 4 [(3, .ref (tq q t)), (0, .ref (q 0)), (1, .int (x)), (2, .int (f))] := hl
    refine lv_aload_n S.1 S.2.1 dX9_holderOf_13 rfl (lv_at hl 0 rfl) ?_
    refine lv_iload_n S.1 S.2.1 dX9_holderOf_14 rfl (lv_at hl 3 rfl) ?_
    refine mCV (As := [.int (f)]) (rest := []) S (t_has hC t htm htf f) cal_X6_has in_466 in_467 in_468 in_142 hK hN hG (hC.th htm) rfl rfl rfl hl.1 (Nat.le_of_ble_eq_true rfl) ⟨by decide, by decide⟩ ⟨rfl, rfl⟩ ⟨by decide, by decide⟩ dX9_holderOf_15 (fun v w H locs hp hG => ?_)
    obtain ⟨rfl, hw9⟩ := hp
    have hw9 := hw9.symm
    subst hw9
    refine W.eq (g2 := F0 m 18 ls [.int (bI (inR (fl t) f))]) rfl ?_
    refine lv_if_eq (tgt := 25) S.1 S.2.1 dX9_holderOf_18 (by decide) (fun c2 => ?_) (fun c2 => ?_)
    · refine lv_null S.1 S.2.1 dX9_holderOf_25 ?_
      exact mw_aret (r := none) S hr hlk hK hG dX9_holderOf_26 ⟨by rw [tgt_rf c1 htf (bI_f c2)]; rfl, rfl⟩
    · refine lv_aload_n S.1 S.2.1 dX9_holderOf_21 rfl (lv_at hl 0 rfl) ?_
      refine lv_goto (tgt := 26) S.1 S.2.1 dX9_holderOf_22 (by decide) ?_
      exact mw_aret (r := some (tq q t)) S hr hlk hK hG dX9_holderOf_26 ⟨by rw [tgt_rt c1 htf (bI_t c2)]; rfl, rfl⟩
theorem cal_X9_whyNoHolder : mCal yX9_whyNoHolder cX9_whyNoHolder 3 2 (some .int) := ⟨in_473, by decide +kernel⟩
set_option maxHeartbeats 4000000 in
set_option maxRecDepth 100000 in
theorem h_whyNoHolder {l : Launch} {dC : Nat → ClassId} {dI : Nat → Nat → Nat} {cI cZ cT : ClassId} {q : Nat → Nat} {kp : Nat} {Wn : Nat} {made : Nat} {fl : (Nat → Nat)} {num : (Nat → Nat → Int32)} {rfs : (Nat → Nat → Option Nat)} {root : (Nat → Option Nat)} {own : (Nat → Option Nat)} {tad : (Nat → Nat)} {trm : (Nat → Bool)} {tpl : (Nat → Nat)} {wlk : (Nat → Nat)} {ord : (Nat → Nat)} {met : (Nat → Option Nat)} {msz : Nat} {cur : Nat} {mend : Nat} {pnx : Nat} {pen : Nat} {st : Nat} {coll : Nat} {mins : Nat} {movd : Nat} {w : mM} (hC : CW cI cT q kp Wn made fl num rfs root own tad trm tpl wlk ord met msz cur mend pnx pen st coll mins movd w) (hW4 : Wn ≤ 400) (hrb : ∀ j, j < 16 → ∀ o, root j = some o → o < made) (hfl : ∀ o, o < made → fl o ≤ 6) (x f cd : Int32) (ht : tgt fl root x f = .inl cd) : mC l yX9_whyNoHolder (wsY yX9_whyNoHolder cX9_whyNoHolder 3 (some .int)) { frames := 2, cells := 0, slots := 0, locals := 42 } (dC, dI) vwCl (tyL cI cZ cT) 0 0 w [.ref (q 0), .int (x), .int (f)] (fun v w2 => v = some (.int (cd)) ∧ w2 = w) := by
  refine mC.on (by decide) (Nat.le_of_ble_eq_true rfl) ?_
  intro p e s m args below meth c ls S hr hlk hnm hK hN hG hl
  have hl : lv_has ls 3 [(0, .ref (q 0)), (1, .int (x)), (2, .int (f))] := hl
  generalize hAe : mA w s.heap.size = A at hG ⊢
  refine lv_aload_n S.1 S.2.1 dX9_whyNoHolder_0 rfl (lv_at hl 0 rfl) ?_
  refine cg_RX9_25 S hK hG hC dX9_whyNoHolder_1 ?_
  refine lv_iload_n S.1 S.2.1 dX9_whyNoHolder_4 rfl (lv_at hl 1 rfl) ?_
  refine mCV (As := [.int (x)]) (rest := []) S (o_has hC x) cal_X4_has in_144 in_145 in_146 in_21 hK hN hG hC.obj4 rfl rfl rfl hl.1 (Nat.le_of_ble_eq_true rfl) ⟨by decide, by decide⟩ ⟨rfl, rfl⟩ ⟨by decide, by decide⟩ dX9_whyNoHolder_5 (fun v w H locs hp hG => ?_)
  obtain ⟨rfl, hw9⟩ := hp
  have hw9 := hw9.symm
  subst hw9
  refine W.eq (g2 := F0 m 8 ls [.int (bI (inR 16 x))]) rfl ?_
  refine lv_if_eq (tgt := 21) S.1 S.2.1 dX9_whyNoHolder_8 (by decide) (fun c1 => ?_) (fun c1 => ?_)
  · refine lv_bipush (v := -2) S.1 S.2.1 dX9_whyNoHolder_21 (by decide) ?_
    exact mw_iret S hr hlk hK hG dX9_whyNoHolder_23 ⟨by rw [tgt_b1 (bI_f c1)] at ht; cases ht; rfl, rfl⟩
  · refine lv_iload_n S.1 S.2.1 dX9_whyNoHolder_11 rfl (lv_at hl 2 rfl) ?_
    refine lv_if_lt (tgt := 21) S.1 S.2.1 dX9_whyNoHolder_12 (by decide) (fun c2 => ?_) (fun c2 => ?_)
    · refine lv_bipush (v := -2) S.1 S.2.1 dX9_whyNoHolder_21 (by decide) ?_
      exact mw_iret S hr hlk hK hG dX9_whyNoHolder_23 ⟨by rw [tgt_b2 (inR_lo c2)] at ht; cases ht; rfl, rfl⟩
    · refine lv_iload_n S.1 S.2.1 dX9_whyNoHolder_15 rfl (lv_at hl 2 rfl) ?_
      refine lv_bipush (v := nI (6)) S.1 S.2.1 dX9_whyNoHolder_16 (by decide) ?_
      refine lv_icmp_lt (tgt := 24) S.1 S.2.1 dX9_whyNoHolder_18 (by decide) (fun c3 => ?_) (fun c3 => ?_)
      · obtain ⟨j, hj, rfl⟩ := inR_ex (by decide) (bI_t c1)
        obtain ⟨i, hi, rfl⟩ := inR_ex (by decide) (inR_t (n := 6) (by decide) c2 (Int32.not_le.mpr c3))
        refine lv_aload_n S.1 S.2.1 dX9_whyNoHolder_24 rfl (lv_at hl 0 rfl) ?_
        refine cg_RX9_25 S hK hG hC dX9_whyNoHolder_25 ?_
        refine lv_iload_n S.1 S.2.1 dX9_whyNoHolder_28 rfl (lv_at hl 1 rfl) ?_
        refine mCV (As := [.int (nI (j))]) (rest := []) S (o_thingOf hC (by omega) (nI j)) cal_X4_thingOf in_465 in_196 in_197 in_21 hK hN hG hC.obj4 rfl rfl rfl hl.1 (Nat.le_of_ble_eq_true rfl) ⟨by decide, by decide⟩ ⟨rfl, rfl⟩ ⟨by decide, by decide⟩ dX9_whyNoHolder_29 (fun v w H locs hp hG => ?_)
        obtain ⟨rfl, hw9⟩ := hp
        have hw9 := hw9.symm
        subst hw9
        rw [if_pos (inR_nI hj (by omega)), nI_clamp (by omega)]
        refine W.eq (g2 := F0 m 32 ls [va_rf ((root j).map (tq q))]) rfl ?_
        refine lw_ifnonnull (x := root j) (tgt := 40) S.1 S.2.1 dX9_whyNoHolder_32 (by decide) (fun c4 => ?_) (fun t c4 => ?_)
        · refine lv_bipush (v := -3) S.1 S.2.1 dX9_whyNoHolder_35 (by decide) ?_
          refine lv_goto (tgt := 42) S.1 S.2.1 dX9_whyNoHolder_37 (by decide) ?_
          exact mw_iret S hr hlk hK hG dX9_whyNoHolder_42 ⟨by rw [tgt_n hj hi c4] at ht; cases ht; rfl, rfl⟩
        · refine lv_bipush (v := -2) S.1 S.2.1 dX9_whyNoHolder_40 (by decide) ?_
          exact mw_iret S hr hlk hK hG dX9_whyNoHolder_42 ⟨by rw [tgt_in hj hi, c4] at ht; dsimp only at ht; split at ht <;> cases ht; rfl, rfl⟩
      · refine lv_bipush (v := -2) S.1 S.2.1 dX9_whyNoHolder_21 (by decide) ?_
        exact mw_iret S hr hlk hK hG dX9_whyNoHolder_23 ⟨by rw [tgt_b2 (inR_hi (by decide) (Int32.not_lt.mp c3))] at ht; cases ht; rfl, rfl⟩
theorem cal_X9_set : mCal yX9_set cX9_set 5 3 (some .int) := ⟨in_460, by decide +kernel⟩
set_option maxHeartbeats 4000000 in
set_option maxRecDepth 100000 in
theorem h_set {l : Launch} {dC : Nat → ClassId} {dI : Nat → Nat → Nat} {cI cZ cT : ClassId} {q : Nat → Nat} {kp : Nat} {Wn : Nat} {made : Nat} {fl : (Nat → Nat)} {num : (Nat → Nat → Int32)} {rfs : (Nat → Nat → Option Nat)} {root : (Nat → Option Nat)} {own : (Nat → Option Nat)} {tad : (Nat → Nat)} {trm : (Nat → Bool)} {tpl : (Nat → Nat)} {wlk : (Nat → Nat)} {ord : (Nat → Nat)} {met : (Nat → Option Nat)} {msz : Nat} {cur : Nat} {mend : Nat} {pnx : Nat} {pen : Nat} {st : Nat} {coll : Nat} {mins : Nat} {movd : Nat} {w : mM} (hC : CW cI cT q kp Wn made fl num rfs root own tad trm tpl wlk ord met msz cur mend pnx pen st coll mins movd w) (hW4 : Wn ≤ 400) (hrb : ∀ j, j < 16 → ∀ o, root j = some o → o < made) (hfl : ∀ o, o < made → fl o ≤ 6) (x f y : Int32) : mC l yX9_set (wsY yX9_set cX9_set 5 (some .int)) { frames := 3, cells := 0, slots := 0, locals := 65 } (dC, dI) vwCl (tyL cI cZ cT) 0 0 w [.ref (q 0), .int (x), .int (f), .int (y)] (fun v w2 => v = some (.int (tgC (tgt fl root x f))) ∧ match tgt fl root x f with | .inl _ => CW cI cT q kp Wn made fl num rfs root own tad trm tpl wlk ord met msz cur mend pnx pen st coll mins movd w2 | .inr (o, i) => CW cI cT q kp Wn made fl (up2 num o i y) (up2 rfs o i none) root own tad trm tpl wlk ord met msz cur mend pnx pen st coll mins movd w2) := by
  refine mC.on (by decide) (Nat.le_of_ble_eq_true rfl) ?_
  intro p e s m args below meth c ls S hr hlk hnm hK hN hG hl
  have hl : lv_has ls 5 [(0, .ref (q 0)), (1, .int (x)), (2, .int (f)), (3, .int (y))] := hl
  generalize hAe : mA w s.heap.size = A at hG ⊢
  refine lv_aload_n S.1 S.2.1 dX9_set_0 rfl (lv_at hl 0 rfl) ?_
  refine lv_iload_n S.1 S.2.1 dX9_set_1 rfl (lv_at hl 1 rfl) ?_
  refine lv_iload_n S.1 S.2.1 dX9_set_2 rfl (lv_at hl 2 rfl) ?_
  refine mCV (As := [.int (x), .int (f)]) (rest := []) S (h_holderOf hC hW4 hrb hfl x f) cal_X9_holderOf in_461 in_462 in_463 in_2 hK hN hG hC.obj9 rfl rfl rfl hl.1 (Nat.le_of_ble_eq_true rfl) ⟨by decide, by decide⟩ ⟨rfl, rfl⟩ ⟨by decide, by decide⟩ dX9_set_3 (fun v w H locs hp hG => ?_)
  obtain ⟨rfl, hw9⟩ := hp
  have hw9 := hw9.symm
  subst hw9
  refine W.eq (g2 := F0 m 6 ls [va_rf ((tgO (tgt fl root x f)).map (tq q))]) rfl ?_
  refine lw_astore (lv' := [(4, va_rf ((tgO (tgt fl root x f)).map (tq q))), (0, .ref (q 0)), (1, .int (x)), (2, .int (f)), (3, .int (y))]) S.1 S.2.1 dX9_set_6 hl (by decide) rfl (fun ls hl => ?_)
  refine lw_aload S.1 S.2.1 dX9_set_8 (lv_at hl 0 rfl) ?_
  refine lw_ifnonnull (x := tgO (tgt fl root x f)) (tgt := 20) S.1 S.2.1 dX9_set_10 (by decide) (fun c1 => ?_) (fun o c1 => ?_)
  · obtain ⟨cd, ht⟩ := tgO_inl c1
    refine lv_aload_n S.1 S.2.1 dX9_set_13 rfl (lv_at hl 1 rfl) ?_
    refine lv_iload_n S.1 S.2.1 dX9_set_14 rfl (lv_at hl 2 rfl) ?_
    refine lv_iload_n S.1 S.2.1 dX9_set_15 rfl (lv_at hl 3 rfl) ?_
    refine mCV (As := [.int (x), .int (f)]) (rest := []) S (h_whyNoHolder hC hW4 hrb hfl x f cd ht) cal_X9_whyNoHolder in_470 in_471 in_472 in_2 hK hN hG hC.obj9 rfl rfl rfl hl.1 (Nat.le_of_ble_eq_true rfl) ⟨by decide, by decide⟩ ⟨rfl, rfl⟩ ⟨by decide, by decide⟩ dX9_set_16 (fun v w H locs hp hG => ?_)
    obtain ⟨rfl, hw9⟩ := hp
    have hw9 := hw9.symm
    subst hw9
    refine W.eq (g2 := F0 m 19 ls [.int (cd)]) rfl ?_
    exact mw_iret S hr hlk hK hG dX9_set_19 (by rw [ht]; exact ⟨rfl, hC⟩)
  · obtain ⟨i, ht⟩ := tgO_inr c1
    obtain ⟨j, hj, hxe, hfe, hi, hjo, hif⟩ := tgt_inr ht
    have hom := hrb j hj o hjo
    have hof := hfl o hom
    rw [c1] at hl
    subst hxe
    subst hfe
    have hl : lv_has ls 5 [(4, .ref (tq q o)), (0, .ref (q 0)), (1, .int (nI (j))), (2, .int (nI (i))), (3, .int (y))] := hl
    refine lv_aload S.1 S.2.1 dX9_set_20 (lv_at hl 0 rfl) ?_
    refine lv_iload_n S.1 S.2.1 dX9_set_22 rfl (lv_at hl 3 rfl) ?_
    refine lv_iload_n S.1 S.2.1 dX9_set_23 rfl (lv_at hl 4 rfl) ?_
    refine lv_null S.1 S.2.1 dX9_set_24 ?_
    refine mCV (As := [.int (nI (i)), .int (y), .null]) (rest := []) S (t_hold hC o hom hof i hif y none (fun u hu => by cases hu)) cal_X6_hold in_474 in_475 in_476 in_142 hK hN hG (hC.th hom) rfl rfl rfl hl.1 (Nat.le_of_ble_eq_true rfl) ⟨by decide, by decide⟩ ⟨rfl, rfl⟩ ⟨by decide, by decide⟩ dX9_set_25 (fun v w H locs hp hG => ?_)
    obtain ⟨rfl, hC⟩ := hp
    refine W.eq (g2 := F0 m 28 ls []) rfl ?_
    refine lv_iconst (v := nI (0)) S.1 S.2.1 dX9_set_28 (by decide) ?_
    exact mw_iret S hr hlk hK hG dX9_set_29 (by rw [ht]; exact ⟨rfl, hC⟩)
theorem cal_X9_refers : mCal yX9_refers cX9_refers 4 2 (some .int) := ⟨in_509, by decide +kernel⟩
set_option maxHeartbeats 4000000 in
set_option maxRecDepth 100000 in
theorem h_refers {l : Launch} {dC : Nat → ClassId} {dI : Nat → Nat → Nat} {cI cZ cT : ClassId} {q : Nat → Nat} {kp : Nat} {Wn : Nat} {made : Nat} {fl : (Nat → Nat)} {num : (Nat → Nat → Int32)} {rfs : (Nat → Nat → Option Nat)} {root : (Nat → Option Nat)} {own : (Nat → Option Nat)} {tad : (Nat → Nat)} {trm : (Nat → Bool)} {tpl : (Nat → Nat)} {wlk : (Nat → Nat)} {ord : (Nat → Nat)} {met : (Nat → Option Nat)} {msz : Nat} {cur : Nat} {mend : Nat} {pnx : Nat} {pen : Nat} {st : Nat} {coll : Nat} {mins : Nat} {movd : Nat} {w : mM} (hC : CW cI cT q kp Wn made fl num rfs root own tad trm tpl wlk ord met msz cur mend pnx pen st coll mins movd w) (hW4 : Wn ≤ 400) (hrb : ∀ j, j < 16 → ∀ o, root j = some o → o < made) (hfl : ∀ o, o < made → fl o ≤ 6) (x f : Int32) : mC l yX9_refers (wsY yX9_refers cX9_refers 4 (some .int)) { frames := 3, cells := 0, slots := 0, locals := 65 } (dC, dI) vwCl (tyL cI cZ cT) 0 0 w [.ref (q 0), .int (x), .int (f)] (fun v w2 => v = some (.int (match tgt fl root x f with | .inl c => c | .inr (o, i) => bI (rfs o i).isSome)) ∧ CW cI cT q kp Wn made fl num rfs root own tad trm tpl wlk ord met msz cur mend pnx pen st coll mins movd w2) := by
  refine mC.on (by decide) (Nat.le_of_ble_eq_true rfl) ?_
  intro p e s m args below meth c ls S hr hlk hnm hK hN hG hl
  have hl : lv_has ls 4 [(0, .ref (q 0)), (1, .int (x)), (2, .int (f))] := hl
  generalize hAe : mA w s.heap.size = A at hG ⊢
  refine lv_aload_n S.1 S.2.1 dX9_refers_0 rfl (lv_at hl 0 rfl) ?_
  refine lv_iload_n S.1 S.2.1 dX9_refers_1 rfl (lv_at hl 1 rfl) ?_
  refine lv_iload_n S.1 S.2.1 dX9_refers_2 rfl (lv_at hl 2 rfl) ?_
  refine mCV (As := [.int (x), .int (f)]) (rest := []) S (h_holderOf hC hW4 hrb hfl x f) cal_X9_holderOf in_461 in_462 in_463 in_2 hK hN hG hC.obj9 rfl rfl rfl hl.1 (Nat.le_of_ble_eq_true rfl) ⟨by decide, by decide⟩ ⟨rfl, rfl⟩ ⟨by decide, by decide⟩ dX9_refers_3 (fun v w H locs hp hG => ?_)
  obtain ⟨rfl, hw9⟩ := hp
  have hw9 := hw9.symm
  subst hw9
  refine W.eq (g2 := F0 m 6 ls [va_rf ((tgO (tgt fl root x f)).map (tq q))]) rfl ?_
  refine lw_astore_n (lv' := [(3, va_rf ((tgO (tgt fl root x f)).map (tq q))), (0, .ref (q 0)), (1, .int (x)), (2, .int (f))]) S.1 S.2.1 dX9_refers_6 rfl hl (by decide) rfl (fun ls hl => ?_)
  refine lw_aload_n S.1 S.2.1 dX9_refers_7 rfl (lv_at hl 0 rfl) ?_
  refine lw_ifnonnull (x := tgO (tgt fl root x f)) (tgt := 18) S.1 S.2.1 dX9_refers_8 (by decide) (fun c1 => ?_) (fun o c1 => ?_)
  · obtain ⟨cd, ht⟩ := tgO_inl c1
    refine lv_aload_n S.1 S.2.1 dX9_refers_11 rfl (lv_at hl 1 rfl) ?_
    refine lv_iload_n S.1 S.2.1 dX9_refers_12 rfl (lv_at hl 2 rfl) ?_
    refine lv_iload_n S.1 S.2.1 dX9_refers_13 rfl (lv_at hl 3 rfl) ?_
    refine mCV (As := [.int (x), .int (f)]) (rest := []) S (h_whyNoHolder hC hW4 hrb hfl x f cd ht) cal_X9_whyNoHolder in_470 in_471 in_472 in_2 hK hN hG hC.obj9 rfl rfl rfl hl.1 (Nat.le_of_ble_eq_true rfl) ⟨by decide, by decide⟩ ⟨rfl, rfl⟩ ⟨by decide, by decide⟩ dX9_refers_14 (fun v w H locs hp hG => ?_)
    obtain ⟨rfl, hw9⟩ := hp
    have hw9 := hw9.symm
    subst hw9
    refine W.eq (g2 := F0 m 17 ls [.int (cd)]) rfl ?_
    exact mw_iret S hr hlk hK hG dX9_refers_17 (by rw [ht]; exact ⟨rfl, hC⟩)
  · obtain ⟨i, ht⟩ := tgO_inr c1
    obtain ⟨j, hj, hxe, hfe, hi, hjo, hif⟩ := tgt_inr ht
    have hom := hrb j hj o hjo
    have hof := hfl o hom
    rw [c1] at hl
    subst hxe
    subst hfe
    have hl : lv_has ls 4 [(3, .ref (tq q o)), (0, .ref (q 0)), (1, .int (nI (j))), (2, .int (nI (i)))] := hl
    refine lv_aload_n S.1 S.2.1 dX9_refers_18 rfl (lv_at hl 0 rfl) ?_
    refine lv_iload_n S.1 S.2.1 dX9_refers_19 rfl (lv_at hl 3 rfl) ?_
    refine mCV (As := [.int (nI (i))]) (rest := []) S (t_targetOf hC o hom hof (nI i)) cal_X6_targetOf in_510 in_231 in_232 in_142 hK hN hG (hC.th hom) rfl rfl rfl hl.1 (Nat.le_of_ble_eq_true rfl) ⟨by decide, by decide⟩ ⟨rfl, rfl⟩ ⟨by decide, by decide⟩ dX9_refers_20 (fun v w H locs hp hG => ?_)
    obtain ⟨rfl, hw9⟩ := hp
    have hw9 := hw9.symm
    subst hw9
    rw [if_pos (inR_nI hif (by omega)), nI_clamp (by omega)]
    refine W.eq (g2 := F0 m 23 ls [va_rf ((rfs o i).map (tq q))]) rfl ?_
    refine lw_ifnull (x := rfs o i) (tgt := 30) S.1 S.2.1 dX9_refers_23 (by decide) (fun c2 => ?_) (fun u c2 => ?_)
    · refine lv_iconst (v := bI false) S.1 S.2.1 dX9_refers_30 (by decide) ?_
      refine mCS (As := [.int (bI (false))]) (rest := []) S (h_asNumber hC false) cal_X9_asNumber rfl in_511 in_512 in_2 hK hN hG rfl rfl hl.1 (Nat.le_of_ble_eq_true rfl) ⟨by decide, by decide⟩ ⟨rfl, rfl⟩ ⟨by decide, by decide⟩ dX9_refers_31 (fun v w H locs hp hG => ?_)
      obtain ⟨rfl, hw9⟩ := hp
      have hw9 := hw9.symm
      subst hw9
      refine W.eq (g2 := F0 m 34 ls [.int (bI false)]) rfl ?_
      exact mw_iret S hr hlk hK hG dX9_refers_34 (by rw [ht]; exact ⟨by simp only [c2]; rfl, hC⟩)
    · refine lv_iconst (v := bI true) S.1 S.2.1 dX9_refers_26 (by decide) ?_
      refine lv_goto (tgt := 31) S.1 S.2.1 dX9_refers_27 (by decide) ?_
      refine mCS (As := [.int (bI (true))]) (rest := []) S (h_asNumber hC true) cal_X9_asNumber rfl in_511 in_512 in_2 hK hN hG rfl rfl hl.1 (Nat.le_of_ble_eq_true rfl) ⟨by decide, by decide⟩ ⟨rfl, rfl⟩ ⟨by decide, by decide⟩ dX9_refers_31 (fun v w H locs hp hG => ?_)
      obtain ⟨rfl, hw9⟩ := hp
      have hw9 := hw9.symm
      subst hw9
      refine W.eq (g2 := F0 m 34 ls [.int (bI true)]) rfl ?_
      exact mw_iret S hr hlk hK hG dX9_refers_34 (by rw [ht]; exact ⟨by simp only [c2]; rfl, hC⟩)
theorem cal_X9_number : mCal yX9_number cX9_number 4 2 (some .int) := ⟨in_521, by decide +kernel⟩
set_option maxHeartbeats 4000000 in
set_option maxRecDepth 100000 in
theorem h_number {l : Launch} {dC : Nat → ClassId} {dI : Nat → Nat → Nat} {cI cZ cT : ClassId} {q : Nat → Nat} {kp : Nat} {Wn : Nat} {made : Nat} {fl : (Nat → Nat)} {num : (Nat → Nat → Int32)} {rfs : (Nat → Nat → Option Nat)} {root : (Nat → Option Nat)} {own : (Nat → Option Nat)} {tad : (Nat → Nat)} {trm : (Nat → Bool)} {tpl : (Nat → Nat)} {wlk : (Nat → Nat)} {ord : (Nat → Nat)} {met : (Nat → Option Nat)} {msz : Nat} {cur : Nat} {mend : Nat} {pnx : Nat} {pen : Nat} {st : Nat} {coll : Nat} {mins : Nat} {movd : Nat} {w : mM} (hC : CW cI cT q kp Wn made fl num rfs root own tad trm tpl wlk ord met msz cur mend pnx pen st coll mins movd w) (hW4 : Wn ≤ 400) (hrb : ∀ j, j < 16 → ∀ o, root j = some o → o < made) (hfl : ∀ o, o < made → fl o ≤ 6) (x f : Int32) : mC l yX9_number (wsY yX9_number cX9_number 4 (some .int)) { frames := 3, cells := 0, slots := 0, locals := 65 } (dC, dI) vwCl (tyL cI cZ cT) 0 0 w [.ref (q 0), .int (x), .int (f)] (fun v w2 => v = some (.int (match tgt fl root x f with | .inl _ => 0 | .inr (o, i) => num o i)) ∧ CW cI cT q kp Wn made fl num rfs root own tad trm tpl wlk ord met msz cur mend pnx pen st coll mins movd w2) := by
  refine mC.on (by decide) (Nat.le_of_ble_eq_true rfl) ?_
  intro p e s m args below meth c ls S hr hlk hnm hK hN hG hl
  have hl : lv_has ls 4 [(0, .ref (q 0)), (1, .int (x)), (2, .int (f))] := hl
  generalize hAe : mA w s.heap.size = A at hG ⊢
  refine lv_aload_n S.1 S.2.1 dX9_number_0 rfl (lv_at hl 0 rfl) ?_
  refine lv_iload_n S.1 S.2.1 dX9_number_1 rfl (lv_at hl 1 rfl) ?_
  refine lv_iload_n S.1 S.2.1 dX9_number_2 rfl (lv_at hl 2 rfl) ?_
  refine mCV (As := [.int (x), .int (f)]) (rest := []) S (h_holderOf hC hW4 hrb hfl x f) cal_X9_holderOf in_461 in_462 in_463 in_2 hK hN hG hC.obj9 rfl rfl rfl hl.1 (Nat.le_of_ble_eq_true rfl) ⟨by decide, by decide⟩ ⟨rfl, rfl⟩ ⟨by decide, by decide⟩ dX9_number_3 (fun v w H locs hp hG => ?_)
  obtain ⟨rfl, hw9⟩ := hp
  have hw9 := hw9.symm
  subst hw9
  refine W.eq (g2 := F0 m 6 ls [va_rf ((tgO (tgt fl root x f)).map (tq q))]) rfl ?_
  refine lw_astore_n (lv' := [(3, va_rf ((tgO (tgt fl root x f)).map (tq q))), (0, .ref (q 0)), (1, .int (x)), (2, .int (f))]) S.1 S.2.1 dX9_number_6 rfl hl (by decide) rfl (fun ls hl => ?_)
  refine lw_aload_n S.1 S.2.1 dX9_number_7 rfl (lv_at hl 0 rfl) ?_
  refine lw_ifnonnull (x := tgO (tgt fl root x f)) (tgt := 15) S.1 S.2.1 dX9_number_8 (by decide) (fun c1 => ?_) (fun o c1 => ?_)
  · obtain ⟨cd, ht⟩ := tgO_inl c1
    refine lv_iconst (v := nI (0)) S.1 S.2.1 dX9_number_11 (by decide) ?_
    refine lv_goto (tgt := 20) S.1 S.2.1 dX9_number_12 (by decide) ?_
    exact mw_iret S hr hlk hK hG dX9_number_20 (by rw [ht]; exact ⟨rfl, hC⟩)
  · obtain ⟨i, ht⟩ := tgO_inr c1
    obtain ⟨j, hj, hxe, hfe, hi, hjo, hif⟩ := tgt_inr ht
    have hom := hrb j hj o hjo
    have hof := hfl o hom
    rw [c1] at hl
    subst hxe
    subst hfe
    have hl : lv_has ls 4 [(3, .ref (tq q o)), (0, .ref (q 0)), (1, .int (nI (j))), (2, .int (nI (i)))] := hl
    refine lv_aload_n S.1 S.2.1 dX9_number_15 rfl (lv_at hl 0 rfl) ?_
    refine lv_iload_n S.1 S.2.1 dX9_number_16 rfl (lv_at hl 3 rfl) ?_
    refine mCV (As := [.int (nI (i))]) (rest := []) S (t_numberOf hC o hom hof (nI i)) cal_X6_numberOf in_522 in_523 in_524 in_142 hK hN hG (hC.th hom) rfl rfl rfl hl.1 (Nat.le_of_ble_eq_true rfl) ⟨by decide, by decide⟩ ⟨rfl, rfl⟩ ⟨by decide, by decide⟩ dX9_number_17 (fun v w H locs hp hG => ?_)
    obtain ⟨rfl, hw9⟩ := hp
    have hw9 := hw9.symm
    subst hw9
    rw [if_pos (inR_nI hif (by omega)), nI_clamp (by omega)]
    refine W.eq (g2 := F0 m 20 ls [.int (num o i)]) rfl ?_
    exact mw_iret S hr hlk hK hG dX9_number_20 (by rw [ht]; exact ⟨rfl, hC⟩)
theorem cal_X9_load : mCal yX9_load cX9_load 6 3 (some .int) := ⟨in_533, by decide +kernel⟩
set_option maxHeartbeats 4000000 in
set_option maxRecDepth 100000 in
theorem h_load {l : Launch} {dC : Nat → ClassId} {dI : Nat → Nat → Nat} {cI cZ cT : ClassId} {q : Nat → Nat} {kp : Nat} {Wn : Nat} {made : Nat} {fl : (Nat → Nat)} {num : (Nat → Nat → Int32)} {rfs : (Nat → Nat → Option Nat)} {root : (Nat → Option Nat)} {own : (Nat → Option Nat)} {tad : (Nat → Nat)} {trm : (Nat → Bool)} {tpl : (Nat → Nat)} {wlk : (Nat → Nat)} {ord : (Nat → Nat)} {met : (Nat → Option Nat)} {msz : Nat} {cur : Nat} {mend : Nat} {pnx : Nat} {pen : Nat} {st : Nat} {coll : Nat} {mins : Nat} {movd : Nat} {w : mM} (hC : CW cI cT q kp Wn made fl num rfs root own tad trm tpl wlk ord met msz cur mend pnx pen st coll mins movd w) (hW4 : Wn ≤ 400) (hrb : ∀ j, j < 16 → ∀ o, root j = some o → o < made) (hfl : ∀ o, o < made → fl o ≤ 6) (hfb : ∀ o, o < made → ∀ i, i < fl o → ∀ t, rfs o i = some t → t < made) (r x f : Int32) : mC l yX9_load (wsY yX9_load cX9_load 6 (some .int)) { frames := 3, cells := 0, slots := 0, locals := 65 } (dC, dI) vwCl (tyL cI cZ cT) 0 0 w [.ref (q 0), .int (r), .int (x), .int (f)] (fun v w2 => v = some (.int (code2 (lod fl rfs root r x f) (fun z => nI z.2))) ∧ match lod fl rfs root r x f with | .inl _ => CW cI cT q kp Wn made fl num rfs root own tad trm tpl wlk ord met msz cur mend pnx pen st coll mins movd w2 | .inr (k, u) => CW cI cT q kp Wn made fl num rfs (va_up root k (some u)) own tad trm tpl wlk ord met msz cur mend pnx pen st coll mins movd w2) := by
  refine mC.on (by decide) (Nat.le_of_ble_eq_true rfl) ?_
  intro p e s m args below meth c ls S hr hlk hnm hK hN hG hl
  have hl : lv_has ls 6 [(0, .ref (q 0)), (1, .int (r)), (2, .int (x)), (3, .int (f))] := hl
  generalize hAe : mA w s.heap.size = A at hG ⊢
  refine lv_aload_n S.1 S.2.1 dX9_load_0 rfl (lv_at hl 0 rfl) ?_
  refine cg_RX9_25 S hK hG hC dX9_load_1 ?_
  refine lv_iload_n S.1 S.2.1 dX9_load_4 rfl (lv_at hl 1 rfl) ?_
  refine mCV (As := [.int (r)]) (rest := []) S (o_has hC r) cal_X4_has in_144 in_145 in_146 in_21 hK hN hG hC.obj4 rfl rfl rfl hl.1 (Nat.le_of_ble_eq_true rfl) ⟨by decide, by decide⟩ ⟨rfl, rfl⟩ ⟨by decide, by decide⟩ dX9_load_5 (fun v w H locs hp hG => ?_)
  obtain ⟨rfl, hw9⟩ := hp
  have hw9 := hw9.symm
  subst hw9
  refine W.eq (g2 := F0 m 8 ls [.int (bI (inR 16 r))]) rfl ?_
  refine lv_if_ne (tgt := 14) S.1 S.2.1 dX9_load_8 (by decide) (fun c0 => ?_) (fun c0 => ?_)
  · obtain ⟨k, hk, rfl⟩ := inR_ex (by decide) (bI_t c0)
    refine lv_aload_n S.1 S.2.1 dX9_load_14 rfl (lv_at hl 0 rfl) ?_
    refine lv_iload_n S.1 S.2.1 dX9_load_15 rfl (lv_at hl 2 rfl) ?_
    refine lv_iload_n S.1 S.2.1 dX9_load_16 rfl (lv_at hl 3 rfl) ?_
    refine mCV (As := [.int (x), .int (f)]) (rest := []) S (h_holderOf hC hW4 hrb hfl x f) cal_X9_holderOf in_461 in_462 in_463 in_2 hK hN hG hC.obj9 rfl rfl rfl hl.1 (Nat.le_of_ble_eq_true rfl) ⟨by decide, by decide⟩ ⟨rfl, rfl⟩ ⟨by decide, by decide⟩ dX9_load_17 (fun v w H locs hp hG => ?_)
    obtain ⟨rfl, hw9⟩ := hp
    have hw9 := hw9.symm
    subst hw9
    refine W.eq (g2 := F0 m 20 ls [va_rf ((tgO (tgt fl root x f)).map (tq q))]) rfl ?_
    refine lw_astore (lv' := [(4, va_rf ((tgO (tgt fl root x f)).map (tq q))), (0, .ref (q 0)), (1, .int (nI (k))), (2, .int (x)), (3, .int (f))]) S.1 S.2.1 dX9_load_20 hl (by decide) rfl (fun ls hl => ?_)
    refine lw_aload S.1 S.2.1 dX9_load_22 (lv_at hl 0 rfl) ?_
    refine lw_ifnonnull (x := tgO (tgt fl root x f)) (tgt := 34) S.1 S.2.1 dX9_load_24 (by decide) (fun c1 => ?_) (fun o c1 => ?_)
    · obtain ⟨cd, ht⟩ := tgO_inl c1
      refine lv_aload_n S.1 S.2.1 dX9_load_27 rfl (lv_at hl 1 rfl) ?_
      refine lv_iload_n S.1 S.2.1 dX9_load_28 rfl (lv_at hl 3 rfl) ?_
      refine lv_iload_n S.1 S.2.1 dX9_load_29 rfl (lv_at hl 4 rfl) ?_
      refine mCV (As := [.int (x), .int (f)]) (rest := []) S (h_whyNoHolder hC hW4 hrb hfl x f cd ht) cal_X9_whyNoHolder in_470 in_471 in_472 in_2 hK hN hG hC.obj9 rfl rfl rfl hl.1 (Nat.le_of_ble_eq_true rfl) ⟨by decide, by decide⟩ ⟨rfl, rfl⟩ ⟨by decide, by decide⟩ dX9_load_30 (fun v w H locs hp hG => ?_)
      obtain ⟨rfl, hw9⟩ := hp
      have hw9 := hw9.symm
      subst hw9
      refine W.eq (g2 := F0 m 33 ls [.int (cd)]) rfl ?_
      exact mw_iret S hr hlk hK hG dX9_load_33 (by rw [lod_c hk ht]; exact ⟨rfl, hC⟩)
    · obtain ⟨i, ht⟩ := tgO_inr c1
      obtain ⟨j, hj, hxe, hfe, hi, hjo, hif⟩ := tgt_inr ht
      have hom := hrb j hj o hjo
      have hof := hfl o hom
      rw [c1] at hl
      subst hxe
      subst hfe
      have hl : lv_has ls 6 [(4, .ref (tq q o)), (0, .ref (q 0)), (1, .int (nI (k))), (2, .int (nI (j))), (3, .int (nI (i)))] := hl
      refine lv_aload S.1 S.2.1 dX9_load_34 (lv_at hl 0 rfl) ?_
      refine lv_iload_n S.1 S.2.1 dX9_load_36 rfl (lv_at hl 4 rfl) ?_
      refine mCV (As := [.int (nI (i))]) (rest := []) S (t_targetOf hC o hom hof (nI i)) cal_X6_targetOf in_510 in_231 in_232 in_142 hK hN hG (hC.th hom) rfl rfl rfl hl.1 (Nat.le_of_ble_eq_true rfl) ⟨by decide, by decide⟩ ⟨rfl, rfl⟩ ⟨by decide, by decide⟩ dX9_load_37 (fun v w H locs hp hG => ?_)
      obtain ⟨rfl, hw9⟩ := hp
      have hw9 := hw9.symm
      subst hw9
      rw [if_pos (inR_nI hif (by omega)), nI_clamp (by omega)]
      refine W.eq (g2 := F0 m 40 ls [va_rf ((rfs o i).map (tq q))]) rfl ?_
      refine lw_astore (lv' := [(5, va_rf ((rfs o i).map (tq q))), (4, .ref (tq q o)), (0, .ref (q 0)), (1, .int (nI (k))), (2, .int (nI (j))), (3, .int (nI (i)))]) S.1 S.2.1 dX9_load_40 hl (by decide) rfl (fun ls hl => ?_)
      refine lw_aload S.1 S.2.1 dX9_load_42 (lv_at hl 0 rfl) ?_
      refine lw_ifnonnull (x := rfs o i) (tgt := 50) S.1 S.2.1 dX9_load_44 (by decide) (fun c2 => ?_) (fun u c2 => ?_)
      · rw [lod_n hk ht c2]
        refine lv_bipush (v := -3) S.1 S.2.1 dX9_load_47 (by decide) ?_
        exact mw_iret S hr hlk hK hG dX9_load_49 ⟨rfl, hC⟩
      · rw [lod_o hk ht c2]
        have hum := hfb o hom i hif u c2
        rw [c2] at hl
        have hl : lv_has ls 6 [(5, .ref (tq q u)), (4, .ref (tq q o)), (0, .ref (q 0)), (1, .int (nI (k))), (2, .int (nI (j))), (3, .int (nI (i)))] := hl
        refine lv_aload_n S.1 S.2.1 dX9_load_50 rfl (lv_at hl 2 rfl) ?_
        refine cg_RX9_25 S hK hG hC dX9_load_51 ?_
        refine lv_iload_n S.1 S.2.1 dX9_load_54 rfl (lv_at hl 3 rfl) ?_
        refine lv_aload S.1 S.2.1 dX9_load_55 (lv_at hl 0 rfl) ?_
        refine mCV (As := [.int (nI (k)), .ref (tq q u)]) (rest := []) S (o_refer hC (by omega) k hk (some u) (fun t ht => by cases ht; exact hum)) cal_X4_refer in_371 in_372 in_373 in_21 hK hN hG hC.obj4 rfl rfl rfl hl.1 (Nat.le_of_ble_eq_true rfl) ⟨by decide, by decide⟩ ⟨rfl, rfl⟩ ⟨by decide, by decide⟩ dX9_load_57 (fun v w H locs hp hG => ?_)
        obtain ⟨rfl, hC⟩ := hp
        refine W.eq (g2 := F0 m 60 ls []) rfl ?_
        refine lv_aload S.1 S.2.1 dX9_load_60 (lv_at hl 0 rfl) ?_
        refine cg_RX9_66 S hK hG hC (u) (by omega) dX9_load_62 ?_
        exact mw_iret S hr hlk hK hG dX9_load_65 ⟨rfl, hC⟩
  · rw [lod_b (bI_f c0)]
    refine lv_bipush (v := -2) S.1 S.2.1 dX9_load_11 (by decide) ?_
    exact mw_iret S hr hlk hK hG dX9_load_13 ⟨rfl, hC⟩
theorem cal_X9_copy : mCal yX9_copy cX9_copy 4 2 (some .int) := ⟨in_541, by decide +kernel⟩
set_option maxHeartbeats 4000000 in
set_option maxRecDepth 100000 in
theorem h_copy {l : Launch} {dC : Nat → ClassId} {dI : Nat → Nat → Nat} {cI cZ cT : ClassId} {q : Nat → Nat} {kp : Nat} {Wn : Nat} {made : Nat} {fl : (Nat → Nat)} {num : (Nat → Nat → Int32)} {rfs : (Nat → Nat → Option Nat)} {root : (Nat → Option Nat)} {own : (Nat → Option Nat)} {tad : (Nat → Nat)} {trm : (Nat → Bool)} {tpl : (Nat → Nat)} {wlk : (Nat → Nat)} {ord : (Nat → Nat)} {met : (Nat → Option Nat)} {msz : Nat} {cur : Nat} {mend : Nat} {pnx : Nat} {pen : Nat} {st : Nat} {coll : Nat} {mins : Nat} {movd : Nat} {w : mM} (hC : CW cI cT q kp Wn made fl num rfs root own tad trm tpl wlk ord met msz cur mend pnx pen st coll mins movd w) (hW4 : Wn ≤ 400) (hrb : ∀ j, j < 16 → ∀ o, root j = some o → o < made) (hfl : ∀ o, o < made → fl o ≤ 6) (x y : Int32) : mC l yX9_copy (wsY yX9_copy cX9_copy 4 (some .int)) { frames := 2, cells := 0, slots := 0, locals := 43 } (dC, dI) vwCl (tyL cI cZ cT) 0 0 w [.ref (q 0), .int (x), .int (y)] (fun v w2 => v = some (.int (if inR 16 x = true ∧ inR 16 y = true then oI (root y.toNatClampNeg) else -2)) ∧ CW cI cT q kp Wn made fl num rfs ((if inR 16 x = true ∧ inR 16 y = true then va_up root x.toNatClampNeg (root y.toNatClampNeg) else root)) own tad trm tpl wlk ord met msz cur mend pnx pen st coll mins movd w2) := by
  refine mC.on (by decide) (Nat.le_of_ble_eq_true rfl) ?_
  intro p e s m args below meth c ls S hr hlk hnm hK hN hG hl
  have hl : lv_has ls 4 [(0, .ref (q 0)), (1, .int (x)), (2, .int (y))] := hl
  generalize hAe : mA w s.heap.size = A at hG ⊢
  refine lv_aload_n S.1 S.2.1 dX9_copy_0 rfl (lv_at hl 0 rfl) ?_
  refine cg_RX9_25 S hK hG hC dX9_copy_1 ?_
  refine lv_iload_n S.1 S.2.1 dX9_copy_4 rfl (lv_at hl 1 rfl) ?_
  refine mCV (As := [.int (x)]) (rest := []) S (o_has hC x) cal_X4_has in_144 in_145 in_146 in_21 hK hN hG hC.obj4 rfl rfl rfl hl.1 (Nat.le_of_ble_eq_true rfl) ⟨by decide, by decide⟩ ⟨rfl, rfl⟩ ⟨by decide, by decide⟩ dX9_copy_5 (fun v w H locs hp hG => ?_)
  obtain ⟨rfl, hw9⟩ := hp
  have hw9 := hw9.symm
  subst hw9
  refine W.eq (g2 := F0 m 8 ls [.int (bI (inR 16 x))]) rfl ?_
  refine lv_if_eq (tgt := 22) S.1 S.2.1 dX9_copy_8 (by decide) (fun c1 => ?_) (fun c1 => ?_)
  · rw [if_neg (by rw [bI_f c1]; simp), if_neg (by rw [bI_f c1]; simp)]
    refine lv_bipush (v := -2) S.1 S.2.1 dX9_copy_22 (by decide) ?_
    exact mw_iret S hr hlk hK hG dX9_copy_24 ⟨rfl, hC⟩
  · obtain ⟨j, hj, rfl⟩ := inR_ex (by decide) (bI_t c1)
    refine lv_aload_n S.1 S.2.1 dX9_copy_11 rfl (lv_at hl 0 rfl) ?_
    refine cg_RX9_25 S hK hG hC dX9_copy_12 ?_
    refine lv_iload_n S.1 S.2.1 dX9_copy_15 rfl (lv_at hl 2 rfl) ?_
    refine mCV (As := [.int (y)]) (rest := []) S (o_has hC y) cal_X4_has in_144 in_145 in_146 in_21 hK hN hG hC.obj4 rfl rfl rfl hl.1 (Nat.le_of_ble_eq_true rfl) ⟨by decide, by decide⟩ ⟨rfl, rfl⟩ ⟨by decide, by decide⟩ dX9_copy_16 (fun v w H locs hp hG => ?_)
    obtain ⟨rfl, hw9⟩ := hp
    have hw9 := hw9.symm
    subst hw9
    refine W.eq (g2 := F0 m 19 ls [.int (bI (inR 16 y))]) rfl ?_
    refine lv_if_ne (tgt := 25) S.1 S.2.1 dX9_copy_19 (by decide) (fun c2 => ?_) (fun c2 => ?_)
    · obtain ⟨k, hk, rfl⟩ := inR_ex (by decide) (bI_t c2)
      rw [if_pos ⟨inR_nI hj (by decide), inR_nI hk (by decide)⟩, if_pos ⟨inR_nI hj (by decide), inR_nI hk (by decide)⟩, nI_clamp (by omega), nI_clamp (by omega)]
      refine lv_aload_n S.1 S.2.1 dX9_copy_25 rfl (lv_at hl 0 rfl) ?_
      refine cg_RX9_25 S hK hG hC dX9_copy_26 ?_
      refine lv_iload_n S.1 S.2.1 dX9_copy_29 rfl (lv_at hl 2 rfl) ?_
      refine mCV (As := [.int (nI (k))]) (rest := []) S (o_thingOf hC (by omega) (nI k)) cal_X4_thingOf in_465 in_196 in_197 in_21 hK hN hG hC.obj4 rfl rfl rfl hl.1 (Nat.le_of_ble_eq_true rfl) ⟨by decide, by decide⟩ ⟨rfl, rfl⟩ ⟨by decide, by decide⟩ dX9_copy_30 (fun v w H locs hp hG => ?_)
      obtain ⟨rfl, hw9⟩ := hp
      have hw9 := hw9.symm
      subst hw9
      rw [if_pos (inR_nI hk (by omega)), nI_clamp (by omega)]
      refine W.eq (g2 := F0 m 33 ls [va_rf ((root k).map (tq q))]) rfl ?_
      refine lw_astore_n (lv' := [(3, va_rf ((root k).map (tq q))), (0, .ref (q 0)), (1, .int (nI (j))), (2, .int (nI (k)))]) S.1 S.2.1 dX9_copy_33 rfl hl (by decide) rfl (fun ls hl => ?_)
      refine lv_aload_n S.1 S.2.1 dX9_copy_34 rfl (lv_at hl 1 rfl) ?_
      refine cg_RX9_25 S hK hG hC dX9_copy_35 ?_
      refine lv_iload_n S.1 S.2.1 dX9_copy_38 rfl (lv_at hl 2 rfl) ?_
      refine lw_aload_n S.1 S.2.1 dX9_copy_39 rfl (lv_at hl 0 rfl) ?_
      refine mCV (As := [.int (nI (j)), va_rf ((root k).map (tq q))]) (rest := []) S (o_refer hC (by omega) j hj (root k) (hrb k hk)) cal_X4_refer in_371 in_372 in_373 in_21 hK hN hG hC.obj4 rfl rfl rfl hl.1 (Nat.le_of_ble_eq_true rfl) ⟨by decide, by decide⟩ ⟨rfl, rfl⟩ ⟨by decide, by decide⟩ dX9_copy_40 (fun v w H locs hp hG => ?_)
      obtain ⟨rfl, hC⟩ := hp
      refine W.eq (g2 := F0 m 43 ls []) rfl ?_
      refine lw_aload_n S.1 S.2.1 dX9_copy_43 rfl (lv_at hl 0 rfl) ?_
      refine mCS (As := [va_rf ((root k).map (tq q))]) (rest := []) S (h_nameOf hC (root k) (hrb k hk)) cal_X9_nameOf rfl in_542 in_543 in_2 hK hN hG rfl rfl hl.1 (Nat.le_of_ble_eq_true rfl) ⟨by decide, by decide⟩ ⟨rfl, rfl⟩ ⟨by decide, by decide⟩ dX9_copy_44 (fun v w H locs hp hG => ?_)
      obtain ⟨rfl, hw9⟩ := hp
      have hw9 := hw9.symm
      subst hw9
      refine W.eq (g2 := F0 m 47 ls [.int (oI (root k))]) rfl ?_
      exact mw_iret S hr hlk hK hG dX9_copy_47 ⟨rfl, hC⟩
    · rw [if_neg (by rw [bI_f c2]; simp), if_neg (by rw [bI_f c2]; simp)]
      refine lv_bipush (v := -2) S.1 S.2.1 dX9_copy_22 (by decide) ?_
      exact mw_iret S hr hlk hK hG dX9_copy_24 ⟨rfl, hC⟩
theorem cal_X9_drop : mCal yX9_drop cX9_drop 3 1 (some .int) := ⟨in_552, by decide +kernel⟩
set_option maxHeartbeats 4000000 in
set_option maxRecDepth 100000 in
theorem h_drop {l : Launch} {dC : Nat → ClassId} {dI : Nat → Nat → Nat} {cI cZ cT : ClassId} {q : Nat → Nat} {kp : Nat} {Wn : Nat} {made : Nat} {fl : (Nat → Nat)} {num : (Nat → Nat → Int32)} {rfs : (Nat → Nat → Option Nat)} {root : (Nat → Option Nat)} {own : (Nat → Option Nat)} {tad : (Nat → Nat)} {trm : (Nat → Bool)} {tpl : (Nat → Nat)} {wlk : (Nat → Nat)} {ord : (Nat → Nat)} {met : (Nat → Option Nat)} {msz : Nat} {cur : Nat} {mend : Nat} {pnx : Nat} {pen : Nat} {st : Nat} {coll : Nat} {mins : Nat} {movd : Nat} {w : mM} (hC : CW cI cT q kp Wn made fl num rfs root own tad trm tpl wlk ord met msz cur mend pnx pen st coll mins movd w) (hW4 : Wn ≤ 400) (hrb : ∀ j, j < 16 → ∀ o, root j = some o → o < made) (hfl : ∀ o, o < made → fl o ≤ 6) (x : Int32) : mC l yX9_drop (wsY yX9_drop cX9_drop 3 (some .int)) { frames := 2, cells := 0, slots := 0, locals := 43 } (dC, dI) vwCl (tyL cI cZ cT) 0 0 w [.ref (q 0), .int (x)] (fun v w2 => v = some (.int (if inR 16 x = true then bI (root x.toNatClampNeg).isSome else -2)) ∧ CW cI cT q kp Wn made fl num rfs ((if inR 16 x = true then va_up root x.toNatClampNeg none else root)) own tad trm tpl wlk ord met msz cur mend pnx pen st coll mins movd w2) := by
  refine mC.on (by decide) (Nat.le_of_ble_eq_true rfl) ?_
  intro p e s m args below meth c ls S hr hlk hnm hK hN hG hl
  have hl : lv_has ls 3 [(0, .ref (q 0)), (1, .int (x))] := hl
  generalize hAe : mA w s.heap.size = A at hG ⊢
  refine lv_aload_n S.1 S.2.1 dX9_drop_0 rfl (lv_at hl 0 rfl) ?_
  refine cg_RX9_25 S hK hG hC dX9_drop_1 ?_
  refine lv_iload_n S.1 S.2.1 dX9_drop_4 rfl (lv_at hl 1 rfl) ?_
  refine mCV (As := [.int (x)]) (rest := []) S (o_has hC x) cal_X4_has in_144 in_145 in_146 in_21 hK hN hG hC.obj4 rfl rfl rfl hl.1 (Nat.le_of_ble_eq_true rfl) ⟨by decide, by decide⟩ ⟨rfl, rfl⟩ ⟨by decide, by decide⟩ dX9_drop_5 (fun v w H locs hp hG => ?_)
  obtain ⟨rfl, hw9⟩ := hp
  have hw9 := hw9.symm
  subst hw9
  refine W.eq (g2 := F0 m 8 ls [.int (bI (inR 16 x))]) rfl ?_
  refine lv_if_ne (tgt := 14) S.1 S.2.1 dX9_drop_8 (by decide) (fun c1 => ?_) (fun c1 => ?_)
  · obtain ⟨j, hj, rfl⟩ := inR_ex (by decide) (bI_t c1)
    rw [if_pos (inR_nI hj (by decide)), if_pos (inR_nI hj (by decide)), nI_clamp (by omega)]
    refine lv_aload_n S.1 S.2.1 dX9_drop_14 rfl (lv_at hl 0 rfl) ?_
    refine cg_RX9_25 S hK hG hC dX9_drop_15 ?_
    refine lv_iload_n S.1 S.2.1 dX9_drop_18 rfl (lv_at hl 1 rfl) ?_
    refine mCV (As := [.int (nI (j))]) (rest := []) S (o_thingOf hC (by omega) (nI j)) cal_X4_thingOf in_465 in_196 in_197 in_21 hK hN hG hC.obj4 rfl rfl rfl hl.1 (Nat.le_of_ble_eq_true rfl) ⟨by decide, by decide⟩ ⟨rfl, rfl⟩ ⟨by decide, by decide⟩ dX9_drop_19 (fun v w H locs hp hG => ?_)
    obtain ⟨rfl, hw9⟩ := hp
    have hw9 := hw9.symm
    subst hw9
    rw [if_pos (inR_nI hj (by omega)), nI_clamp (by omega)]
    refine W.eq (g2 := F0 m 22 ls [va_rf ((root j).map (tq q))]) rfl ?_
    refine lw_ifnull (x := root j) (tgt := 29) S.1 S.2.1 dX9_drop_22 (by decide) (fun c2 => ?_) (fun t c2 => ?_)
    · refine lv_iconst (v := bI false) S.1 S.2.1 dX9_drop_29 (by decide) ?_
      refine lv_istore_n (lv' := [(2, .int (bI (false))), (0, .ref (q 0)), (1, .int (nI (j)))]) S.1 S.2.1 dX9_drop_30 rfl hl (by decide) rfl (fun ls hl => ?_)
      refine lv_aload_n S.1 S.2.1 dX9_drop_31 rfl (lv_at hl 1 rfl) ?_
      refine cg_RX9_25 S hK hG hC dX9_drop_32 ?_
      refine lv_iload_n S.1 S.2.1 dX9_drop_35 rfl (lv_at hl 2 rfl) ?_
      refine lv_null S.1 S.2.1 dX9_drop_36 ?_
      refine mCV (As := [.int (nI (j)), .null]) (rest := []) S (o_refer hC (by omega) j hj none (fun t ht => by cases ht)) cal_X4_refer in_371 in_372 in_373 in_21 hK hN hG hC.obj4 rfl rfl rfl hl.1 (Nat.le_of_ble_eq_true rfl) ⟨by decide, by decide⟩ ⟨rfl, rfl⟩ ⟨by decide, by decide⟩ dX9_drop_37 (fun v w H locs hp hG => ?_)
      obtain ⟨rfl, hC⟩ := hp
      refine W.eq (g2 := F0 m 40 ls []) rfl ?_
      refine lv_iload_n S.1 S.2.1 dX9_drop_40 rfl (lv_at hl 0 rfl) ?_
      refine mCS (As := [.int (bI (false))]) (rest := []) S (h_asNumber hC false) cal_X9_asNumber rfl in_511 in_512 in_2 hK hN hG rfl rfl hl.1 (Nat.le_of_ble_eq_true rfl) ⟨by decide, by decide⟩ ⟨rfl, rfl⟩ ⟨by decide, by decide⟩ dX9_drop_41 (fun v w H locs hp hG => ?_)
      obtain ⟨rfl, hw9⟩ := hp
      have hw9 := hw9.symm
      subst hw9
      refine W.eq (g2 := F0 m 44 ls [.int (bI false)]) rfl ?_
      exact mw_iret S hr hlk hK hG dX9_drop_44 ⟨by rw [c2]; rfl, hC⟩
    · refine lv_iconst (v := bI true) S.1 S.2.1 dX9_drop_25 (by decide) ?_
      refine lv_goto (tgt := 30) S.1 S.2.1 dX9_drop_26 (by decide) ?_
      refine lv_istore_n (lv' := [(2, .int (bI (true))), (0, .ref (q 0)), (1, .int (nI (j)))]) S.1 S.2.1 dX9_drop_30 rfl hl (by decide) rfl (fun ls hl => ?_)
      refine lv_aload_n S.1 S.2.1 dX9_drop_31 rfl (lv_at hl 1 rfl) ?_
      refine cg_RX9_25 S hK hG hC dX9_drop_32 ?_
      refine lv_iload_n S.1 S.2.1 dX9_drop_35 rfl (lv_at hl 2 rfl) ?_
      refine lv_null S.1 S.2.1 dX9_drop_36 ?_
      refine mCV (As := [.int (nI (j)), .null]) (rest := []) S (o_refer hC (by omega) j hj none (fun t ht => by cases ht)) cal_X4_refer in_371 in_372 in_373 in_21 hK hN hG hC.obj4 rfl rfl rfl hl.1 (Nat.le_of_ble_eq_true rfl) ⟨by decide, by decide⟩ ⟨rfl, rfl⟩ ⟨by decide, by decide⟩ dX9_drop_37 (fun v w H locs hp hG => ?_)
      obtain ⟨rfl, hC⟩ := hp
      refine W.eq (g2 := F0 m 40 ls []) rfl ?_
      refine lv_iload_n S.1 S.2.1 dX9_drop_40 rfl (lv_at hl 0 rfl) ?_
      refine mCS (As := [.int (bI (true))]) (rest := []) S (h_asNumber hC true) cal_X9_asNumber rfl in_511 in_512 in_2 hK hN hG rfl rfl hl.1 (Nat.le_of_ble_eq_true rfl) ⟨by decide, by decide⟩ ⟨rfl, rfl⟩ ⟨by decide, by decide⟩ dX9_drop_41 (fun v w H locs hp hG => ?_)
      obtain ⟨rfl, hw9⟩ := hp
      have hw9 := hw9.symm
      subst hw9
      refine W.eq (g2 := F0 m 44 ls [.int (bI true)]) rfl ?_
      exact mw_iret S hr hlk hK hG dX9_drop_44 ⟨by rw [c2]; rfl, hC⟩
  · rw [if_neg (by rw [bI_f c1]; simp), if_neg (by rw [bI_f c1]; simp)]
    refine lv_bipush (v := -2) S.1 S.2.1 dX9_drop_11 (by decide) ?_
    exact mw_iret S hr hlk hK hG dX9_drop_13 ⟨rfl, hC⟩
