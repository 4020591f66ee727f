theorem cal_X6_fields : mCal yX6_fields cX6_fields 1 0 (some .int) := ⟨in_228, by decide +kernel⟩
set_option maxHeartbeats 4000000 in
set_option maxRecDepth 100000 in
theorem t_fields {l : Launch} {dC : Nat → ClassId} {dI : Nat → Nat → Nat} {cI cZ cT : ClassId} {q : Nat → Nat} {kp : Nat} {Wn : Nat} {made : Nat} {fl : (Nat → Nat)} {num : (Nat → Nat → Int32)} {rfs : (Nat → Nat → Option Nat)} {root : (Nat → Option Nat)} {own : (Nat → Option Nat)} {tad : (Nat → Nat)} {trm : (Nat → Bool)} {tpl : (Nat → Nat)} {wlk : (Nat → Nat)} {ord : (Nat → Nat)} {met : (Nat → Option Nat)} {msz : Nat} {cur : Nat} {mend : Nat} {pnx : Nat} {pen : Nat} {st : Nat} {coll : Nat} {mins : Nat} {movd : Nat} {w : mM} (hC : CW cI cT q kp Wn made fl num rfs root own tad trm tpl wlk ord met msz cur mend pnx pen st coll mins movd w) (k : Nat) (hk : k < made) : mC l yX6_fields (wsY yX6_fields cX6_fields 1 (some .int)) { frames := 0, cells := 0, slots := 0, locals := 0 } (dC, dI) vwCl (tyL cI cZ cT) 0 0 w [.ref (tq q k)] (fun v w2 => v = some (.int (nI (fl k))) ∧ w2 = w) := by
  refine mC.on (by decide) (Nat.le_of_ble_eq_true rfl) ?_
  intro p e s m args below meth c ls S hr hlk hnm hK hN hG hl
  have hl : lv_has ls 1 [(0, .ref (tq q k))] := hl
  generalize hAe : mA w s.heap.size = A at hG ⊢
  refine lv_aload_n S.1 S.2.1 dX6_fields_0 rfl (lv_at hl 0 rfl) ?_
  refine cg_RX6_19 S hK hG hC (k) (by omega) dX6_fields_1 ?_
  refine cn_num S hK hG hC (k) (by omega) dX6_fields_4 ?_
  exact mw_iret S hr hlk hK hG dX6_fields_5 ⟨rfl, rfl⟩
theorem cal_X6_size : mCal yX6_size cX6_size 1 0 (some .int) := ⟨in_256, by decide +kernel⟩
set_option maxHeartbeats 4000000 in
set_option maxRecDepth 100000 in
theorem t_size {l : Launch} {dC : Nat → ClassId} {dI : Nat → Nat → Nat} {cI cZ cT : ClassId} {q : Nat → Nat} {kp : Nat} {Wn : Nat} {made : Nat} {fl : (Nat → Nat)} {num : (Nat → Nat → Int32)} {rfs : (Nat → Nat → Option Nat)} {root : (Nat → Option Nat)} {own : (Nat → Option Nat)} {tad : (Nat → Nat)} {trm : (Nat → Bool)} {tpl : (Nat → Nat)} {wlk : (Nat → Nat)} {ord : (Nat → Nat)} {met : (Nat → Option Nat)} {msz : Nat} {cur : Nat} {mend : Nat} {pnx : Nat} {pen : Nat} {st : Nat} {coll : Nat} {mins : Nat} {movd : Nat} {w : mM} (hC : CW cI cT q kp Wn made fl num rfs root own tad trm tpl wlk ord met msz cur mend pnx pen st coll mins movd w) (k : Nat) (hk : k < made) : mC l yX6_size (wsY yX6_size cX6_size 1 (some .int)) { frames := 0, cells := 0, slots := 0, locals := 0 } (dC, dI) vwCl (tyL cI cZ cT) 0 0 w [.ref (tq q k)] (fun v w2 => v = some (.int (nI (fl k + 1))) ∧ w2 = w) := by
  refine mC.on (by decide) (Nat.le_of_ble_eq_true rfl) ?_
  intro p e s m args below meth c ls S hr hlk hnm hK hN hG hl
  have hl : lv_has ls 1 [(0, .ref (tq q k))] := hl
  generalize hAe : mA w s.heap.size = A at hG ⊢
  refine lv_aload_n S.1 S.2.1 dX6_size_0 rfl (lv_at hl 0 rfl) ?_
  refine cg_RX6_19 S hK hG hC (k) (by omega) dX6_size_1 ?_
  refine cn_num S hK hG hC (k) (by omega) dX6_size_4 ?_
  refine lv_iconst (v := nI (1)) S.1 S.2.1 dX6_size_5 (by decide) ?_
  refine lv_iadd S.1 S.2.1 dX6_size_6 ?_
  refine lv_eqi (nI_add _ _) ?_
  exact mw_iret S hr hlk hK hG dX6_size_7 ⟨rfl, rfl⟩
theorem cal_X6_has : mCal yX6_has cX6_has 2 1 (some .boolean) := ⟨in_469, by decide +kernel⟩
set_option maxHeartbeats 4000000 in
set_option maxRecDepth 100000 in
theorem t_has {l : Launch} {dC : Nat → ClassId} {dI : Nat → Nat → Nat} {cI cZ cT : ClassId} {q : Nat → Nat} {kp : Nat} {Wn : Nat} {made : Nat} {fl : (Nat → Nat)} {num : (Nat → Nat → Int32)} {rfs : (Nat → Nat → Option Nat)} {root : (Nat → Option Nat)} {own : (Nat → Option Nat)} {tad : (Nat → Nat)} {trm : (Nat → Bool)} {tpl : (Nat → Nat)} {wlk : (Nat → Nat)} {ord : (Nat → Nat)} {met : (Nat → Option Nat)} {msz : Nat} {cur : Nat} {mend : Nat} {pnx : Nat} {pen : Nat} {st : Nat} {coll : Nat} {mins : Nat} {movd : Nat} {w : mM} (hC : CW cI cT q kp Wn made fl num rfs root own tad trm tpl wlk ord met msz cur mend pnx pen st coll mins movd w) (k : Nat) (hk : k < made) (hf : fl k ≤ 6) (x : Int32) : mC l yX6_has (wsY yX6_has cX6_has 2 (some .boolean)) { frames := 0, cells := 0, slots := 0, locals := 0 } (dC, dI) vwCl (tyL cI cZ cT) 0 0 w [.ref (tq q k), .int (x)] (fun v w2 => v = some (.int (bI (inR (fl k) x))) ∧ w2 = w) := by
  refine mC.on (by decide) (Nat.le_of_ble_eq_true rfl) ?_
  intro p e s m args below meth c ls S hr hlk hnm hK hN hG hl
  have hl : lv_has ls 2 [(0, .ref (tq q k)), (1, .int (x))] := hl
  generalize hAe : mA w s.heap.size = A at hG ⊢
  refine lv_iload_n S.1 S.2.1 dX6_has_0 rfl (lv_at hl 1 rfl) ?_
  refine lv_if_lt (tgt := 17) S.1 S.2.1 dX6_has_1 (by decide) (fun c1 => ?_) (fun c1 => ?_)
  · refine lv_iconst (v := nI (0)) S.1 S.2.1 dX6_has_17 (by decide) ?_
    exact mw_zret S hr (by decide) hlk hK hG dX6_has_18 ⟨by rw [inR_lo c1]; rfl, rfl⟩
  · refine lv_iload_n S.1 S.2.1 dX6_has_4 rfl (lv_at hl 1 rfl) ?_
    refine lv_aload_n S.1 S.2.1 dX6_has_5 rfl (lv_at hl 0 rfl) ?_
    refine cg_RX6_19 S hK hG hC (k) (by omega) dX6_has_6 ?_
    refine cn_num S hK hG hC (k) (by omega) dX6_has_9 ?_
    refine lv_icmp_ge (tgt := 17) S.1 S.2.1 dX6_has_10 (by decide) (fun c2 => ?_) (fun c2 => ?_)
    · refine lv_iconst (v := nI (0)) S.1 S.2.1 dX6_has_17 (by decide) ?_
      exact mw_zret S hr (by decide) hlk hK hG dX6_has_18 ⟨by rw [inR_hi (by omega) c2]; rfl, rfl⟩
    · refine lv_iconst (v := nI (1)) S.1 S.2.1 dX6_has_13 (by decide) ?_
      refine lv_goto (tgt := 18) S.1 S.2.1 dX6_has_14 (by decide) ?_
      exact mw_zret S hr (by decide) hlk hK hG dX6_has_18 ⟨by rw [inR_t (by omega) c1 c2]; rfl, rfl⟩
theorem cal_X4_has : mCal yX4_has cX4_has 2 1 (some .boolean) := ⟨in_147, by decide +kernel⟩
set_option maxHeartbeats 4000000 in
set_option maxRecDepth 100000 in
theorem o_has {l : Launch} {dC : Nat → ClassId} {dI : Nat → Nat → Nat} {cI cZ cT : ClassId} {q : Nat → Nat} {kp : Nat} {Wn : Nat} {made : Nat} {fl : (Nat → Nat)} {num : (Nat → Nat → Int32)} {rfs : (Nat → Nat → Option Nat)} {root : (Nat → Option Nat)} {own : (Nat → Option Nat)} {tad : (Nat → Nat)} {trm : (Nat → Bool)} {tpl : (Nat → Nat)} {wlk : (Nat → Nat)} {ord : (Nat → Nat)} {met : (Nat → Option Nat)} {msz : Nat} {cur : Nat} {mend : Nat} {pnx : Nat} {pen : Nat} {st : Nat} {coll : Nat} {mins : Nat} {movd : Nat} {w : mM} (hC : CW cI cT q kp Wn made fl num rfs root own tad trm tpl wlk ord met msz cur mend pnx pen st coll mins movd w) (x : Int32) : mC l yX4_has (wsY yX4_has cX4_has 2 (some .boolean)) { frames := 0, cells := 0, slots := 0, locals := 0 } (dC, dI) vwCl (tyL cI cZ cT) 0 0 w [.ref (q 3), .int (x)] (fun v w2 => v = some (.int (bI (inR 16 x))) ∧ w2 = w) := by
  refine mC.on (by decide) (Nat.le_of_ble_eq_true rfl) ?_
  intro p e s m args below meth c ls S hr hlk hnm hK hN hG hl
  have hl : lv_has ls 2 [(0, .ref (q 3)), (1, .int (x))] := hl
  generalize hAe : mA w s.heap.size = A at hG ⊢
  refine lv_iload_n S.1 S.2.1 dX4_has_0 rfl (lv_at hl 1 rfl) ?_
  refine lv_if_lt (tgt := 17) S.1 S.2.1 dX4_has_1 (by decide) (fun c1 => ?_) (fun c1 => ?_)
  · refine lv_iconst (v := nI (0)) S.1 S.2.1 dX4_has_17 (by decide) ?_
    exact mw_zret S hr (by decide) hlk hK hG dX4_has_18 ⟨by rw [inR_lo c1]; rfl, rfl⟩
  · refine lv_iload_n S.1 S.2.1 dX4_has_4 rfl (lv_at hl 1 rfl) ?_
    refine lv_aload_n S.1 S.2.1 dX4_has_5 rfl (lv_at hl 0 rfl) ?_
    refine cg_RX4_11 S hK hG hC dX4_has_6 ?_
    refine cn_root S hK hG hC dX4_has_9 ?_
    refine lv_icmp_ge (tgt := 17) S.1 S.2.1 dX4_has_10 (by decide) (fun c2 => ?_) (fun c2 => ?_)
    · refine lv_iconst (v := nI (0)) S.1 S.2.1 dX4_has_17 (by decide) ?_
      exact mw_zret S hr (by decide) hlk hK hG dX4_has_18 ⟨by rw [inR_hi (by omega) c2]; rfl, rfl⟩
    · refine lv_iconst (v := nI (1)) S.1 S.2.1 dX4_has_13 (by decide) ?_
      refine lv_goto (tgt := 18) S.1 S.2.1 dX4_has_14 (by decide) ?_
      exact mw_zret S hr (by decide) hlk hK hG dX4_has_18 ⟨by rw [inR_t (by omega) c1 c2]; rfl, rfl⟩
theorem cal_X6_numberOf : mCal yX6_numberOf cX6_numberOf 2 1 (some .int) := ⟨in_525, by decide +kernel⟩
set_option maxHeartbeats 4000000 in
set_option maxRecDepth 100000 in
theorem t_numberOf {l : Launch} {dC : Nat → ClassId} {dI : Nat → Nat → Nat} {cI cZ cT : ClassId} {q : Nat → Nat} {kp : Nat} {Wn : Nat} {made : Nat} {fl : (Nat → Nat)} {num : (Nat → Nat → Int32)} {rfs : (Nat → Nat → Option Nat)} {root : (Nat → Option Nat)} {own : (Nat → Option Nat)} {tad : (Nat → Nat)} {trm : (Nat → Bool)} {tpl : (Nat → Nat)} {wlk : (Nat → Nat)} {ord : (Nat → Nat)} {met : (Nat → Option Nat)} {msz : Nat} {cur : Nat} {mend : Nat} {pnx : Nat} {pen : Nat} {st : Nat} {coll : Nat} {mins : Nat} {movd : Nat} {w : mM} (hC : CW cI cT q kp Wn made fl num rfs root own tad trm tpl wlk ord met msz cur mend pnx pen st coll mins movd w) (k : Nat) (hk : k < made) (hf : fl k ≤ 6) (x : Int32) : mC l yX6_numberOf (wsY yX6_numberOf cX6_numberOf 2 (some .int)) { frames := 0, cells := 0, slots := 0, locals := 0 } (dC, dI) vwCl (tyL cI cZ cT) 0 0 w [.ref (tq q k), .int (x)] (fun v w2 => v = some (.int (if inR (fl k) x = true then num k x.toNatClampNeg else 0)) ∧ w2 = w) := by
  refine mC.on (by decide) (Nat.le_of_ble_eq_true rfl) ?_
  intro p e s m args below meth c ls S hr hlk hnm hK hN hG hl
  have hl : lv_has ls 2 [(0, .ref (tq q k)), (1, .int (x))] := hl
  generalize hAe : mA w s.heap.size = A at hG ⊢
  refine lv_iload_n S.1 S.2.1 dX6_numberOf_0 rfl (lv_at hl 1 rfl) ?_
  refine lv_if_lt (tgt := 22) S.1 S.2.1 dX6_numberOf_1 (by decide) (fun c1 => ?_) (fun c1 => ?_)
  · refine lv_iconst (v := nI (0)) S.1 S.2.1 dX6_numberOf_22 (by decide) ?_
    exact mw_iret S hr hlk hK hG dX6_numberOf_23 ⟨by rw [if_neg (by rw [inR_lo c1]; simp)]; rfl, rfl⟩
  · refine lv_iload_n S.1 S.2.1 dX6_numberOf_4 rfl (lv_at hl 1 rfl) ?_
    refine lv_aload_n S.1 S.2.1 dX6_numberOf_5 rfl (lv_at hl 0 rfl) ?_
    refine cg_RX6_19 S hK hG hC (k) (by omega) dX6_numberOf_6 ?_
    refine cn_num S hK hG hC (k) (by omega) dX6_numberOf_9 ?_
    refine lv_icmp_ge (tgt := 22) S.1 S.2.1 dX6_numberOf_10 (by decide) (fun c2 => ?_) (fun c2 => ?_)
    · refine lv_iconst (v := nI (0)) S.1 S.2.1 dX6_numberOf_22 (by decide) ?_
      exact mw_iret S hr hlk hK hG dX6_numberOf_23 ⟨by rw [if_neg (by rw [inR_hi (by omega) c2]; simp)]; rfl, rfl⟩
    · obtain ⟨j, hj, rfl⟩ := inR_ex (by omega) (inR_t (by omega) c1 c2)
      refine lv_aload_n S.1 S.2.1 dX6_numberOf_13 rfl (lv_at hl 0 rfl) ?_
      refine cg_RX6_19 S hK hG hC (k) (by omega) dX6_numberOf_14 ?_
      refine lv_iload_n S.1 S.2.1 dX6_numberOf_17 rfl (lv_at hl 1 rfl) ?_
      refine cl_num S hK hG hC (k) (j) (by omega) (by omega) (by omega) dX6_numberOf_18 ?_
      refine lv_goto (tgt := 23) S.1 S.2.1 dX6_numberOf_19 (by decide) ?_
      exact mw_iret S hr hlk hK hG dX6_numberOf_23 ⟨by rw [if_pos (inR_nI hj (by omega)), nI_clamp (by omega)], rfl⟩
theorem cal_X6_targetOf : mCal yX6_targetOf cX6_targetOf 2 1 (some (.object "KeptHeap$Thing")) := ⟨in_233, by decide +kernel⟩
set_option maxHeartbeats 4000000 in
set_option maxRecDepth 100000 in
theorem t_targetOf {l : Launch} {dC : Nat → ClassId} {dI : Nat → Nat → Nat} {cI cZ cT : ClassId} {q : Nat → Nat} {kp : Nat} {Wn : Nat} {made : Nat} {fl : (Nat → Nat)} {num : (Nat → Nat → Int32)} {rfs : (Nat → Nat → Option Nat)} {root : (Nat → Option Nat)} {own : (Nat → Option Nat)} {tad : (Nat → Nat)} {trm : (Nat → Bool)} {tpl : (Nat → Nat)} {wlk : (Nat → Nat)} {ord : (Nat → Nat)} {met : (Nat → Option Nat)} {msz : Nat} {cur : Nat} {mend : Nat} {pnx : Nat} {pen : Nat} {st : Nat} {coll : Nat} {mins : Nat} {movd : Nat} {w : mM} (hC : CW cI cT q kp Wn made fl num rfs root own tad trm tpl wlk ord met msz cur mend pnx pen st coll mins movd w) (k : Nat) (hk : k < made) (hf : fl k ≤ 6) (x : Int32) : mC l yX6_targetOf (wsY yX6_targetOf cX6_targetOf 2 (some (.object "KeptHeap$Thing"))) { frames := 0, cells := 0, slots := 0, locals := 0 } (dC, dI) vwCl (tyL cI cZ cT) 0 0 w [.ref (tq q k), .int (x)] (fun v w2 => v = some (va_rf ((if inR (fl k) x = true then rfs k x.toNatClampNeg else none).map (tq q))) ∧ w2 = w) := by
  refine mC.on (by decide) (Nat.le_of_ble_eq_true rfl) ?_
  intro p e s m args below meth c ls S hr hlk hnm hK hN hG hl
  have hl : lv_has ls 2 [(0, .ref (tq q k)), (1, .int (x))] := hl
  generalize hAe : mA w s.heap.size = A at hG ⊢
  refine lv_iload_n S.1 S.2.1 dX6_targetOf_0 rfl (lv_at hl 1 rfl) ?_
  refine lv_if_lt (tgt := 22) S.1 S.2.1 dX6_targetOf_1 (by decide) (fun c1 => ?_) (fun c1 => ?_)
  · refine lv_null S.1 S.2.1 dX6_targetOf_22 ?_
    exact mw_aret (r := none) S hr hlk hK hG dX6_targetOf_23 ⟨by rw [if_neg (by rw [inR_lo c1]; simp)]; rfl, rfl⟩
  · refine lv_iload_n S.1 S.2.1 dX6_targetOf_4 rfl (lv_at hl 1 rfl) ?_
    refine lv_aload_n S.1 S.2.1 dX6_targetOf_5 rfl (lv_at hl 0 rfl) ?_
    refine cg_RX6_23 S hK hG hC (k) (by omega) dX6_targetOf_6 ?_
    refine cn_rfs S hK hG hC (k) (by omega) dX6_targetOf_9 ?_
    refine lv_icmp_ge (tgt := 22) S.1 S.2.1 dX6_targetOf_10 (by decide) (fun c2 => ?_) (fun c2 => ?_)
    · refine lv_null S.1 S.2.1 dX6_targetOf_22 ?_
      exact mw_aret (r := none) S hr hlk hK hG dX6_targetOf_23 ⟨by rw [if_neg (by rw [inR_hi (by omega) c2]; simp)]; rfl, rfl⟩
    · obtain ⟨j, hj, rfl⟩ := inR_ex (by omega) (inR_t (by omega) c1 c2)
      refine lv_aload_n S.1 S.2.1 dX6_targetOf_13 rfl (lv_at hl 0 rfl) ?_
      refine cg_RX6_23 S hK hG hC (k) (by omega) dX6_targetOf_14 ?_
      refine lv_iload_n S.1 S.2.1 dX6_targetOf_17 rfl (lv_at hl 1 rfl) ?_
      refine cl_rfs S hK hG hC (k) (j) (by omega) (by omega) (by omega) dX6_targetOf_18 ?_
      refine lv_goto (tgt := 23) S.1 S.2.1 dX6_targetOf_19 (by decide) ?_
      exact mw_aret (r := (rfs k j).map (tq q)) S hr hlk hK hG dX6_targetOf_23 ⟨by rw [if_pos (inR_nI hj (by omega)), nI_clamp (by omega)], rfl⟩
theorem cal_X8_lyingAt : mCal yX8_lyingAt cX8_lyingAt 2 1 (some (.object "KeptHeap$Thing")) := ⟨in_220, by decide +kernel⟩
set_option maxHeartbeats 4000000 in
set_option maxRecDepth 100000 in
theorem w_lyingAt {l : Launch} {dC : Nat → ClassId} {dI : Nat → Nat → Nat} {cI cZ cT : ClassId} {q : Nat → Nat} {kp : Nat} {Wn : Nat} {made : Nat} {fl : (Nat → Nat)} {num : (Nat → Nat → Int32)} {rfs : (Nat → Nat → Option Nat)} {root : (Nat → Option Nat)} {own : (Nat → Option Nat)} {tad : (Nat → Nat)} {trm : (Nat → Bool)} {tpl : (Nat → Nat)} {wlk : (Nat → Nat)} {ord : (Nat → Nat)} {met : (Nat → Option Nat)} {msz : Nat} {cur : Nat} {mend : Nat} {pnx : Nat} {pen : Nat} {st : Nat} {coll : Nat} {mins : Nat} {movd : Nat} {w : mM} (hC : CW cI cT q kp Wn made fl num rfs root own tad trm tpl wlk ord met msz cur mend pnx pen st coll mins movd w) (hW : Wn < 1000) (x : Int32) : mC l yX8_lyingAt (wsY yX8_lyingAt cX8_lyingAt 2 (some (.object "KeptHeap$Thing"))) { frames := 0, cells := 0, slots := 0, locals := 0 } (dC, dI) vwCl (tyL cI cZ cT) 0 0 w [.ref (q 1), .int (x)] (fun v w2 => v = some (va_rf ((if inR Wn x = true then own x.toNatClampNeg else none).map (tq q))) ∧ w2 = w) := by
  refine mC.on (by decide) (Nat.le_of_ble_eq_true rfl) ?_
  intro p e s m args below meth c ls S hr hlk hnm hK hN hG hl
  have hl : lv_has ls 2 [(0, .ref (q 1)), (1, .int (x))] := hl
  generalize hAe : mA w s.heap.size = A at hG ⊢
  refine lv_iload_n S.1 S.2.1 dX8_lyingAt_0 rfl (lv_at hl 1 rfl) ?_
  refine lv_if_lt (tgt := 22) S.1 S.2.1 dX8_lyingAt_1 (by decide) (fun c1 => ?_) (fun c1 => ?_)
  · refine lv_null S.1 S.2.1 dX8_lyingAt_22 ?_
    exact mw_aret (r := none) S hr hlk hK hG dX8_lyingAt_23 ⟨by rw [if_neg (by rw [inR_lo c1]; simp)]; rfl, rfl⟩
  · refine lv_iload_n S.1 S.2.1 dX8_lyingAt_4 rfl (lv_at hl 1 rfl) ?_
    refine lv_aload_n S.1 S.2.1 dX8_lyingAt_5 rfl (lv_at hl 0 rfl) ?_
    refine cg_RX8_17 S hK hG hC dX8_lyingAt_6 ?_
    refine cn_own S hK hG hC dX8_lyingAt_9 ?_
    refine lv_icmp_ge (tgt := 22) S.1 S.2.1 dX8_lyingAt_10 (by decide) (fun c2 => ?_) (fun c2 => ?_)
    · refine lv_null S.1 S.2.1 dX8_lyingAt_22 ?_
      exact mw_aret (r := none) S hr hlk hK hG dX8_lyingAt_23 ⟨by rw [if_neg (by rw [inR_hi (by omega) c2]; simp)]; rfl, rfl⟩
    · obtain ⟨j, hj, rfl⟩ := inR_ex (by omega) (inR_t (by omega) c1 c2)
      refine lv_aload_n S.1 S.2.1 dX8_lyingAt_13 rfl (lv_at hl 0 rfl) ?_
      refine cg_RX8_17 S hK hG hC dX8_lyingAt_14 ?_
      refine lv_iload_n S.1 S.2.1 dX8_lyingAt_17 rfl (lv_at hl 1 rfl) ?_
      refine cl_own S hK hG hC (j) (by omega) (by omega) dX8_lyingAt_18 ?_
      refine lv_goto (tgt := 23) S.1 S.2.1 dX8_lyingAt_19 (by decide) ?_
      exact mw_aret (r := (own j).map (tq q)) S hr hlk hK hG dX8_lyingAt_23 ⟨by rw [if_pos (inR_nI hj (by omega)), nI_clamp (by omega)], rfl⟩
theorem cal_X6_hold : mCal yX6_hold cX6_hold 4 3 none := ⟨in_477, by decide +kernel⟩
set_option maxHeartbeats 4000000 in
set_option maxRecDepth 100000 in
theorem t_hold {l : Launch} {dC : Nat → ClassId} {dI : Nat → Nat → Nat} {cI cZ cT : ClassId} {q : Nat → Nat} {kp : Nat} {Wn : Nat} {made : Nat} {fl : (Nat → Nat)} {num : (Nat → Nat → Int32)} {rfs : (Nat → Nat → Option Nat)} {root : (Nat → Option Nat)} {own : (Nat → Option Nat)} {tad : (Nat → Nat)} {trm : (Nat → Bool)} {tpl : (Nat → Nat)} {wlk : (Nat → Nat)} {ord : (Nat → Nat)} {met : (Nat → Option Nat)} {msz : Nat} {cur : Nat} {mend : Nat} {pnx : Nat} {pen : Nat} {st : Nat} {coll : Nat} {mins : Nat} {movd : Nat} {w : mM} (hC : CW cI cT q kp Wn made fl num rfs root own tad trm tpl wlk ord met msz cur mend pnx pen st coll mins movd w) (k : Nat) (hk : k < made) (hf : fl k ≤ 6) (i : Nat) (hi : i < fl k) (x : Int32) (t : Option Nat) (ht : ∀ u, t = some u → u < made) : mC l yX6_hold (wsY yX6_hold cX6_hold 4 none) { frames := 1, cells := 0, slots := 0, locals := 21 } (dC, dI) vwCl (tyL cI cZ cT) 0 0 w [.ref (tq q k), .int (nI (i)), .int (x), va_rf ((t).map (tq q))] (fun v w2 => v = none ∧ CW cI cT q kp Wn made fl (up2 num k i x) (up2 rfs k i t) root own tad trm tpl wlk ord met msz cur mend pnx pen st coll mins movd w2) := by
  refine mC.on (by decide) (by cases t <;> exact Nat.le_of_ble_eq_true rfl) ?_
  intro p e s m args below meth c ls S hr hlk hnm hK hN hG hl
  have hl : lv_has ls 4 [(0, .ref (tq q k)), (1, .int (nI (i))), (2, .int (x)), (3, va_rf ((t).map (tq q)))] := (by cases t <;> exact hl)
  generalize hAe : mA w s.heap.size = A at hG ⊢
  refine lv_aload_n S.1 S.2.1 dX6_hold_0 rfl (lv_at hl 0 rfl) ?_
  refine lv_iload_n S.1 S.2.1 dX6_hold_1 rfl (lv_at hl 1 rfl) ?_
  refine mCV (As := [.int (nI (i))]) (rest := []) S (t_has hC k hk hf (nI i)) cal_X6_has in_478 in_467 in_468 in_142 hK hN hG (hC.th hk) rfl rfl rfl hl.1 (Nat.le_of_ble_eq_true rfl) ⟨by decide, by decide⟩ ⟨rfl, rfl⟩ ⟨by decide, by decide⟩ dX6_hold_2 (fun v w H locs hp hG => ?_)
  obtain ⟨rfl, hw9⟩ := hp
  have hw9 := hw9.symm
  subst hw9
  refine W.eq (g2 := F0 m 5 ls [.int (bI (inR (fl k) (nI i)))]) rfl ?_
  refine lv_if_eq (tgt := 22) S.1 S.2.1 dX6_hold_5 (by decide) (fun c1 => ?_) (fun c1 => ?_)
  · exact absurd (bI_f c1) (by rw [inR_nI hi (by omega)]; decide)
  · refine lv_aload_n S.1 S.2.1 dX6_hold_8 rfl (lv_at hl 0 rfl) ?_
    refine cg_RX6_19 S hK hG hC (k) (by omega) dX6_hold_9 ?_
    refine lv_iload_n S.1 S.2.1 dX6_hold_12 rfl (lv_at hl 1 rfl) ?_
    refine lv_iload_n S.1 S.2.1 dX6_hold_13 rfl (lv_at hl 2 rfl) ?_
    refine cs_num S hK hG hC (k) (i) (x) (by omega) (by omega) (by omega) dX6_hold_14 (fun w H locs hC hG => ?_)
    refine lv_aload_n S.1 S.2.1 dX6_hold_15 rfl (lv_at hl 0 rfl) ?_
    refine cg_RX6_23 S hK hG hC (k) (by omega) dX6_hold_16 ?_
    refine lv_iload_n S.1 S.2.1 dX6_hold_19 rfl (lv_at hl 1 rfl) ?_
    refine lw_aload_n S.1 S.2.1 dX6_hold_20 rfl (lv_at hl 3 rfl) ?_
    refine cs_rfs S hK hG hC (k) (i) (t) (by omega) (by omega) (by omega) ht dX6_hold_21 (fun w H locs hC hG => ?_)
    exact mw_vret S hr hlk hK hG dX6_hold_22 ⟨rfl, hC⟩
theorem cal_X4_thingOf : mCal yX4_thingOf cX4_thingOf 2 1 (some (.object "KeptHeap$Thing")) := ⟨in_198, by decide +kernel⟩
set_option maxHeartbeats 4000000 in
set_option maxRecDepth 100000 in
theorem o_thingOf {l : Launch} {dC : Nat → ClassId} {dI : Nat → Nat → Nat} {cI cZ cT : ClassId} {q : Nat → Nat} {kp : Nat} {Wn : Nat} {made : Nat} {fl : (Nat → Nat)} {num : (Nat → Nat → Int32)} {rfs : (Nat → Nat → Option Nat)} {root : (Nat → Option Nat)} {own : (Nat → Option Nat)} {tad : (Nat → Nat)} {trm : (Nat → Bool)} {tpl : (Nat → Nat)} {wlk : (Nat → Nat)} {ord : (Nat → Nat)} {met : (Nat → Option Nat)} {msz : Nat} {cur : Nat} {mend : Nat} {pnx : Nat} {pen : Nat} {st : Nat} {coll : Nat} {mins : Nat} {movd : Nat} {w : mM} (hC : CW cI cT q kp Wn made fl num rfs root own tad trm tpl wlk ord met msz cur mend pnx pen st coll mins movd w) (hW : Wn < 1000) (x : Int32) : mC l yX4_thingOf (wsY yX4_thingOf cX4_thingOf 2 (some (.object "KeptHeap$Thing"))) { frames := 1, cells := 0, slots := 0, locals := 21 } (dC, dI) vwCl (tyL cI cZ cT) 0 0 w [.ref (q 3), .int (x)] (fun v w2 => v = some (va_rf ((if inR 16 x = true then root x.toNatClampNeg else none).map (tq q))) ∧ w2 = w) := by
  refine mC.on (by decide) (Nat.le_of_ble_eq_true rfl) ?_
  intro p e s m args below meth c ls S hr hlk hnm hK hN hG hl
  have hl : lv_has ls 2 [(0, .ref (q 3)), (1, .int (x))] := hl
  generalize hAe : mA w s.heap.size = A at hG ⊢
  refine lv_aload_n S.1 S.2.1 dX4_thingOf_0 rfl (lv_at hl 0 rfl) ?_
  refine lv_iload_n S.1 S.2.1 dX4_thingOf_1 rfl (lv_at hl 1 rfl) ?_
  refine mCV (As := [.int (x)]) (rest := []) S (o_has hC x) cal_X4_has in_199 in_145 in_146 in_21 hK hN hG hC.obj4 rfl rfl rfl hl.1 (Nat.le_of_ble_eq_true rfl) ⟨by decide, by decide⟩ ⟨rfl, rfl⟩ ⟨by decide, by decide⟩ dX4_thingOf_2 (fun v w H locs hp hG => ?_)
  obtain ⟨rfl, hw9⟩ := hp
  have hw9 := hw9.symm
  subst hw9
  refine W.eq (g2 := F0 m 5 ls [.int (bI (inR 16 x))]) rfl ?_
  refine lv_if_eq (tgt := 17) S.1 S.2.1 dX4_thingOf_5 (by decide) (fun c1 => ?_) (fun c1 => ?_)
  · refine lv_null S.1 S.2.1 dX4_thingOf_17 ?_
    exact mw_aret (r := none) S hr hlk hK hG dX4_thingOf_18 ⟨by rw [if_neg (by rw [bI_f c1]; simp)]; rfl, rfl⟩
  · obtain ⟨j, hj, rfl⟩ := inR_ex (by decide) (bI_t c1)
    refine lv_aload_n S.1 S.2.1 dX4_thingOf_8 rfl (lv_at hl 0 rfl) ?_
    refine cg_RX4_11 S hK hG hC dX4_thingOf_9 ?_
    refine lv_iload_n S.1 S.2.1 dX4_thingOf_12 rfl (lv_at hl 1 rfl) ?_
    refine cl_root S hK hG hC (j) (by omega) (by omega) dX4_thingOf_13 ?_
    refine lv_goto (tgt := 18) S.1 S.2.1 dX4_thingOf_14 (by decide) ?_
    exact mw_aret (r := (root j).map (tq q)) S hr hlk hK hG dX4_thingOf_18 ⟨by rw [if_pos (inR_nI hj (by decide)), nI_clamp (by omega)], rfl⟩
theorem cal_X4_refer : mCal yX4_refer cX4_refer 3 2 none := ⟨in_374, by decide +kernel⟩
set_option maxHeartbeats 4000000 in
set_option maxRecDepth 100000 in
theorem o_refer {l : Launch} {dC : Nat → ClassId} {dI : Nat → Nat → Nat} {cI cZ cT : ClassId} {q : Nat → Nat} {kp : Nat} {Wn : Nat} {made : Nat} {fl : (Nat → Nat)} {num : (Nat → Nat → Int32)} {rfs : (Nat → Nat → Option Nat)} {root : (Nat → Option Nat)} {own : (Nat → Option Nat)} {tad : (Nat → Nat)} {trm : (Nat → Bool)} {tpl : (Nat → Nat)} {wlk : (Nat → Nat)} {ord : (Nat → Nat)} {met : (Nat → Option Nat)} {msz : Nat} {cur : Nat} {mend : Nat} {pnx : Nat} {pen : Nat} {st : Nat} {coll : Nat} {mins : Nat} {movd : Nat} {w : mM} (hC : CW cI cT q kp Wn made fl num rfs root own tad trm tpl wlk ord met msz cur mend pnx pen st coll mins movd w) (hW : Wn < 1000) (j : Nat) (hj : j < 16) (t : Option Nat) (ht : ∀ u, t = some u → u < made) : mC l yX4_refer (wsY yX4_refer cX4_refer 3 none) { frames := 1, cells := 0, slots := 0, locals := 21 } (dC, dI) vwCl (tyL cI cZ cT) 0 0 w [.ref (q 3), .int (nI (j)), va_rf ((t).map (tq q))] (fun v w2 => v = none ∧ CW cI cT q kp Wn made fl num rfs (va_up root j t) own tad trm tpl wlk ord met msz cur mend pnx pen st coll mins movd w2) := by
  refine mC.on (by decide) (by cases t <;> exact Nat.le_of_ble_eq_true rfl) ?_
  intro p e s m args below meth c ls S hr hlk hnm hK hN hG hl
  have hl : lv_has ls 3 [(0, .ref (q 3)), (1, .int (nI (j))), (2, va_rf ((t).map (tq q)))] := (by cases t <;> exact hl)
  generalize hAe : mA w s.heap.size = A at hG ⊢
  refine lv_aload_n S.1 S.2.1 dX4_refer_0 rfl (lv_at hl 0 rfl) ?_
  refine lv_iload_n S.1 S.2.1 dX4_refer_1 rfl (lv_at hl 1 rfl) ?_
  refine mCV (As := [.int (nI (j))]) (rest := []) S (o_has hC (nI j)) cal_X4_has in_199 in_145 in_146 in_21 hK hN hG hC.obj4 rfl rfl rfl hl.1 (Nat.le_of_ble_eq_true rfl) ⟨by decide, by decide⟩ ⟨rfl, rfl⟩ ⟨by decide, by decide⟩ dX4_refer_2 (fun v w H locs hp hG => ?_)
  obtain ⟨rfl, hw9⟩ := hp
  have hw9 := hw9.symm
  subst hw9
  refine W.eq (g2 := F0 m 5 ls [.int (bI (inR 16 (nI j)))]) rfl ?_
  refine lv_if_eq (tgt := 15) S.1 S.2.1 dX4_refer_5 (by decide) (fun c1 => ?_) (fun c1 => ?_)
  · exact absurd (bI_f c1) (by rw [inR_nI hj (by omega)]; decide)
  · refine lv_aload_n S.1 S.2.1 dX4_refer_8 rfl (lv_at hl 0 rfl) ?_
    refine cg_RX4_11 S hK hG hC dX4_refer_9 ?_
    refine lv_iload_n S.1 S.2.1 dX4_refer_12 rfl (lv_at hl 1 rfl) ?_
    refine lw_aload_n S.1 S.2.1 dX4_refer_13 rfl (lv_at hl 2 rfl) ?_
    refine cs_root S hK hG hC (j) (t) (by omega) ht (by omega) dX4_refer_14 (fun w H locs hC hG => ?_)
    exact mw_vret S hr hlk hK hG dX4_refer_15 ⟨rfl, hC⟩
theorem cal_X8_length : mCal yX8_length cX8_length 1 0 (some .int) := ⟨in_87, by decide +kernel⟩
set_option maxHeartbeats 4000000 in
set_option maxRecDepth 100000 in
theorem w_length {l : Launch} {dC : Nat → ClassId} {dI : Nat → Nat → Nat} {cI cZ cT : ClassId} {q : Nat → Nat} {kp : Nat} {Wn : Nat} {made : Nat} {fl : (Nat → Nat)} {num : (Nat → Nat → Int32)} {rfs : (Nat → Nat → Option Nat)} {root : (Nat → Option Nat)} {own : (Nat → Option Nat)} {tad : (Nat → Nat)} {trm : (Nat → Bool)} {tpl : (Nat → Nat)} {wlk : (Nat → Nat)} {ord : (Nat → Nat)} {met : (Nat → Option Nat)} {msz : Nat} {cur : Nat} {mend : Nat} {pnx : Nat} {pen : Nat} {st : Nat} {coll : Nat} {mins : Nat} {movd : Nat} {w : mM} (hC : CW cI cT q kp Wn made fl num rfs root own tad trm tpl wlk ord met msz cur mend pnx pen st coll mins movd w)  : mC l yX8_length (wsY yX8_length cX8_length 1 (some .int)) { frames := 0, cells := 0, slots := 0, locals := 0 } (dC, dI) vwCl (tyL cI cZ cT) 0 0 w [.ref (q 1)] (fun v w2 => v = some (.int (nI Wn)) ∧ w2 = w) := by
  refine mC.on (by decide) (Nat.le_of_ble_eq_true rfl) ?_
  intro p e s m args below meth c ls S hr hlk hnm hK hN hG hl
  have hl : lv_has ls 1 [(0, .ref (q 1))] := hl
  generalize hAe : mA w s.heap.size = A at hG ⊢
  refine lv_aload_n S.1 S.2.1 dX8_length_0 rfl (lv_at hl 0 rfl) ?_
  refine cg_RX8_17 S hK hG hC dX8_length_1 ?_
  refine cn_own S hK hG hC dX8_length_4 ?_
  exact mw_iret S hr hlk hK hG dX8_length_5 ⟨rfl, rfl⟩
theorem cal_X8_beginningAt : mCal yX8_beginningAt cX8_beginningAt 3 1 (some (.object "KeptHeap$Thing")) := ⟨in_215, by decide +kernel⟩
set_option maxHeartbeats 4000000 in
set_option maxRecDepth 100000 in
theorem w_beginningAt {l : Launch} {dC : Nat → ClassId} {dI : Nat → Nat → Nat} {cI cZ cT : ClassId} {q : Nat → Nat} {kp : Nat} {Wn : Nat} {made : Nat} {fl : (Nat → Nat)} {num : (Nat → Nat → Int32)} {rfs : (Nat → Nat → Option Nat)} {root : (Nat → Option Nat)} {own : (Nat → Option Nat)} {tad : (Nat → Nat)} {trm : (Nat → Bool)} {tpl : (Nat → Nat)} {wlk : (Nat → Nat)} {ord : (Nat → Nat)} {met : (Nat → Option Nat)} {msz : Nat} {cur : Nat} {mend : Nat} {pnx : Nat} {pen : Nat} {st : Nat} {coll : Nat} {mins : Nat} {movd : Nat} {w : mM} (hC : CW cI cT q kp Wn made fl num rfs root own tad trm tpl wlk ord met msz cur mend pnx pen st coll mins movd w) (hob : ∀ k t, own k = some t → t < made) (hW : Wn < 1000) (htb : ∀ t, t < made → tad t < 2147483648) (k : Nat) (hk : k < Wn) : mC l yX8_beginningAt (wsY yX8_beginningAt cX8_beginningAt 3 (some (.object "KeptHeap$Thing"))) { frames := 1, cells := 0, slots := 0, locals := 21 } (dC, dI) vwCl (tyL cI cZ cT) 0 0 w [.ref (q 1), .int (nI (k))] (fun v w2 => v = some (va_rf ((bgn own tad k).map (tq q))) ∧ w2 = w) := by
  refine mC.on (by decide) (Nat.le_of_ble_eq_true rfl) ?_
  intro p e s m args below meth c ls S hr hlk hnm hK hN hG hl
  have hl : lv_has ls 3 [(0, .ref (q 1)), (1, .int (nI (k)))] := hl
  generalize hAe : mA w s.heap.size = A at hG ⊢
  refine lv_aload_n S.1 S.2.1 dX8_beginningAt_0 rfl (lv_at hl 0 rfl) ?_
  refine lv_iload_n S.1 S.2.1 dX8_beginningAt_1 rfl (lv_at hl 1 rfl) ?_
  refine mCV (As := [.int (nI (k))]) (rest := []) S (w_lyingAt hC hW (nI k)) cal_X8_lyingAt in_217 in_218 in_219 in_18 hK hN hG hC.obj8 rfl rfl rfl hl.1 (Nat.le_of_ble_eq_true rfl) ⟨by decide, by decide⟩ ⟨rfl, rfl⟩ ⟨by decide, by decide⟩ dX8_beginningAt_2 (fun v w H locs hp hG => ?_)
  obtain ⟨rfl, hw9⟩ := hp
  have hw9 := hw9.symm
  subst hw9
  rw [if_pos (inR_nI hk (by omega)), nI_clamp (by omega)]
  refine W.eq (g2 := F0 m 5 ls [va_rf ((own k).map (tq q))]) rfl ?_
  refine lw_astore_n (lv' := [(2, va_rf ((own k).map (tq q))), (0, .ref (q 1)), (1, .int (nI (k)))]) S.1 S.2.1 dX8_beginningAt_5 rfl hl (by decide) rfl (fun ls hl => ?_)
  refine lw_aload_n S.1 S.2.1 dX8_beginningAt_6 rfl (lv_at hl 0 rfl) ?_
  refine lw_ifnull (x := own k) (tgt := 22) S.1 S.2.1 dX8_beginningAt_7 (by decide) (fun c => ?_) (fun t c => ?_)
  · refine lv_null S.1 S.2.1 dX8_beginningAt_22 ?_
    exact mw_aret (r := none) S hr hlk hK hG dX8_beginningAt_23 ⟨by rw [bgn_n c]; rfl, rfl⟩
  · have htm := hob k t c
    have ht2 := htb t htm
    rw [c] at hl
    have hl : lv_has ls 3 [(2, .ref (tq q t)), (0, .ref (q 1)), (1, .int (nI (k)))] := hl
    refine lv_aload_n S.1 S.2.1 dX8_beginningAt_10 rfl (lv_at hl 0 rfl) ?_
    refine cg_RX8_27 S hK hG hC (t) (by omega) dX8_beginningAt_11 ?_
    refine lv_iload_n S.1 S.2.1 dX8_beginningAt_14 rfl (lv_at hl 2 rfl) ?_
    refine lv_icmp_ne (tgt := 22) S.1 S.2.1 dX8_beginningAt_15 (by decide) (fun c2 => ?_) (fun c2 => ?_)
    · have c2 : ¬ ((tad t) = k) := fun h9 => c2 ((nI_eq (a := tad t) (b := k) (by omega) (by omega)).mpr h9)
      refine lv_null S.1 S.2.1 dX8_beginningAt_22 ?_
      exact mw_aret (r := none) S hr hlk hK hG dX8_beginningAt_23 ⟨by rw [bgn_x c c2]; rfl, rfl⟩
    · have c2 : (tad t) = k := (nI_eq (a := tad t) (b := k) (by omega) (by omega)).mp c2
      refine lv_aload_n S.1 S.2.1 dX8_beginningAt_18 rfl (lv_at hl 0 rfl) ?_
      refine lv_goto (tgt := 23) S.1 S.2.1 dX8_beginningAt_19 (by decide) ?_
      exact mw_aret (r := some (tq q t)) S hr hlk hK hG dX8_beginningAt_23 ⟨by rw [bgn_s c c2]; rfl, rfl⟩
theorem cal_X8_fill : mCal yX8_fill cX8_fill 7 3 none := ⟨in_261, by decide +kernel⟩
set_option maxHeartbeats 4000000 in
set_option maxRecDepth 100000 in
theorem w_fill {l : Launch} {dC : Nat → ClassId} {dI : Nat → Nat → Nat} {cI cZ cT : ClassId} {q : Nat → Nat} {kp : Nat} {Wn : Nat} {made : Nat} {fl : (Nat → Nat)} {num : (Nat → Nat → Int32)} {rfs : (Nat → Nat → Option Nat)} {root : (Nat → Option Nat)} {own : (Nat → Option Nat)} {tad : (Nat → Nat)} {trm : (Nat → Bool)} {tpl : (Nat → Nat)} {wlk : (Nat → Nat)} {ord : (Nat → Nat)} {met : (Nat → Option Nat)} {msz : Nat} {cur : Nat} {mend : Nat} {pnx : Nat} {pen : Nat} {st : Nat} {coll : Nat} {mins : Nat} {movd : Nat} {w : mM} (hC : CW cI cT q kp Wn made fl num rfs root own tad trm tpl wlk ord met msz cur mend pnx pen st coll mins movd w) (hW : Wn < 1000) (a n : Nat) (han : a + n ≤ Wn) (t : Option Nat) (ht : ∀ u, t = some u → u < made) : mC l yX8_fill (wsY yX8_fill cX8_fill 7 none) { frames := 1, cells := 0, slots := 0, locals := 21 } (dC, dI) vwCl (tyL cI cZ cT) 0 0 w [.ref (q 1), .int (nI (a)), .int (nI (n)), va_rf ((t).map (tq q))] (fun v w2 => v = none ∧ CW cI cT q kp Wn made fl num rfs root (fillO own a n t) tad trm tpl wlk ord met msz cur mend pnx pen st coll mins movd w2) := by
  refine mC.on (by decide) (by cases t <;> exact Nat.le_of_ble_eq_true rfl) ?_
  intro p e s m args below meth c ls S hr hlk hnm hK hN hG hl
  have hl : lv_has ls 7 [(0, .ref (q 1)), (1, .int (nI (a))), (2, .int (nI (n))), (3, va_rf ((t).map (tq q)))] := (by cases t <;> exact hl)
  generalize hAe : mA w s.heap.size = A at hG ⊢
  refine lv_iconst (v := nI (0)) S.1 S.2.1 dX8_fill_0 (by decide) ?_
  refine lv_iload_n S.1 S.2.1 dX8_fill_1 rfl (lv_at hl 1 rfl) ?_
  refine va_mmax S.1 S.2.1 (S.2.2.1.trans hl.1.symm) S.2.2.2.1 (S.2.2.2.2 _ in_40) (S.2.2.2.2 _ in_34) (S.2.2.2.2 _ in_31) (S.2.2.2.2 _ in_35) (by decide) (Nat.le_of_ble_eq_true rfl) (by decide) (by decide) dX8_fill_2 ?_
  refine lv_eqi (y := nI (a)) (max0 (by omega)) ?_
  refine lv_istore (lv' := [(4, .int (nI (a))), (0, .ref (q 1)), (1, .int (nI (a))), (2, .int (nI (n))), (3, va_rf ((t).map (tq q)))]) S.1 S.2.1 dX8_fill_5 hl (by decide) (by simp only [List.filter, rf_cat]; rfl) (fun ls hl => ?_)
  refine lv_aload_n S.1 S.2.1 dX8_fill_7 rfl (lv_at hl 1 rfl) ?_
  refine cg_RX8_17 S hK hG hC dX8_fill_8 ?_
  refine cn_own S hK hG hC dX8_fill_11 ?_
  refine lv_iload S.1 S.2.1 dX8_fill_12 (lv_at hl 0 rfl) ?_
  refine lv_iload_n S.1 S.2.1 dX8_fill_14 rfl (lv_at hl 3 rfl) ?_
  refine lv_iadd S.1 S.2.1 dX8_fill_15 ?_
  refine lv_eqi (nI_add _ _) ?_
  refine va_mmin S.1 S.2.1 (S.2.2.1.trans hl.1.symm) S.2.2.2.1 (S.2.2.2.2 _ in_262) (S.2.2.2.2 _ in_30) (S.2.2.2.2 _ in_31) (S.2.2.2.2 _ in_32) (by decide) (Nat.le_of_ble_eq_true rfl) (by decide) (by decide) dX8_fill_16 ?_
  refine lv_eqi (y := nI (a + n)) (minW (by omega) (by omega)) ?_
  refine lv_istore (lv' := [(5, .int (nI (a + n))), (4, .int (nI (a))), (0, .ref (q 1)), (1, .int (nI (a))), (2, .int (nI (n))), (3, va_rf ((t).map (tq q)))]) S.1 S.2.1 dX8_fill_19 hl (by decide) rfl (fun ls hl => ?_)
  refine lv_iload S.1 S.2.1 dX8_fill_21 (lv_at hl 1 rfl) ?_
  refine lv_istore (lv' := [(6, .int (nI (a))), (5, .int (nI (a + n))), (4, .int (nI (a))), (0, .ref (q 1)), (1, .int (nI (a))), (2, .int (nI (n))), (3, va_rf ((t).map (tq q)))]) S.1 S.2.1 dX8_fill_23 hl (by decide) rfl (fun ls hl => ?_)
  have L : ∀ (fu : Nat) (k : Nat), n - k < fu → (k ≤ n) → ∀ (w : mM) (H : Heap) (locs : List Loc), CW cI cT q kp Wn made fl num rfs root (fillO own a k t) tad trm tpl wlk ord met msz cur mend pnx pen st coll mins movd w → mG (dC, dI) vwCl A s.heap w H locs → ∀ ls : Array Slot, lv_has ls 7 [(6, .int (nI (a + k))), (5, .int (nI (a + n))), (4, .int (nI (a))), (0, .ref (q 1)), (1, .int (nI (a))), (2, .int (nI (n))), (3, va_rf ((t).map (tq q)))] → W p l e { frames := 1, cells := 0, slots := 0, locals := 21 } s m args below meth c H locs 0 0 (MQ below (mQ (dC, dI) vwCl (tyL cI cZ cT) (fun v w2 => v = none ∧ CW cI cT q kp Wn made fl num rfs root (fillO own a n t) tad trm tpl wlk ord met msz cur mend pnx pen st coll mins movd w2) A) args s 0 0 A) (F0 m 25 ls []) := by
    intro fu
    induction fu with
    | zero => intro k h1; exact absurd h1 (Nat.not_lt_zero _)
    | succ fu ihL =>
      intro k h1 h2 w H locs hC hG ls hl
      refine lv_iload S.1 S.2.1 dX8_fill_25 (lv_at hl 0 rfl) ?_
      refine lv_iload S.1 S.2.1 dX8_fill_27 (lv_at hl 1 rfl) ?_
      refine lv_icmp_ge (tgt := 46) S.1 S.2.1 dX8_fill_29 (by decide) (fun c1 => ?_) (fun c1 => ?_)
      · have c1 : (a + n) ≤ (a + k) := (nI_leI (a := a + n) (b := a + k) (by omega) (by omega)).mp c1
        have hk : k = n := by omega
        rw [hk] at hC
        exact mw_vret S hr hlk hK hG dX8_fill_46 ⟨rfl, hC⟩
      · have c1 : ¬ ((a + n) ≤ (a + k)) := fun h9 => c1 ((nI_leI (a := a + n) (b := a + k) (by omega) (by omega)).mpr h9)
        refine lv_aload_n S.1 S.2.1 dX8_fill_32 rfl (lv_at hl 3 rfl) ?_
        refine cg_RX8_17 S hK hG hC dX8_fill_33 ?_
        refine lv_iload S.1 S.2.1 dX8_fill_36 (lv_at hl 0 rfl) ?_
        refine lw_aload_n S.1 S.2.1 dX8_fill_38 rfl (lv_at hl 6 rfl) ?_
        refine cs_own S hK hG hC (a + k) (t) (by omega) ht (by omega) dX8_fill_39 (fun w H locs hC hG => ?_)
        rw [fillO_s] at hC
        refine lv_iinc (v := nI (a + k + 1)) (lv' := [(6, .int (nI (a + k + 1))), (5, .int (nI (a + n))), (4, .int (nI (a))), (0, .ref (q 1)), (1, .int (nI (a))), (2, .int (nI (n))), (3, va_rf ((t).map (tq q)))]) S.1 S.2.1 dX8_fill_40 hl (k := 0) rfl (nI_1 _) (by decide) rfl (fun ls hl => ?_)
        refine lv_goto (tgt := 25) S.1 S.2.1 dX8_fill_43 (by decide) ?_
        exact ihL (k + 1) (by omega) (by omega) _ _ _ hC hG ls (lv_sub hl [0, 1, 2, 3, 4, 5, 6] rfl)
  exact L (n + 1) 0 (by omega) (by omega) _ _ _ (by rw [fillO_0]; exact hC) hG ls (lv_sub hl [0, 1, 2, 3, 4, 5, 6] rfl)
theorem cal_X8_put : mCal yX8_put cX8_put 3 2 none := ⟨in_340, by decide +kernel⟩
set_option maxHeartbeats 4000000 in
set_option maxRecDepth 100000 in
theorem w_put {l : Launch} {dC : Nat → ClassId} {dI : Nat → Nat → Nat} {cI cZ cT : ClassId} {q : Nat → Nat} {kp : Nat} {Wn : Nat} {made : Nat} {fl : (Nat → Nat)} {num : (Nat → Nat → Int32)} {rfs : (Nat → Nat → Option Nat)} {root : (Nat → Option Nat)} {own : (Nat → Option Nat)} {tad : (Nat → Nat)} {trm : (Nat → Bool)} {tpl : (Nat → Nat)} {wlk : (Nat → Nat)} {ord : (Nat → Nat)} {met : (Nat → Option Nat)} {msz : Nat} {cur : Nat} {mend : Nat} {pnx : Nat} {pen : Nat} {st : Nat} {coll : Nat} {mins : Nat} {movd : Nat} {w : mM} (hC : CW cI cT q kp Wn made fl num rfs root own tad trm tpl wlk ord met msz cur mend pnx pen st coll mins movd w) (k : Nat) (hk : k < made) (hW : Wn < 1000) (a : Nat) (ha : a + fl k < Wn) : mC l yX8_put (wsY yX8_put cX8_put 3 none) { frames := 2, cells := 0, slots := 0, locals := 47 } (dC, dI) vwCl (tyL cI cZ cT) 0 0 w [.ref (q 1), .ref (tq q k), .int (nI (a))] (fun v w2 => v = none ∧ CW cI cT q kp Wn made fl num rfs root (fillO own a (fl k + 1) (some k)) (va_up tad k a) trm tpl wlk ord met msz cur mend pnx pen st coll mins movd w2) := by
  refine mC.on (by decide) (Nat.le_of_ble_eq_true rfl) ?_
  intro p e s m args below meth c ls S hr hlk hnm hK hN hG hl
  have hl : lv_has ls 3 [(0, .ref (q 1)), (1, .ref (tq q k)), (2, .int (nI (a)))] := hl
  generalize hAe : mA w s.heap.size = A at hG ⊢
  refine lv_aload_n S.1 S.2.1 dX8_put_0 rfl (lv_at hl 1 rfl) ?_
  refine lv_iload_n S.1 S.2.1 dX8_put_1 rfl (lv_at hl 2 rfl) ?_
  refine cp_RX8_27 S hK hG hC (k) (by omega) (a) dX8_put_2 (fun w H locs hC hG => ?_)
  refine lv_aload_n S.1 S.2.1 dX8_put_5 rfl (lv_at hl 0 rfl) ?_
  refine lv_iload_n S.1 S.2.1 dX8_put_6 rfl (lv_at hl 2 rfl) ?_
  refine lv_aload_n S.1 S.2.1 dX8_put_7 rfl (lv_at hl 1 rfl) ?_
  refine mCV (As := []) (rest := [.int (nI (a)), .ref (q 1)]) S (t_size hC k hk) cal_X6_size in_341 in_254 in_255 in_142 hK hN hG (hC.th hk) rfl rfl rfl hl.1 (Nat.le_of_ble_eq_true rfl) ⟨by decide, by decide⟩ ⟨rfl, rfl⟩ ⟨by decide, by decide⟩ dX8_put_8 (fun v w H locs hp hG => ?_)
  obtain ⟨rfl, hw9⟩ := hp
  have hw9 := hw9.symm
  subst hw9
  refine W.eq (g2 := F0 m 11 ls [.int (nI (fl k + 1)), .int (nI (a)), .ref (q 1)]) rfl ?_
  refine lv_aload_n S.1 S.2.1 dX8_put_11 rfl (lv_at hl 1 rfl) ?_
  refine mCV (As := [.int (nI (a)), .int (nI (fl k + 1)), .ref (tq q k)]) (rest := []) S (w_fill hC hW a (fl k + 1) (by omega) (some k) (fun u hu => by cases hu; exact hk)) cal_X8_fill in_342 in_259 in_260 in_18 hK hN hG hC.obj8 rfl rfl rfl hl.1 (Nat.le_of_ble_eq_true rfl) ⟨by decide, by decide⟩ ⟨rfl, rfl⟩ ⟨by decide, by decide⟩ dX8_put_12 (fun v w H locs hp hG => ?_)
  obtain ⟨rfl, hC⟩ := hp
  refine W.eq (g2 := F0 m 15 ls []) rfl ?_
  exact mw_vret S hr hlk hK hG dX8_put_15 ⟨rfl, hC⟩
