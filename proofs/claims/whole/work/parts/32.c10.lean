theorem tq_inj {cI cT : ClassId} {q : Nat → Nat} {kp : Nat} {Wn : Nat} {made : Nat} {fl : (Nat → Nat)} {num : (Nat → Nat → Int32)} {rfs : (Nat → Nat → Option Nat)} {root : (Nat → Option Nat)} {own : (Nat → Option Nat)} {tad : (Nat → Nat)} {trm : (Nat → Bool)} {tpl : (Nat → Nat)} {wlk : (Nat → Nat)} {ord : (Nat → Nat)} {met : (Nat → Option Nat)} {msz : Nat} {cur : Nat} {mend : Nat} {pnx : Nat} {pen : Nat} {st : Nat} {coll : Nat} {mins : Nat} {movd : Nat} {w : mM} (hC : CW cI cT q kp Wn made fl num rfs root own tad trm tpl wlk ord met msz cur mend pnx pen st coll mins movd w) {a b : Nat} (ha : a < made) (hb : b < made) (h : tq q a = tq q b) : a = b := by
  have := hC.2 (3 * a + 9) (3 * b + 9) (domC_t (r := 0) ha (by decide)) (domC_t (r := 0) hb (by decide)) h
  omega
theorem tq_map {cI cT : ClassId} {q : Nat → Nat} {kp : Nat} {Wn : Nat} {made : Nat} {fl : (Nat → Nat)} {num : (Nat → Nat → Int32)} {rfs : (Nat → Nat → Option Nat)} {root : (Nat → Option Nat)} {own : (Nat → Option Nat)} {tad : (Nat → Nat)} {trm : (Nat → Bool)} {tpl : (Nat → Nat)} {wlk : (Nat → Nat)} {ord : (Nat → Nat)} {met : (Nat → Option Nat)} {msz : Nat} {cur : Nat} {mend : Nat} {pnx : Nat} {pen : Nat} {st : Nat} {coll : Nat} {mins : Nat} {movd : Nat} {w : mM} (hC : CW cI cT q kp Wn made fl num rfs root own tad trm tpl wlk ord met msz cur mend pnx pen st coll mins movd w) {x y : Option Nat} (hx : ∀ t, x = some t → t < made) (hy : ∀ t, y = some t → t < made) (h : x.map (tq q) = y.map (tq q)) : x = y := by
  cases x with
  | none => cases y with
    | none => rfl
    | some b => cases h
  | some a => cases y with
    | none => cases h
    | some b => rw [tq_inj hC (hx a rfl) (hy b rfl) (Option.some.inj h)]
theorem inR_out {n : Nat} {y : Int32} (h : ¬ inR (n + 1) y = true) : y.toInt < 0 ∨ (n : Int) < y.toInt := by
  by_cases h1 : y.toInt < 0
  · exact Or.inl h1
  · refine Or.inr ?_
    by_cases h2 : (n : Int) < y.toInt
    · exact h2
    · exact absurd (decide_eq_true (show 0 ≤ y.toInt ∧ y.toInt < ((n + 1 : Nat) : Int) from ⟨by omega, by omega⟩)) h
theorem cal_X9_same : mCal yX9_same cX9_same 3 2 (some .int) := ⟨in_643, by decide +kernel⟩
set_option maxHeartbeats 4000000 in
set_option maxRecDepth 100000 in
theorem h_same {l : Launch} {dC : Nat → ClassId} {dI : Nat → Nat → Nat} {cI cZ cT : ClassId} {q : Nat → Nat} {kp : Nat} {Wn : Nat} {made : Nat} {fl : (Nat → Nat)} {num : (Nat → Nat → Int32)} {rfs : (Nat → Nat → Option Nat)} {root : (Nat → Option Nat)} {own : (Nat → Option Nat)} {tad : (Nat → Nat)} {trm : (Nat → Bool)} {tpl : (Nat → Nat)} {wlk : (Nat → Nat)} {ord : (Nat → Nat)} {met : (Nat → Option Nat)} {msz : Nat} {cur : Nat} {mend : Nat} {pnx : Nat} {pen : Nat} {st : Nat} {coll : Nat} {mins : Nat} {movd : Nat} {w : mM} (hC : CW cI cT q kp Wn made fl num rfs root own tad trm tpl wlk ord met msz cur mend pnx pen st coll mins movd w) (hW4 : Wn ≤ 400) (hrb : ∀ j, j < 16 → ∀ o, root j = some o → o < made) (hfl : ∀ o, o < made → fl o ≤ 6) (x y : Int32) : mC l yX9_same (wsY yX9_same cX9_same 3 (some .int)) { frames := 2, cells := 0, slots := 0, locals := 42 } (dC, dI) vwCl (tyL cI cZ cT) 0 0 w [.ref (q 0), .int (x), .int (y)] (fun v w2 => v = some (.int (if inR 16 x = true ∧ inR 16 y = true then bI (decide (root x.toNatClampNeg = root y.toNatClampNeg)) else -2)) ∧ CW cI cT q kp Wn made fl num rfs root own tad trm tpl wlk ord met msz cur mend pnx pen st coll mins movd w2) := by
  refine mC.on (by decide) (Nat.le_of_ble_eq_true rfl) ?_
  intro p e s m args below meth c ls S hr hlk hnm hK hN hG hl
  have hl : lv_has ls 3 [(0, .ref (q 0)), (1, .int (x)), (2, .int (y))] := hl
  generalize hAe : mA w s.heap.size = A at hG ⊢
  refine lv_aload_n S.1 S.2.1 dX9_same_0 rfl (lv_at hl 0 rfl) ?_
  refine cg_RX9_25 S hK hG hC dX9_same_1 ?_
  refine lv_iload_n S.1 S.2.1 dX9_same_4 rfl (lv_at hl 1 rfl) ?_
  refine mCV (As := [.int (x)]) (rest := []) S (o_has hC x) cal_X4_has in_144 in_145 in_146 in_21 hK hN hG hC.obj4 rfl rfl rfl hl.1 (Nat.le_of_ble_eq_true rfl) ⟨by decide, by decide⟩ ⟨rfl, rfl⟩ ⟨by decide, by decide⟩ dX9_same_5 (fun v w H locs hp hG => ?_)
  obtain ⟨rfl, hw9⟩ := hp
  have hw9 := hw9.symm
  subst hw9
  refine W.eq (g2 := F0 m 8 ls [.int (bI (inR 16 x))]) rfl ?_
  refine lv_if_eq (tgt := 22) S.1 S.2.1 dX9_same_8 (by decide) (fun c1 => ?_) (fun c1 => ?_)
  · rw [if_neg (by rw [bI_f c1]; simp)]
    refine lv_bipush (v := -2) S.1 S.2.1 dX9_same_22 (by decide) ?_
    exact mw_iret S hr hlk hK hG dX9_same_24 ⟨rfl, hC⟩
  · obtain ⟨j, hj, rfl⟩ := inR_ex (by decide) (bI_t c1)
    refine lv_aload_n S.1 S.2.1 dX9_same_11 rfl (lv_at hl 0 rfl) ?_
    refine cg_RX9_25 S hK hG hC dX9_same_12 ?_
    refine lv_iload_n S.1 S.2.1 dX9_same_15 rfl (lv_at hl 2 rfl) ?_
    refine mCV (As := [.int (y)]) (rest := []) S (o_has hC y) cal_X4_has in_144 in_145 in_146 in_21 hK hN hG hC.obj4 rfl rfl rfl hl.1 (Nat.le_of_ble_eq_true rfl) ⟨by decide, by decide⟩ ⟨rfl, rfl⟩ ⟨by decide, by decide⟩ dX9_same_16 (fun v w H locs hp hG => ?_)
    obtain ⟨rfl, hw9⟩ := hp
    have hw9 := hw9.symm
    subst hw9
    refine W.eq (g2 := F0 m 19 ls [.int (bI (inR 16 y))]) rfl ?_
    refine lv_if_ne (tgt := 25) S.1 S.2.1 dX9_same_19 (by decide) (fun c2 => ?_) (fun c2 => ?_)
    · obtain ⟨k, hk, rfl⟩ := inR_ex (by decide) (bI_t c2)
      rw [if_pos ⟨inR_nI hj (by decide), inR_nI hk (by decide)⟩, nI_clamp (by omega), nI_clamp (by omega)]
      refine lv_aload_n S.1 S.2.1 dX9_same_25 rfl (lv_at hl 0 rfl) ?_
      refine cg_RX9_25 S hK hG hC dX9_same_26 ?_
      refine lv_iload_n S.1 S.2.1 dX9_same_29 rfl (lv_at hl 1 rfl) ?_
      refine mCV (As := [.int (nI (j))]) (rest := []) S (o_thingOf hC (by omega) (nI j)) cal_X4_thingOf in_465 in_196 in_197 in_21 hK hN hG hC.obj4 rfl rfl rfl hl.1 (Nat.le_of_ble_eq_true rfl) ⟨by decide, by decide⟩ ⟨rfl, rfl⟩ ⟨by decide, by decide⟩ dX9_same_30 (fun v w H locs hp hG => ?_)
      obtain ⟨rfl, hw9⟩ := hp
      have hw9 := hw9.symm
      subst hw9
      rw [if_pos (inR_nI hj (by omega)), nI_clamp (by omega)]
      refine W.eq (g2 := F0 m 33 ls [va_rf ((root j).map (tq q))]) rfl ?_
      refine lv_aload_n S.1 S.2.1 dX9_same_33 rfl (lv_at hl 0 rfl) ?_
      refine cg_RX9_25 S hK hG hC dX9_same_34 ?_
      refine lv_iload_n S.1 S.2.1 dX9_same_37 rfl (lv_at hl 2 rfl) ?_
      refine mCV (As := [.int (nI (k))]) (rest := [va_rf ((root j).map (tq q))]) S (o_thingOf hC (by omega) (nI k)) cal_X4_thingOf in_465 in_196 in_197 in_21 hK hN hG hC.obj4 rfl rfl rfl hl.1 (by show (va_rf _).category + 0 ≤ 8; rw [rf_cat]; decide) ⟨by decide, by decide⟩ ⟨rfl, rfl⟩ ⟨by decide, by decide⟩ dX9_same_38 (fun v w H locs hp hG => ?_)
      obtain ⟨rfl, hw9⟩ := hp
      have hw9 := hw9.symm
      subst hw9
      rw [if_pos (inR_nI hk (by omega)), nI_clamp (by omega)]
      refine W.eq (g2 := F0 m 41 ls [va_rf ((root k).map (tq q)), va_rf ((root j).map (tq q))]) rfl ?_
      refine lv_acmp_ne (tgt := 48) S.1 S.2.1 dX9_same_41 (by decide) (fun c3 => ?_) (fun c3 => ?_)
      · refine lv_iconst (v := bI false) S.1 S.2.1 dX9_same_48 (by decide) ?_
        refine mCS (As := [.int (bI (false))]) (rest := []) S (h_asNumber hC false) cal_X9_asNumber rfl in_511 in_512 in_2 hK hN hG rfl rfl hl.1 (Nat.le_of_ble_eq_true rfl) ⟨by decide, by decide⟩ ⟨rfl, rfl⟩ ⟨by decide, by decide⟩ dX9_same_49 (fun v w H locs hp hG => ?_)
        obtain ⟨rfl, hw9⟩ := hp
        have hw9 := hw9.symm
        subst hw9
        refine W.eq (g2 := F0 m 52 ls [.int (bI false)]) rfl ?_
        exact mw_iret S hr hlk hK hG dX9_same_52 ⟨by rw [decide_eq_false (fun z => c3 (by rw [z]))], hC⟩
      · refine lv_iconst (v := bI true) S.1 S.2.1 dX9_same_44 (by decide) ?_
        refine lv_goto (tgt := 49) S.1 S.2.1 dX9_same_45 (by decide) ?_
        refine mCS (As := [.int (bI (true))]) (rest := []) S (h_asNumber hC true) cal_X9_asNumber rfl in_511 in_512 in_2 hK hN hG rfl rfl hl.1 (Nat.le_of_ble_eq_true rfl) ⟨by decide, by decide⟩ ⟨rfl, rfl⟩ ⟨by decide, by decide⟩ dX9_same_49 (fun v w H locs hp hG => ?_)
        obtain ⟨rfl, hw9⟩ := hp
        have hw9 := hw9.symm
        subst hw9
        refine W.eq (g2 := F0 m 52 ls [.int (bI true)]) rfl ?_
        exact mw_iret S hr hlk hK hG dX9_same_52 ⟨by rw [decide_eq_true (tq_map hC (hrb j hj) (hrb k hk) c3)], hC⟩
    · rw [if_neg (by rw [bI_f c2]; simp)]
      refine lv_bipush (v := -2) S.1 S.2.1 dX9_same_22 (by decide) ?_
      exact mw_iret S hr hlk hK hG dX9_same_24 ⟨rfl, hC⟩
theorem cal_X9_at : mCal yX9_at cX9_at 2 1 (some .int) := ⟨in_599, by decide +kernel⟩
set_option maxHeartbeats 4000000 in
set_option maxRecDepth 100000 in
theorem h_at {l : Launch} {dC : Nat → ClassId} {dI : Nat → Nat → Nat} {cI cZ cT : ClassId} {q : Nat → Nat} {kp : Nat} {Wn : Nat} {made : Nat} {fl : (Nat → Nat)} {num : (Nat → Nat → Int32)} {rfs : (Nat → Nat → Option Nat)} {root : (Nat → Option Nat)} {own : (Nat → Option Nat)} {tad : (Nat → Nat)} {trm : (Nat → Bool)} {tpl : (Nat → Nat)} {wlk : (Nat → Nat)} {ord : (Nat → Nat)} {met : (Nat → Option Nat)} {msz : Nat} {cur : Nat} {mend : Nat} {pnx : Nat} {pen : Nat} {st : Nat} {coll : Nat} {mins : Nat} {movd : Nat} {w : mM} (hC : CW cI cT q kp Wn made fl num rfs root own tad trm tpl wlk ord met msz cur mend pnx pen st coll mins movd w) (hW4 : Wn ≤ 400) (hob : ∀ k t, own k = some t → t < made) (x : Int32) : mC l yX9_at (wsY yX9_at cX9_at 2 (some .int)) { frames := 1, cells := 0, slots := 0, locals := 21 } (dC, dI) vwCl (tyL cI cZ cT) 0 0 w [.ref (q 0), .int (x)] (fun v w2 => v = some (.int (if inR Wn x = true then oI (own x.toNatClampNeg) else -2)) ∧ CW cI cT q kp Wn made fl num rfs root own tad trm tpl wlk ord met msz cur mend pnx pen st coll mins movd w2) := by
  refine mC.on (by decide) (Nat.le_of_ble_eq_true rfl) ?_
  intro p e s m args below meth c ls S hr hlk hnm hK hN hG hl
  have hl : lv_has ls 2 [(0, .ref (q 0)), (1, .int (x))] := hl
  generalize hAe : mA w s.heap.size = A at hG ⊢
  refine lv_iload_n S.1 S.2.1 dX9_at_0 rfl (lv_at hl 1 rfl) ?_
  refine lv_if_lt (tgt := 15) S.1 S.2.1 dX9_at_1 (by decide) (fun c1 => ?_) (fun c1 => ?_)
  · rw [if_neg (by rw [inR_lo c1]; simp)]
    refine lv_bipush (v := -2) S.1 S.2.1 dX9_at_15 (by decide) ?_
    exact mw_iret S hr hlk hK hG dX9_at_17 ⟨rfl, hC⟩
  · refine lv_iload_n S.1 S.2.1 dX9_at_4 rfl (lv_at hl 1 rfl) ?_
    refine lv_aload_n S.1 S.2.1 dX9_at_5 rfl (lv_at hl 0 rfl) ?_
    refine cg_RX9_21 S hK hG hC dX9_at_6 ?_
    refine mCV (As := []) (rest := [.int (x)]) S (w_length hC) cal_X8_length in_600 in_85 in_86 in_18 hK hN hG hC.obj8 rfl rfl rfl hl.1 (Nat.le_of_ble_eq_true rfl) ⟨by decide, by decide⟩ ⟨rfl, rfl⟩ ⟨by decide, by decide⟩ dX9_at_9 (fun v w H locs hp hG => ?_)
    obtain ⟨rfl, hw9⟩ := hp
    have hw9 := hw9.symm
    subst hw9
    refine W.eq (g2 := F0 m 12 ls [.int (nI (Wn)), .int (x)]) rfl ?_
    refine lv_icmp_lt (tgt := 18) S.1 S.2.1 dX9_at_12 (by decide) (fun c2 => ?_) (fun c2 => ?_)
    · obtain ⟨j, hj, rfl⟩ := inR_ex (by omega) (inR_t (n := Wn) (by omega) c1 (Int32.not_le.mpr c2))
      rw [if_pos (inR_nI hj (by omega)), nI_clamp (by omega)]
      refine lv_aload_n S.1 S.2.1 dX9_at_18 rfl (lv_at hl 0 rfl) ?_
      refine cg_RX9_21 S hK hG hC dX9_at_19 ?_
      refine lv_iload_n S.1 S.2.1 dX9_at_22 rfl (lv_at hl 1 rfl) ?_
      refine mCV (As := [.int (nI (j))]) (rest := []) S (w_lyingAt hC (by omega) (nI j)) cal_X8_lyingAt in_601 in_218 in_219 in_18 hK hN hG hC.obj8 rfl rfl rfl hl.1 (Nat.le_of_ble_eq_true rfl) ⟨by decide, by decide⟩ ⟨rfl, rfl⟩ ⟨by decide, by decide⟩ dX9_at_23 (fun v w H locs hp hG => ?_)
      obtain ⟨rfl, hw9⟩ := hp
      have hw9 := hw9.symm
      subst hw9
      rw [if_pos (inR_nI hj (by omega)), nI_clamp (by omega)]
      refine W.eq (g2 := F0 m 26 ls [va_rf ((own j).map (tq q))]) rfl ?_
      refine mCS (As := [va_rf ((own j).map (tq q))]) (rest := []) S (h_nameOf hC (own j) (hob j)) cal_X9_nameOf rfl in_542 in_543 in_2 hK hN hG rfl rfl hl.1 (Nat.le_of_ble_eq_true rfl) ⟨by decide, by decide⟩ ⟨rfl, rfl⟩ ⟨by decide, by decide⟩ dX9_at_26 (fun v w H locs hp hG => ?_)
      obtain ⟨rfl, hw9⟩ := hp
      have hw9 := hw9.symm
      subst hw9
      refine W.eq (g2 := F0 m 29 ls [.int (oI (own j))]) rfl ?_
      exact mw_iret S hr hlk hK hG dX9_at_29 ⟨rfl, hC⟩
    · rw [if_neg (by rw [inR_hi (by omega) (Int32.not_lt.mp c2)]; simp)]
      refine lv_bipush (v := -2) S.1 S.2.1 dX9_at_15 (by decide) ?_
      exact mw_iret S hr hlk hK hG dX9_at_17 ⟨rfl, hC⟩
theorem cal_X9_object : mCal yX9_object cX9_object 4 2 (some .int) := ⟨in_589, by decide +kernel⟩
set_option maxHeartbeats 4000000 in
set_option maxRecDepth 100000 in
theorem h_object {l : Launch} {dC : Nat → ClassId} {dI : Nat → Nat → Nat} {cI cZ cT : ClassId} {q : Nat → Nat} {kp : Nat} {Wn : Nat} {made : Nat} {fl : (Nat → Nat)} {num : (Nat → Nat → Int32)} {rfs : (Nat → Nat → Option Nat)} {root : (Nat → Option Nat)} {own : (Nat → Option Nat)} {tad : (Nat → Nat)} {trm : (Nat → Bool)} {tpl : (Nat → Nat)} {wlk : (Nat → Nat)} {ord : (Nat → Nat)} {met : (Nat → Option Nat)} {msz : Nat} {cur : Nat} {mend : Nat} {pnx : Nat} {pen : Nat} {st : Nat} {coll : Nat} {mins : Nat} {movd : Nat} {w : mM} (hC : CW cI cT q kp Wn made fl num rfs root own tad trm tpl wlk ord met msz cur mend pnx pen st coll mins movd w) (hW4 : Wn ≤ 400) (hrb : ∀ j, j < 16 → ∀ o, root j = some o → o < made) (hfl : ∀ o, o < made → fl o ≤ 6) (htb : ∀ t, t < made → tad t < 2147483648) (hkp3 : kp ≤ 2) (x y : Int32) : mC l yX9_object (wsY yX9_object cX9_object 4 (some .int)) { frames := 2, cells := 0, slots := 0, locals := 42 } (dC, dI) vwCl (tyL cI cZ cT) 0 0 w [.ref (q 0), .int (x), .int (y)] (fun v w2 => v = some (.int (if inR 16 x = true ∧ inR 5 y = true then (match root x.toNatClampNeg with | none => -3 | some o => (if y = nI 0 then nI o else if y = nI 1 then nI (tad o) else if y = nI 2 then nI (fl o) else if y = nI 3 then bI (isOldC kp Wn tad o) else bI (trm o))) else -2)) ∧ CW cI cT q kp Wn made fl num rfs root own tad trm tpl wlk ord met msz cur mend pnx pen st coll mins movd w2) := by
  refine mC.on (by decide) (Nat.le_of_ble_eq_true rfl) ?_
  intro p e s m args below meth c ls S hr hlk hnm hK hN hG hl
  have hl : lv_has ls 4 [(0, .ref (q 0)), (1, .int (x)), (2, .int (y))] := hl
  generalize hAe : mA w s.heap.size = A at hG ⊢
  refine lv_aload_n S.1 S.2.1 dX9_object_0 rfl (lv_at hl 0 rfl) ?_
  refine cg_RX9_25 S hK hG hC dX9_object_1 ?_
  refine lv_iload_n S.1 S.2.1 dX9_object_4 rfl (lv_at hl 1 rfl) ?_
  refine mCV (As := [.int (x)]) (rest := []) S (o_has hC x) cal_X4_has in_144 in_145 in_146 in_21 hK hN hG hC.obj4 rfl rfl rfl hl.1 (Nat.le_of_ble_eq_true rfl) ⟨by decide, by decide⟩ ⟨rfl, rfl⟩ ⟨by decide, by decide⟩ dX9_object_5 (fun v w H locs hp hG => ?_)
  obtain ⟨rfl, hw9⟩ := hp
  have hw9 := hw9.symm
  subst hw9
  refine W.eq (g2 := F0 m 8 ls [.int (bI (inR 16 x))]) rfl ?_
  refine lv_if_eq (tgt := 20) S.1 S.2.1 dX9_object_8 (by decide) (fun c1 => ?_) (fun c1 => ?_)
  · rw [if_neg (by rw [bI_f c1]; simp)]
    refine lv_bipush (v := -2) S.1 S.2.1 dX9_object_20 (by decide) ?_
    exact mw_iret S hr hlk hK hG dX9_object_22 ⟨rfl, hC⟩
  · obtain ⟨j, hj, rfl⟩ := inR_ex (by decide) (bI_t c1)
    refine lv_iload_n S.1 S.2.1 dX9_object_11 rfl (lv_at hl 2 rfl) ?_
    refine lv_if_lt (tgt := 20) S.1 S.2.1 dX9_object_12 (by decide) (fun c2 => ?_) (fun c2 => ?_)
    · rw [if_neg (by rw [inR_lo c2]; simp)]
      refine lv_bipush (v := -2) S.1 S.2.1 dX9_object_20 (by decide) ?_
      exact mw_iret S hr hlk hK hG dX9_object_22 ⟨rfl, hC⟩
    · refine lv_iload_n S.1 S.2.1 dX9_object_15 rfl (lv_at hl 2 rfl) ?_
      refine lv_iconst (v := nI (4)) S.1 S.2.1 dX9_object_16 (by decide) ?_
      refine lv_icmp_le (tgt := 23) S.1 S.2.1 dX9_object_17 (by decide) (fun c3 => ?_) (fun c3 => ?_)
      · have hy5 := inR_t2 (h := 4) (by decide) c2 (Int32.not_lt.mpr c3)
        rw [if_pos ⟨inR_nI hj (by decide), hy5⟩, nI_clamp (by omega)]
        obtain ⟨i, hi, rfl⟩ := inR_ex (n := 5) (by decide) hy5
        refine lv_aload_n S.1 S.2.1 dX9_object_23 rfl (lv_at hl 0 rfl) ?_
        refine cg_RX9_25 S hK hG hC dX9_object_24 ?_
        refine lv_iload_n S.1 S.2.1 dX9_object_27 rfl (lv_at hl 1 rfl) ?_
        refine mCV (As := [.int (nI (j))]) (rest := []) S (o_thingOf hC (by omega) (nI j)) cal_X4_thingOf in_465 in_196 in_197 in_21 hK hN hG hC.obj4 rfl rfl rfl hl.1 (Nat.le_of_ble_eq_true rfl) ⟨by decide, by decide⟩ ⟨rfl, rfl⟩ ⟨by decide, by decide⟩ dX9_object_28 (fun v w H locs hp hG => ?_)
        obtain ⟨rfl, hw9⟩ := hp
        have hw9 := hw9.symm
        subst hw9
        rw [if_pos (inR_nI hj (by omega)), nI_clamp (by omega)]
        refine W.eq (g2 := F0 m 31 ls [va_rf ((root j).map (tq q))]) rfl ?_
        refine lw_astore_n (lv' := [(3, va_rf ((root j).map (tq q))), (0, .ref (q 0)), (1, .int (nI (j))), (2, .int (nI (i)))]) S.1 S.2.1 dX9_object_31 rfl hl (by decide) rfl (fun ls hl => ?_)
        refine lw_aload_n S.1 S.2.1 dX9_object_32 rfl (lv_at hl 0 rfl) ?_
        refine lw_ifnonnull (x := root j) (tgt := 39) S.1 S.2.1 dX9_object_33 (by decide) (fun c4 => ?_) (fun o c4 => ?_)
        · rw [c4]
          refine lv_bipush (v := -3) S.1 S.2.1 dX9_object_36 (by decide) ?_
          exact mw_iret S hr hlk hK hG dX9_object_38 ⟨rfl, hC⟩
        · have hom := hrb j hj o c4
          have hof := hfl o hom
          rw [c4] at hl
          rw [c4]
          have hl : lv_has ls 4 [(3, .ref (tq q o)), (0, .ref (q 0)), (1, .int (nI (j))), (2, .int (nI (i)))] := hl
          refine lv_iload_n S.1 S.2.1 dX9_object_39 rfl (lv_at hl 3 rfl) ?_
          rcases (show i = 0 ∨ i = 1 ∨ i = 2 ∨ i = 3 ∨ i = 4 by omega) with rfl | rfl | rfl | rfl | rfl
          · refine lv_tableIn (tgt := 72) (off := 32) S.1 S.2.1 dX9_object_40 (by decide) (by decide) (by decide) (by decide) ?_
            refine lv_aload_n S.1 S.2.1 dX9_object_72 rfl (lv_at hl 0 rfl) ?_
            refine cg_RX9_66 S hK hG hC (o) (by omega) dX9_object_73 ?_
            exact mw_iret S hr hlk hK hG dX9_object_76 ⟨by dsimp only; rw [if_pos rfl], hC⟩
          · refine lv_tableIn (tgt := 77) (off := 37) S.1 S.2.1 dX9_object_40 (by decide) (by decide) (by decide) (by decide) ?_
            refine lv_aload_n S.1 S.2.1 dX9_object_77 rfl (lv_at hl 0 rfl) ?_
            refine cg_RX9_114 S hK hG hC (o) (by omega) dX9_object_78 ?_
            exact mw_iret S hr hlk hK hG dX9_object_81 ⟨by dsimp only; rw [if_neg (show ¬ nI 1 = nI 0 by decide), if_pos rfl], hC⟩
          · refine lv_tableIn (tgt := 82) (off := 42) S.1 S.2.1 dX9_object_40 (by decide) (by decide) (by decide) (by decide) ?_
            refine lv_aload_n S.1 S.2.1 dX9_object_82 rfl (lv_at hl 0 rfl) ?_
            refine mCV (As := []) (rest := []) S (t_fields hC o hom) cal_X6_fields in_591 in_226 in_227 in_142 hK hN hG (hC.th hom) rfl rfl rfl hl.1 (Nat.le_of_ble_eq_true rfl) ⟨by decide, by decide⟩ ⟨rfl, rfl⟩ ⟨by decide, by decide⟩ dX9_object_83 (fun v w H locs hp hG => ?_)
            obtain ⟨rfl, hw9⟩ := hp
            have hw9 := hw9.symm
            subst hw9
            refine W.eq (g2 := F0 m 86 ls [.int (nI (fl o))]) rfl ?_
            exact mw_iret S hr hlk hK hG dX9_object_86 ⟨by dsimp only; rw [if_neg (show ¬ nI 2 = nI 0 by decide), if_neg (show ¬ nI 2 = nI 1 by decide), if_pos rfl], hC⟩
          · refine lv_tableIn (tgt := 87) (off := 47) S.1 S.2.1 dX9_object_40 (by decide) (by decide) (by decide) (by decide) ?_
            refine lv_aload_n S.1 S.2.1 dX9_object_87 rfl (lv_at hl 1 rfl) ?_
            refine cg_RX9_33 S hK hG hC dX9_object_88 ?_
            refine lv_aload_n S.1 S.2.1 dX9_object_91 rfl (lv_at hl 0 rfl) ?_
            rcases (show kp = 0 ∨ kp = 1 ∨ kp = 2 by omega) with hkp | hkp | hkp
            · refine mCU (As := [.ref (tq q o)]) (rest := []) S (e_isOld hC o) (va_cwO (owner := "KeptHeap$Keeper") (x := ⟨"KeptHeap$Keeper", "isOld", "(LKeptHeap$Thing;)Z"⟩) 1 S.2.2.2.2 (mGO (own := RX9) (index := 85) (x := ⟨"KeptHeap$Keeper", "isOld", "(LKeptHeap$Thing;)Z"⟩) (owner := "KeptHeap$Keeper") in_498 in_492 in_493 in_494 in_501 in_500 in_72) rfl rfl rfl in_498 (by decide +kernel) ⟨by decide, by decide⟩) hK hN hG (hC.obj5 hkp) rfl rfl rfl hl.1 (Nat.le_of_ble_eq_true rfl) ⟨by decide, by decide⟩ dX9_object_92 (fun v w H locs hp hG => ?_)
              obtain ⟨rfl, hw9⟩ := hp
              have hw9 := hw9.symm
              subst hw9
              refine W.eq (g2 := F0 m 95 ls [.int (bI false)]) rfl ?_
              refine lv_eqi (y := bI (isOldC kp Wn tad o)) (by unfold isOldC; rw [hkp]; rfl) ?_
              refine mCS (As := [.int (bI (isOldC kp Wn tad o))]) (rest := []) S (h_asNumber hC (isOldC kp Wn tad o)) cal_X9_asNumber rfl in_511 in_512 in_2 hK hN hG rfl rfl hl.1 (Nat.le_of_ble_eq_true rfl) ⟨by decide, by decide⟩ ⟨rfl, rfl⟩ ⟨by decide, by decide⟩ dX9_object_95 (fun v w H locs hp hG => ?_)
              obtain ⟨rfl, hw9⟩ := hp
              have hw9 := hw9.symm
              subst hw9
              refine W.eq (g2 := F0 m 98 ls [.int (bI (isOldC kp Wn tad o))]) rfl ?_
              exact mw_iret S hr hlk hK hG dX9_object_98 ⟨by dsimp only; rw [if_neg (show ¬ nI 3 = nI 0 by decide), if_neg (show ¬ nI 3 = nI 1 by decide), if_neg (show ¬ nI 3 = nI 2 by decide), if_pos rfl], hC⟩
            · refine mCU (As := [.ref (tq q o)]) (rest := []) S (e_isOld hC o) (va_cwO (owner := "KeptHeap$Keeper") (x := ⟨"KeptHeap$Keeper", "isOld", "(LKeptHeap$Thing;)Z"⟩) 1 S.2.2.2.2 (mGO (own := RX9) (index := 85) (x := ⟨"KeptHeap$Keeper", "isOld", "(LKeptHeap$Thing;)Z"⟩) (owner := "KeptHeap$Keeper") in_498 in_492 in_493 in_494 in_499 in_500 in_72) rfl rfl rfl in_498 (by decide +kernel) ⟨by decide, by decide⟩) hK hN hG (hC.obj1 hkp) rfl rfl rfl hl.1 (Nat.le_of_ble_eq_true rfl) ⟨by decide, by decide⟩ dX9_object_92 (fun v w H locs hp hG => ?_)
              obtain ⟨rfl, hw9⟩ := hp
              have hw9 := hw9.symm
              subst hw9
              refine W.eq (g2 := F0 m 95 ls [.int (bI false)]) rfl ?_
              refine lv_eqi (y := bI (isOldC kp Wn tad o)) (by unfold isOldC; rw [hkp]; rfl) ?_
              refine mCS (As := [.int (bI (isOldC kp Wn tad o))]) (rest := []) S (h_asNumber hC (isOldC kp Wn tad o)) cal_X9_asNumber rfl in_511 in_512 in_2 hK hN hG rfl rfl hl.1 (Nat.le_of_ble_eq_true rfl) ⟨by decide, by decide⟩ ⟨rfl, rfl⟩ ⟨by decide, by decide⟩ dX9_object_95 (fun v w H locs hp hG => ?_)
              obtain ⟨rfl, hw9⟩ := hp
              have hw9 := hw9.symm
              subst hw9
              refine W.eq (g2 := F0 m 98 ls [.int (bI (isOldC kp Wn tad o))]) rfl ?_
              exact mw_iret S hr hlk hK hG dX9_object_98 ⟨by dsimp only; rw [if_neg (show ¬ nI 3 = nI 0 by decide), if_neg (show ¬ nI 3 = nI 1 by decide), if_neg (show ¬ nI 3 = nI 2 by decide), if_pos rfl], hC⟩
            · refine mCU (As := [.ref (tq q o)]) (rest := []) S (g_isOld hC hkp hW4 o hom (htb o hom)) (va_cwO (owner := "KeptHeap$Keeper") (x := ⟨"KeptHeap$Keeper", "isOld", "(LKeptHeap$Thing;)Z"⟩) 1 S.2.2.2.2 (mGO (own := RX9) (index := 85) (x := ⟨"KeptHeap$Keeper", "isOld", "(LKeptHeap$Thing;)Z"⟩) (owner := "KeptHeap$Keeper") in_497 in_492 in_493 in_494 in_495 in_496 in_57) rfl rfl rfl in_498 (by decide +kernel) ⟨by decide, by decide⟩) hK hN hG (hC.obj0 hkp) rfl rfl rfl hl.1 (Nat.le_of_ble_eq_true rfl) ⟨by decide, by decide⟩ dX9_object_92 (fun v w H locs hp hG => ?_)
              obtain ⟨rfl, hw9⟩ := hp
              have hw9 := hw9.symm
              subst hw9
              refine W.eq (g2 := F0 m 95 ls [.int (bI (decide (Wn / 4 ≤ tad o)))]) rfl ?_
              refine lv_eqi (y := bI (isOldC kp Wn tad o)) (by unfold isOldC; rw [hkp]; rfl) ?_
              refine mCS (As := [.int (bI (isOldC kp Wn tad o))]) (rest := []) S (h_asNumber hC (isOldC kp Wn tad o)) cal_X9_asNumber rfl in_511 in_512 in_2 hK hN hG rfl rfl hl.1 (Nat.le_of_ble_eq_true rfl) ⟨by decide, by decide⟩ ⟨rfl, rfl⟩ ⟨by decide, by decide⟩ dX9_object_95 (fun v w H locs hp hG => ?_)
              obtain ⟨rfl, hw9⟩ := hp
              have hw9 := hw9.symm
              subst hw9
              refine W.eq (g2 := F0 m 98 ls [.int (bI (isOldC kp Wn tad o))]) rfl ?_
              exact mw_iret S hr hlk hK hG dX9_object_98 ⟨by dsimp only; rw [if_neg (show ¬ nI 3 = nI 0 by decide), if_neg (show ¬ nI 3 = nI 1 by decide), if_neg (show ¬ nI 3 = nI 2 by decide), if_pos rfl], hC⟩
          · refine lv_tableOut (tgt := 99) S.1 S.2.1 dX9_object_40 (by decide) (by decide) ?_
            refine lv_aload_n S.1 S.2.1 dX9_object_99 rfl (lv_at hl 0 rfl) ?_
            refine cg_RX9_89 S hK hG hC (o) (by omega) dX9_object_100 ?_
            refine mCS (As := [.int (bI (trm o))]) (rest := []) S (h_asNumber hC (trm o)) cal_X9_asNumber rfl in_511 in_512 in_2 hK hN hG rfl rfl hl.1 (Nat.le_of_ble_eq_true rfl) ⟨by decide, by decide⟩ ⟨rfl, rfl⟩ ⟨by decide, by decide⟩ dX9_object_103 (fun v w H locs hp hG => ?_)
            obtain ⟨rfl, hw9⟩ := hp
            have hw9 := hw9.symm
            subst hw9
            refine W.eq (g2 := F0 m 106 ls [.int (bI (trm o))]) rfl ?_
            exact mw_iret S hr hlk hK hG dX9_object_106 ⟨by dsimp only; rw [if_neg (show ¬ nI 4 = nI 0 by decide), if_neg (show ¬ nI 4 = nI 1 by decide), if_neg (show ¬ nI 4 = nI 2 by decide), if_neg (show ¬ nI 4 = nI 3 by decide)], hC⟩
      · rw [if_neg (by rw [inR_hi2 (h := 4) (by decide) (Int32.not_le.mp c3)]; simp)]
        refine lv_bipush (v := -2) S.1 S.2.1 dX9_object_20 (by decide) ?_
        exact mw_iret S hr hlk hK hG dX9_object_22 ⟨rfl, hC⟩
theorem cal_X9_link : mCal yX9_link cX9_link 6 3 (some .int) := ⟨in_490, by decide +kernel⟩
set_option maxHeartbeats 4000000 in
set_option maxRecDepth 100000 in
theorem h_link {l : Launch} {dC : Nat → ClassId} {dI : Nat → Nat → Nat} {cI cZ cT : ClassId} {q : Nat → Nat} {kp : Nat} {Wn : Nat} {made : Nat} {fl : (Nat → Nat)} {num : (Nat → Nat → Int32)} {rfs : (Nat → Nat → Option Nat)} {root : (Nat → Option Nat)} {own : (Nat → Option Nat)} {tad : (Nat → Nat)} {trm : (Nat → Bool)} {tpl : (Nat → Nat)} {wlk : (Nat → Nat)} {ord : (Nat → Nat)} {met : (Nat → Option Nat)} {msz : Nat} {cur : Nat} {mend : Nat} {pnx : Nat} {pen : Nat} {st : Nat} {coll : Nat} {mins : Nat} {movd : Nat} {w : mM} (hC : CW cI cT q kp Wn made fl num rfs root own tad trm tpl wlk ord met msz cur mend pnx pen st coll mins movd w) (hW4 : Wn ≤ 400) (hrb : ∀ j, j < 16 → ∀ o, root j = some o → o < made) (hfl : ∀ o, o < made → fl o ≤ 6) (htb : ∀ t, t < made → tad t < 2147483648) (hkp3 : kp ≤ 2) (x f t : Int32) : mC l yX9_link (wsY yX9_link cX9_link 6 (some .int)) { frames := 3, cells := 0, slots := 0, locals := 65 } (dC, dI) vwCl (tyL cI cZ cT) 0 0 w [.ref (q 0), .int (x), .int (f), .int (t)] (fun v w2 => v = some (.int (code2 (lnk fl root x f t) (fun _ => 0))) ∧ match lnk fl root x f t with | .inl _ => CW cI cT q kp Wn made fl num rfs root own tad trm tpl wlk ord met msz cur mend pnx pen st coll mins movd w2 | .inr (o, i, u) => CW cI cT q kp Wn made fl (up2 num o i 0) (up2 rfs o i (some u)) root own tad (va_up trm o (trm o || (isOldC kp Wn tad o && !isOldC kp Wn tad u))) tpl wlk ord met msz cur mend pnx pen st coll mins movd w2) := by
  refine mC.on (by decide) (Nat.le_of_ble_eq_true rfl) ?_
  intro p e s m args below meth c ls S hr hlk hnm hK hN hG hl
  have hl : lv_has ls 6 [(0, .ref (q 0)), (1, .int (x)), (2, .int (f)), (3, .int (t))] := hl
  generalize hAe : mA w s.heap.size = A at hG ⊢
  refine lv_aload_n S.1 S.2.1 dX9_link_0 rfl (lv_at hl 0 rfl) ?_
  refine cg_RX9_25 S hK hG hC dX9_link_1 ?_
  refine lv_iload_n S.1 S.2.1 dX9_link_4 rfl (lv_at hl 3 rfl) ?_
  refine mCV (As := [.int (t)]) (rest := []) S (o_has hC t) cal_X4_has in_144 in_145 in_146 in_21 hK hN hG hC.obj4 rfl rfl rfl hl.1 (Nat.le_of_ble_eq_true rfl) ⟨by decide, by decide⟩ ⟨rfl, rfl⟩ ⟨by decide, by decide⟩ dX9_link_5 (fun v w H locs hp hG => ?_)
  obtain ⟨rfl, hw9⟩ := hp
  have hw9 := hw9.symm
  subst hw9
  refine W.eq (g2 := F0 m 8 ls [.int (bI (inR 16 t))]) rfl ?_
  refine lv_if_ne (tgt := 14) S.1 S.2.1 dX9_link_8 (by decide) (fun c0 => ?_) (fun c0 => ?_)
  · obtain ⟨k, hk, rfl⟩ := inR_ex (by decide) (bI_t c0)
    refine lv_aload_n S.1 S.2.1 dX9_link_14 rfl (lv_at hl 0 rfl) ?_
    refine lv_iload_n S.1 S.2.1 dX9_link_15 rfl (lv_at hl 1 rfl) ?_
    refine lv_iload_n S.1 S.2.1 dX9_link_16 rfl (lv_at hl 2 rfl) ?_
    refine mCV (As := [.int (x), .int (f)]) (rest := []) S (h_holderOf hC hW4 hrb hfl x f) cal_X9_holderOf in_461 in_462 in_463 in_2 hK hN hG hC.obj9 rfl rfl rfl hl.1 (Nat.le_of_ble_eq_true rfl) ⟨by decide, by decide⟩ ⟨rfl, rfl⟩ ⟨by decide, by decide⟩ dX9_link_17 (fun v w H locs hp hG => ?_)
    obtain ⟨rfl, hw9⟩ := hp
    have hw9 := hw9.symm
    subst hw9
    refine W.eq (g2 := F0 m 20 ls [va_rf ((tgO (tgt fl root x f)).map (tq q))]) rfl ?_
    refine lw_astore (lv' := [(4, va_rf ((tgO (tgt fl root x f)).map (tq q))), (0, .ref (q 0)), (1, .int (x)), (2, .int (f)), (3, .int (nI (k)))]) S.1 S.2.1 dX9_link_20 hl (by decide) rfl (fun ls hl => ?_)
    refine lw_aload S.1 S.2.1 dX9_link_22 (lv_at hl 0 rfl) ?_
    refine lw_ifnonnull (x := tgO (tgt fl root x f)) (tgt := 34) S.1 S.2.1 dX9_link_24 (by decide) (fun c1 => ?_) (fun o c1 => ?_)
    · obtain ⟨cd, ht⟩ := tgO_inl c1
      refine lv_aload_n S.1 S.2.1 dX9_link_27 rfl (lv_at hl 1 rfl) ?_
      refine lv_iload_n S.1 S.2.1 dX9_link_28 rfl (lv_at hl 2 rfl) ?_
      refine lv_iload_n S.1 S.2.1 dX9_link_29 rfl (lv_at hl 3 rfl) ?_
      refine mCV (As := [.int (x), .int (f)]) (rest := []) S (h_whyNoHolder hC hW4 hrb hfl x f cd ht) cal_X9_whyNoHolder in_470 in_471 in_472 in_2 hK hN hG hC.obj9 rfl rfl rfl hl.1 (Nat.le_of_ble_eq_true rfl) ⟨by decide, by decide⟩ ⟨rfl, rfl⟩ ⟨by decide, by decide⟩ dX9_link_30 (fun v w H locs hp hG => ?_)
      obtain ⟨rfl, hw9⟩ := hp
      have hw9 := hw9.symm
      subst hw9
      refine W.eq (g2 := F0 m 33 ls [.int (cd)]) rfl ?_
      exact mw_iret S hr hlk hK hG dX9_link_33 (by rw [lnk_c hk ht]; exact ⟨rfl, hC⟩)
    · obtain ⟨i, ht⟩ := tgO_inr c1
      obtain ⟨j, hj, hxe, hfe, hi, hjo, hif⟩ := tgt_inr ht
      have hom := hrb j hj o hjo
      have hof := hfl o hom
      rw [c1] at hl
      subst hxe
      subst hfe
      have hl : lv_has ls 6 [(4, .ref (tq q o)), (0, .ref (q 0)), (1, .int (nI (j))), (2, .int (nI (i))), (3, .int (nI (k)))] := hl
      refine lv_aload_n S.1 S.2.1 dX9_link_34 rfl (lv_at hl 1 rfl) ?_
      refine cg_RX9_25 S hK hG hC dX9_link_35 ?_
      refine lv_iload_n S.1 S.2.1 dX9_link_38 rfl (lv_at hl 4 rfl) ?_
      refine mCV (As := [.int (nI (k))]) (rest := []) S (o_thingOf hC (by omega) (nI k)) cal_X4_thingOf in_465 in_196 in_197 in_21 hK hN hG hC.obj4 rfl rfl rfl hl.1 (Nat.le_of_ble_eq_true rfl) ⟨by decide, by decide⟩ ⟨rfl, rfl⟩ ⟨by decide, by decide⟩ dX9_link_39 (fun v w H locs hp hG => ?_)
      obtain ⟨rfl, hw9⟩ := hp
      have hw9 := hw9.symm
      subst hw9
      rw [if_pos (inR_nI hk (by omega)), nI_clamp (by omega)]
      refine W.eq (g2 := F0 m 42 ls [va_rf ((root k).map (tq q))]) rfl ?_
      refine lw_astore (lv' := [(5, va_rf ((root k).map (tq q))), (4, .ref (tq q o)), (0, .ref (q 0)), (1, .int (nI (j))), (2, .int (nI (i))), (3, .int (nI (k)))]) S.1 S.2.1 dX9_link_42 hl (by decide) rfl (fun ls hl => ?_)
      refine lw_aload S.1 S.2.1 dX9_link_44 (lv_at hl 0 rfl) ?_
      refine lw_ifnonnull (x := root k) (tgt := 52) S.1 S.2.1 dX9_link_46 (by decide) (fun c2 => ?_) (fun u c2 => ?_)
      · rw [lnk_n hk ht c2]
        refine lv_bipush (v := -3) S.1 S.2.1 dX9_link_49 (by decide) ?_
        exact mw_iret S hr hlk hK hG dX9_link_51 ⟨rfl, hC⟩
      · rw [lnk_o hk ht c2]
        have hum := hrb k hk u c2
        rw [c2] at hl
        have hl : lv_has ls 6 [(5, .ref (tq q u)), (4, .ref (tq q o)), (0, .ref (q 0)), (1, .int (nI (j))), (2, .int (nI (i))), (3, .int (nI (k)))] := hl
        refine lv_aload S.1 S.2.1 dX9_link_52 (lv_at hl 1 rfl) ?_
        refine lv_iload_n S.1 S.2.1 dX9_link_54 rfl (lv_at hl 4 rfl) ?_
        refine lv_iconst (v := 0) S.1 S.2.1 dX9_link_55 (by decide) ?_
        refine lv_aload S.1 S.2.1 dX9_link_56 (lv_at hl 0 rfl) ?_
        refine mCV (As := [.int (nI (i)), .int (0), .ref (tq q u)]) (rest := []) S (t_hold hC o hom hof i hif 0 (some u) (fun z hz => by cases hz; exact hum)) cal_X6_hold in_474 in_475 in_476 in_142 hK hN hG (hC.th hom) rfl rfl rfl hl.1 (Nat.le_of_ble_eq_true rfl) ⟨by decide, by decide⟩ ⟨rfl, rfl⟩ ⟨by decide, by decide⟩ dX9_link_58 (fun v w H locs hp hG => ?_)
        obtain ⟨rfl, hC⟩ := hp
        refine W.eq (g2 := F0 m 61 ls []) rfl ?_
        refine lv_aload_n S.1 S.2.1 dX9_link_61 rfl (lv_at hl 2 rfl) ?_
        refine cg_RX9_33 S hK hG hC dX9_link_62 ?_
        refine lv_aload S.1 S.2.1 dX9_link_65 (lv_at hl 1 rfl) ?_
        rcases (show kp = 0 ∨ kp = 1 ∨ kp = 2 by omega) with hkp | hkp | hkp
        · refine mCU (As := [.ref (tq q o)]) (rest := []) S (e_isOld hC o) (va_cwO (owner := "KeptHeap$Keeper") (x := ⟨"KeptHeap$Keeper", "isOld", "(LKeptHeap$Thing;)Z"⟩) 1 S.2.2.2.2 (mGO (own := RX9) (index := 85) (x := ⟨"KeptHeap$Keeper", "isOld", "(LKeptHeap$Thing;)Z"⟩) (owner := "KeptHeap$Keeper") in_498 in_492 in_493 in_494 in_501 in_500 in_72) rfl rfl rfl in_498 (by decide +kernel) ⟨by decide, by decide⟩) hK hN hG (hC.obj5 hkp) rfl rfl rfl hl.1 (Nat.le_of_ble_eq_true rfl) ⟨by decide, by decide⟩ dX9_link_67 (fun v w H locs hp hG => ?_)
          obtain ⟨rfl, hw9⟩ := hp
          have hw9 := hw9.symm
          subst hw9
          refine W.eq (g2 := F0 m 70 ls [.int (bI false)]) rfl ?_
          refine lv_eqi (y := bI (isOldC kp Wn tad o)) (by unfold isOldC; rw [hkp]; rfl) ?_
          refine lv_if_eq (tgt := 91) S.1 S.2.1 dX9_link_70 (by decide) (fun c3 => ?_) (fun c3 => ?_)
          · have hb9 : (trm o || (isOldC kp Wn tad o && !isOldC kp Wn tad u)) = trm o := by rw [bI_f c3]; simp
            rw [← up_self trm o, ← hb9] at hC
            refine lv_iconst (v := 0) S.1 S.2.1 dX9_link_91 (by decide) ?_
            exact mw_iret S hr hlk hK hG dX9_link_92 ⟨rfl, hC⟩
          · refine lv_aload_n S.1 S.2.1 dX9_link_73 rfl (lv_at hl 2 rfl) ?_
            refine cg_RX9_33 S hK hG hC dX9_link_74 ?_
            refine lv_aload S.1 S.2.1 dX9_link_77 (lv_at hl 0 rfl) ?_
            refine mCU (As := [.ref (tq q u)]) (rest := []) S (e_isOld hC u) (va_cwO (owner := "KeptHeap$Keeper") (x := ⟨"KeptHeap$Keeper", "isOld", "(LKeptHeap$Thing;)Z"⟩) 1 S.2.2.2.2 (mGO (own := RX9) (index := 85) (x := ⟨"KeptHeap$Keeper", "isOld", "(LKeptHeap$Thing;)Z"⟩) (owner := "KeptHeap$Keeper") in_498 in_492 in_493 in_494 in_501 in_500 in_72) rfl rfl rfl in_498 (by decide +kernel) ⟨by decide, by decide⟩) hK hN hG (hC.obj5 hkp) rfl rfl rfl hl.1 (Nat.le_of_ble_eq_true rfl) ⟨by decide, by decide⟩ dX9_link_79 (fun v w H locs hp hG => ?_)
            obtain ⟨rfl, hw9⟩ := hp
            have hw9 := hw9.symm
            subst hw9
            refine W.eq (g2 := F0 m 82 ls [.int (bI false)]) rfl ?_
            refine lv_eqi (y := bI (isOldC kp Wn tad u)) (by unfold isOldC; rw [hkp]; rfl) ?_
            refine lv_if_ne (tgt := 91) S.1 S.2.1 dX9_link_82 (by decide) (fun c4 => ?_) (fun c4 => ?_)
            · have hb9 : (trm o || (isOldC kp Wn tad o && !isOldC kp Wn tad u)) = trm o := by rw [bI_t c4]; simp
              rw [← up_self trm o, ← hb9] at hC
              refine lv_iconst (v := 0) S.1 S.2.1 dX9_link_91 (by decide) ?_
              exact mw_iret S hr hlk hK hG dX9_link_92 ⟨rfl, hC⟩
            · have hb9 : (trm o || (isOldC kp Wn tad o && !isOldC kp Wn tad u)) = true := by rw [bI_t c3, bI_f c4]; simp
              refine lv_aload S.1 S.2.1 dX9_link_85 (lv_at hl 1 rfl) ?_
              refine lv_iconst (v := bI true) S.1 S.2.1 dX9_link_87 (by decide) ?_
              refine cp_RX9_89 S hK hG hC (o) (by omega) (true) dX9_link_88 (fun w H locs hC hG => ?_)
              rw [← hb9] at hC
              refine lv_iconst (v := 0) S.1 S.2.1 dX9_link_91 (by decide) ?_
              exact mw_iret S hr hlk hK hG dX9_link_92 ⟨rfl, hC⟩
        · refine mCU (As := [.ref (tq q o)]) (rest := []) S (e_isOld hC o) (va_cwO (owner := "KeptHeap$Keeper") (x := ⟨"KeptHeap$Keeper", "isOld", "(LKeptHeap$Thing;)Z"⟩) 1 S.2.2.2.2 (mGO (own := RX9) (index := 85) (x := ⟨"KeptHeap$Keeper", "isOld", "(LKeptHeap$Thing;)Z"⟩) (owner := "KeptHeap$Keeper") in_498 in_492 in_493 in_494 in_499 in_500 in_72) rfl rfl rfl in_498 (by decide +kernel) ⟨by decide, by decide⟩) hK hN hG (hC.obj1 hkp) rfl rfl rfl hl.1 (Nat.le_of_ble_eq_true rfl) ⟨by decide, by decide⟩ dX9_link_67 (fun v w H locs hp hG => ?_)
          obtain ⟨rfl, hw9⟩ := hp
          have hw9 := hw9.symm
          subst hw9
          refine W.eq (g2 := F0 m 70 ls [.int (bI false)]) rfl ?_
          refine lv_eqi (y := bI (isOldC kp Wn tad o)) (by unfold isOldC; rw [hkp]; rfl) ?_
          refine lv_if_eq (tgt := 91) S.1 S.2.1 dX9_link_70 (by decide) (fun c3 => ?_) (fun c3 => ?_)
          · have hb9 : (trm o || (isOldC kp Wn tad o && !isOldC kp Wn tad u)) = trm o := by rw [bI_f c3]; simp
            rw [← up_self trm o, ← hb9] at hC
            refine lv_iconst (v := 0) S.1 S.2.1 dX9_link_91 (by decide) ?_
            exact mw_iret S hr hlk hK hG dX9_link_92 ⟨rfl, hC⟩
          · refine lv_aload_n S.1 S.2.1 dX9_link_73 rfl (lv_at hl 2 rfl) ?_
            refine cg_RX9_33 S hK hG hC dX9_link_74 ?_
            refine lv_aload S.1 S.2.1 dX9_link_77 (lv_at hl 0 rfl) ?_
            refine mCU (As := [.ref (tq q u)]) (rest := []) S (e_isOld hC u) (va_cwO (owner := "KeptHeap$Keeper") (x := ⟨"KeptHeap$Keeper", "isOld", "(LKeptHeap$Thing;)Z"⟩) 1 S.2.2.2.2 (mGO (own := RX9) (index := 85) (x := ⟨"KeptHeap$Keeper", "isOld", "(LKeptHeap$Thing;)Z"⟩) (owner := "KeptHeap$Keeper") in_498 in_492 in_493 in_494 in_499 in_500 in_72) rfl rfl rfl in_498 (by decide +kernel) ⟨by decide, by decide⟩) hK hN hG (hC.obj1 hkp) rfl rfl rfl hl.1 (Nat.le_of_ble_eq_true rfl) ⟨by decide, by decide⟩ dX9_link_79 (fun v w H locs hp hG => ?_)
            obtain ⟨rfl, hw9⟩ := hp
            have hw9 := hw9.symm
            subst hw9
            refine W.eq (g2 := F0 m 82 ls [.int (bI false)]) rfl ?_
            refine lv_eqi (y := bI (isOldC kp Wn tad u)) (by unfold isOldC; rw [hkp]; rfl) ?_
            refine lv_if_ne (tgt := 91) S.1 S.2.1 dX9_link_82 (by decide) (fun c4 => ?_) (fun c4 => ?_)
            · have hb9 : (trm o || (isOldC kp Wn tad o && !isOldC kp Wn tad u)) = trm o := by rw [bI_t c4]; simp
              rw [← up_self trm o, ← hb9] at hC
              refine lv_iconst (v := 0) S.1 S.2.1 dX9_link_91 (by decide) ?_
              exact mw_iret S hr hlk hK hG dX9_link_92 ⟨rfl, hC⟩
            · have hb9 : (trm o || (isOldC kp Wn tad o && !isOldC kp Wn tad u)) = true := by rw [bI_t c3, bI_f c4]; simp
              refine lv_aload S.1 S.2.1 dX9_link_85 (lv_at hl 1 rfl) ?_
              refine lv_iconst (v := bI true) S.1 S.2.1 dX9_link_87 (by decide) ?_
              refine cp_RX9_89 S hK hG hC (o) (by omega) (true) dX9_link_88 (fun w H locs hC hG => ?_)
              rw [← hb9] at hC
              refine lv_iconst (v := 0) S.1 S.2.1 dX9_link_91 (by decide) ?_
              exact mw_iret S hr hlk hK hG dX9_link_92 ⟨rfl, hC⟩
        · refine mCU (As := [.ref (tq q o)]) (rest := []) S (g_isOld hC hkp hW4 o hom (htb o hom)) (va_cwO (owner := "KeptHeap$Keeper") (x := ⟨"KeptHeap$Keeper", "isOld", "(LKeptHeap$Thing;)Z"⟩) 1 S.2.2.2.2 (mGO (own := RX9) (index := 85) (x := ⟨"KeptHeap$Keeper", "isOld", "(LKeptHeap$Thing;)Z"⟩) (owner := "KeptHeap$Keeper") in_497 in_492 in_493 in_494 in_495 in_496 in_57) rfl rfl rfl in_498 (by decide +kernel) ⟨by decide, by decide⟩) hK hN hG (hC.obj0 hkp) rfl rfl rfl hl.1 (Nat.le_of_ble_eq_true rfl) ⟨by decide, by decide⟩ dX9_link_67 (fun v w H locs hp hG => ?_)
          obtain ⟨rfl, hw9⟩ := hp
          have hw9 := hw9.symm
          subst hw9
          refine W.eq (g2 := F0 m 70 ls [.int (bI (decide (Wn / 4 ≤ tad o)))]) rfl ?_
          refine lv_eqi (y := bI (isOldC kp Wn tad o)) (by unfold isOldC; rw [hkp]; rfl) ?_
          refine lv_if_eq (tgt := 91) S.1 S.2.1 dX9_link_70 (by decide) (fun c3 => ?_) (fun c3 => ?_)
          · have hb9 : (trm o || (isOldC kp Wn tad o && !isOldC kp Wn tad u)) = trm o := by rw [bI_f c3]; simp
            rw [← up_self trm o, ← hb9] at hC
            refine lv_iconst (v := 0) S.1 S.2.1 dX9_link_91 (by decide) ?_
            exact mw_iret S hr hlk hK hG dX9_link_92 ⟨rfl, hC⟩
          · refine lv_aload_n S.1 S.2.1 dX9_link_73 rfl (lv_at hl 2 rfl) ?_
            refine cg_RX9_33 S hK hG hC dX9_link_74 ?_
            refine lv_aload S.1 S.2.1 dX9_link_77 (lv_at hl 0 rfl) ?_
            refine mCU (As := [.ref (tq q u)]) (rest := []) S (g_isOld hC hkp hW4 u hum (htb u hum)) (va_cwO (owner := "KeptHeap$Keeper") (x := ⟨"KeptHeap$Keeper", "isOld", "(LKeptHeap$Thing;)Z"⟩) 1 S.2.2.2.2 (mGO (own := RX9) (index := 85) (x := ⟨"KeptHeap$Keeper", "isOld", "(LKeptHeap$Thing;)Z"⟩) (owner := "KeptHeap$Keeper") in_497 in_492 in_493 in_494 in_495 in_496 in_57) rfl rfl rfl in_498 (by decide +kernel) ⟨by decide, by decide⟩) hK hN hG (hC.obj0 hkp) rfl rfl rfl hl.1 (Nat.le_of_ble_eq_true rfl) ⟨by decide, by decide⟩ dX9_link_79 (fun v w H locs hp hG => ?_)
            obtain ⟨rfl, hw9⟩ := hp
            have hw9 := hw9.symm
            subst hw9
            refine W.eq (g2 := F0 m 82 ls [.int (bI (decide (Wn / 4 ≤ tad u)))]) rfl ?_
            refine lv_eqi (y := bI (isOldC kp Wn tad u)) (by unfold isOldC; rw [hkp]; rfl) ?_
            refine lv_if_ne (tgt := 91) S.1 S.2.1 dX9_link_82 (by decide) (fun c4 => ?_) (fun c4 => ?_)
            · have hb9 : (trm o || (isOldC kp Wn tad o && !isOldC kp Wn tad u)) = trm o := by rw [bI_t c4]; simp
              rw [← up_self trm o, ← hb9] at hC
              refine lv_iconst (v := 0) S.1 S.2.1 dX9_link_91 (by decide) ?_
              exact mw_iret S hr hlk hK hG dX9_link_92 ⟨rfl, hC⟩
            · have hb9 : (trm o || (isOldC kp Wn tad o && !isOldC kp Wn tad u)) = true := by rw [bI_t c3, bI_f c4]; simp
              refine lv_aload S.1 S.2.1 dX9_link_85 (lv_at hl 1 rfl) ?_
              refine lv_iconst (v := bI true) S.1 S.2.1 dX9_link_87 (by decide) ?_
              refine cp_RX9_89 S hK hG hC (o) (by omega) (true) dX9_link_88 (fun w H locs hC hG => ?_)
              rw [← hb9] at hC
              refine lv_iconst (v := 0) S.1 S.2.1 dX9_link_91 (by decide) ?_
              exact mw_iret S hr hlk hK hG dX9_link_92 ⟨rfl, hC⟩
  · rw [lnk_b (bI_f c0)]
    refine lv_bipush (v := -2) S.1 S.2.1 dX9_link_11 (by decide) ?_
    exact mw_iret S hr hlk hK hG dX9_link_13 ⟨rfl, hC⟩
