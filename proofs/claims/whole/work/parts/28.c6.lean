theorem mem_take {L : List Nat} {i n : Nat} (h : i < n) (h2 : i < L.length) : L.getD i 0 ∈ L.take n := by
  refine List.mem_of_getElem? (i := i) ?_
  rw [List.getElem?_take, if_pos h]
  exact getD_some h2
theorem cal_X0_take : mCal yX0_take cX0_take 2 1 (some .int) := ⟨in_152, by decide +kernel⟩
set_option maxHeartbeats 4000000 in
set_option maxRecDepth 100000 in
theorem g_take {l : Launch} {dC : Nat → ClassId} {dI : Nat → Nat → Nat} {cI cZ cT : ClassId} {q : Nat → Nat} {kp : Nat} {Wn : Nat} {made : Nat} {fl : (Nat → Nat)} {num : (Nat → Nat → Int32)} {rfs : (Nat → Nat → Option Nat)} {root : (Nat → Option Nat)} {own : (Nat → Option Nat)} {tad : (Nat → Nat)} {trm : (Nat → Bool)} {tpl : (Nat → Nat)} {wlk : (Nat → Nat)} {ord : (Nat → Nat)} {met : (Nat → Option Nat)} {msz : Nat} {cur : Nat} {mend : Nat} {pnx : Nat} {pen : Nat} {st : Nat} {coll : Nat} {mins : Nat} {movd : Nat} {w : mM} (hC : CW cI cT q kp Wn made fl num rfs root own tad trm tpl wlk ord met msz cur mend pnx pen st coll mins movd w) (hkp : kp = 2) (n : Nat) (hn : n < 1000) (h1 : pnx < 1000) (h2 : pen < 1000) : mC l yX0_take (wsY yX0_take cX0_take 2 (some .int)) { frames := 1, cells := 0, slots := 0, locals := 22 } (dC, dI) vwCl (tyL cI cZ cT) 0 0 w [.ref (q 5), .int (nI (n))] (fun v w2 => v = some (.int (oI (if pnx + n ≤ pen then some pnx else none))) ∧ CW cI cT q kp Wn made fl num rfs root own tad trm tpl wlk ord met msz cur mend ((if pnx + n ≤ pen then pnx + n else pnx)) pen st coll mins movd w2) := by
  refine mC.on (by decide) (Nat.le_of_ble_eq_true rfl) ?_
  intro p e s m args below meth c ls S hr hlk hnm hK hN hG hl
  have hl : lv_has ls 2 [(0, .ref (q 5)), (1, .int (nI (n)))] := hl
  generalize hAe : mA w s.heap.size = A at hG ⊢
  refine lv_aload_n S.1 S.2.1 dX0_take_0 rfl (lv_at hl 0 rfl) ?_
  refine cg_RX0_26 S hK hG hC hkp dX0_take_1 ?_
  refine lv_iload_n S.1 S.2.1 dX0_take_4 rfl (lv_at hl 1 rfl) ?_
  refine mCV (As := [.int (nI (n))]) (rest := []) S (p_take hC (by omega) n hn h1 h2) cal_X3_take in_153 in_154 in_155 in_67 hK hN hG (hC.obj3 (by omega)) rfl rfl rfl hl.1 (Nat.le_of_ble_eq_true rfl) ⟨by decide, by decide⟩ ⟨rfl, rfl⟩ ⟨by decide, by decide⟩ dX0_take_5 (fun v w H locs hp hG => ?_)
  obtain ⟨rfl, hC⟩ := hp
  refine W.eq (g2 := F0 m 8 ls [.int (oI (if pnx + n ≤ pen then some pnx else none))]) rfl ?_
  exact mw_iret S hr hlk hK hG dX0_take_8 ⟨rfl, hC⟩
theorem cal_X0_isOld : mCal yX0_isOld cX0_isOld 2 1 (some .boolean) := ⟨in_497, by decide +kernel⟩
set_option maxHeartbeats 4000000 in
set_option maxRecDepth 100000 in
theorem g_isOld {l : Launch} {dC : Nat → ClassId} {dI : Nat → Nat → Nat} {cI cZ cT : ClassId} {q : Nat → Nat} {kp : Nat} {Wn : Nat} {made : Nat} {fl : (Nat → Nat)} {num : (Nat → Nat → Int32)} {rfs : (Nat → Nat → Option Nat)} {root : (Nat → Option Nat)} {own : (Nat → Option Nat)} {tad : (Nat → Nat)} {trm : (Nat → Bool)} {tpl : (Nat → Nat)} {wlk : (Nat → Nat)} {ord : (Nat → Nat)} {met : (Nat → Option Nat)} {msz : Nat} {cur : Nat} {mend : Nat} {pnx : Nat} {pen : Nat} {st : Nat} {coll : Nat} {mins : Nat} {movd : Nat} {w : mM} (hC : CW cI cT q kp Wn made fl num rfs root own tad trm tpl wlk ord met msz cur mend pnx pen st coll mins movd w) (hkp : kp = 2) (hW4 : Wn ≤ 400) (k : Nat) (hk : k < made) (htb : tad k < 2147483648) : mC l yX0_isOld (wsY yX0_isOld cX0_isOld 2 (some .boolean)) { frames := 0, cells := 0, slots := 0, locals := 0 } (dC, dI) vwCl (tyL cI cZ cT) 0 0 w [.ref (q 5), .ref (tq q k)] (fun v w2 => v = some (.int (bI (decide (Wn / 4 ≤ tad k)))) ∧ w2 = w) := by
  refine mC.on (by decide) (Nat.le_of_ble_eq_true rfl) ?_
  intro p e s m args below meth c ls S hr hlk hnm hK hN hG hl
  have hl : lv_has ls 2 [(0, .ref (q 5)), (1, .ref (tq q k))] := hl
  generalize hAe : mA w s.heap.size = A at hG ⊢
  refine lv_aload_n S.1 S.2.1 dX0_isOld_0 rfl (lv_at hl 1 rfl) ?_
  refine cg_RX0_40 S hK hG hC (k) (by omega) dX0_isOld_1 ?_
  refine lv_aload_n S.1 S.2.1 dX0_isOld_4 rfl (lv_at hl 0 rfl) ?_
  refine cg_RX0_15 S hK hG hC hkp dX0_isOld_5 ?_
  refine lv_icmp_lt (tgt := 15) S.1 S.2.1 dX0_isOld_8 (by decide) (fun c1 => ?_) (fun c1 => ?_)
  · have c1 : (tad k) < (Wn / 4) := (nI_ltI (a := tad k) (b := Wn / 4) (by omega) (by omega)).mp c1
    refine lv_iconst (v := nI (0)) S.1 S.2.1 dX0_isOld_15 (by decide) ?_
    exact mw_zret S hr (by decide) hlk hK hG dX0_isOld_16 ⟨by rw [decide_eq_false (by omega)]; rfl, rfl⟩
  · have c1 : ¬ ((tad k) < (Wn / 4)) := fun h9 => c1 ((nI_ltI (a := tad k) (b := Wn / 4) (by omega) (by omega)).mpr h9)
    refine lv_iconst (v := nI (1)) S.1 S.2.1 dX0_isOld_11 (by decide) ?_
    refine lv_goto (tgt := 16) S.1 S.2.1 dX0_isOld_12 (by decide) ?_
    exact mw_zret S hr (by decide) hlk hK hG dX0_isOld_16 ⟨by rw [decide_eq_true (by omega)]; rfl, rfl⟩
theorem cal_X2_isOld : mCal yX2_isOld cX2_isOld 2 1 (some .boolean) := ⟨in_498, by decide +kernel⟩
set_option maxHeartbeats 4000000 in
set_option maxRecDepth 100000 in
theorem e_isOld {l : Launch} {dC : Nat → ClassId} {dI : Nat → Nat → Nat} {cI cZ cT : ClassId} {q : Nat → Nat} {kp : Nat} {Wn : Nat} {made : Nat} {fl : (Nat → Nat)} {num : (Nat → Nat → Int32)} {rfs : (Nat → Nat → Option Nat)} {root : (Nat → Option Nat)} {own : (Nat → Option Nat)} {tad : (Nat → Nat)} {trm : (Nat → Bool)} {tpl : (Nat → Nat)} {wlk : (Nat → Nat)} {ord : (Nat → Nat)} {met : (Nat → Option Nat)} {msz : Nat} {cur : Nat} {mend : Nat} {pnx : Nat} {pen : Nat} {st : Nat} {coll : Nat} {mins : Nat} {movd : Nat} {w : mM} (hC : CW cI cT q kp Wn made fl num rfs root own tad trm tpl wlk ord met msz cur mend pnx pen st coll mins movd w) (k : Nat) : mC l yX2_isOld (wsY yX2_isOld cX2_isOld 2 (some .boolean)) { frames := 0, cells := 0, slots := 0, locals := 0 } (dC, dI) vwCl (tyL cI cZ cT) 0 0 w [.ref (q 5), .ref (tq q k)] (fun v w2 => v = some (.int (bI false)) ∧ w2 = w) := by
  refine mC.on (by decide) (Nat.le_of_ble_eq_true rfl) ?_
  intro p e s m args below meth c ls S hr hlk hnm hK hN hG hl
  have hl : lv_has ls 2 [(0, .ref (q 5)), (1, .ref (tq q k))] := hl
  generalize hAe : mA w s.heap.size = A at hG ⊢
  refine lv_iconst (v := bI false) S.1 S.2.1 dX2_isOld_0 (by decide) ?_
  exact mw_zret S hr (by decide) hlk hK hG dX2_isOld_1 ⟨rfl, rfl⟩
theorem cal_X2_gatherYoung : mCal yX2_gatherYoung cX2_gatherYoung 1 0 (some .int) := ⟨in_578, by decide +kernel⟩
set_option maxHeartbeats 4000000 in
set_option maxRecDepth 100000 in
theorem e_gatherYoung {l : Launch} {dC : Nat → ClassId} {dI : Nat → Nat → Nat} {cI cZ cT : ClassId} {q : Nat → Nat} {kp : Nat} {Wn : Nat} {made : Nat} {fl : (Nat → Nat)} {num : (Nat → Nat → Int32)} {rfs : (Nat → Nat → Option Nat)} {root : (Nat → Option Nat)} {own : (Nat → Option Nat)} {tad : (Nat → Nat)} {trm : (Nat → Bool)} {tpl : (Nat → Nat)} {wlk : (Nat → Nat)} {ord : (Nat → Nat)} {met : (Nat → Option Nat)} {msz : Nat} {cur : Nat} {mend : Nat} {pnx : Nat} {pen : Nat} {st : Nat} {coll : Nat} {mins : Nat} {movd : Nat} {w : mM} (hC : CW cI cT q kp Wn made fl num rfs root own tad trm tpl wlk ord met msz cur mend pnx pen st coll mins movd w)  : mC l yX2_gatherYoung (wsY yX2_gatherYoung cX2_gatherYoung 1 (some .int)) { frames := 0, cells := 0, slots := 0, locals := 0 } (dC, dI) vwCl (tyL cI cZ cT) 0 0 w [.ref (q 5)] (fun v w2 => v = some (.int (-2)) ∧ w2 = w) := by
  refine mC.on (by decide) (Nat.le_of_ble_eq_true rfl) ?_
  intro p e s m args below meth c ls S hr hlk hnm hK hN hG hl
  have hl : lv_has ls 1 [(0, .ref (q 5))] := hl
  generalize hAe : mA w s.heap.size = A at hG ⊢
  refine lv_bipush (v := -2) S.1 S.2.1 dX2_gatherYoung_0 (by decide) ?_
  exact mw_iret S hr hlk hK hG dX2_gatherYoung_2 ⟨rfl, rfl⟩
theorem cal_X0_meetByRemembered : mCal yX0_meetByRemembered cX0_meetByRemembered 3 0 none := ⟨in_210, by decide +kernel⟩
set_option maxHeartbeats 4000000 in
set_option maxRecDepth 100000 in
theorem g_meetByRemembered {l : Launch} {dC : Nat → ClassId} {dI : Nat → Nat → Nat} {cI cZ cT : ClassId} {q : Nat → Nat} {kp : Nat} {Wn : Nat} {made : Nat} {fl : (Nat → Nat)} {num : (Nat → Nat → Int32)} {rfs : (Nat → Nat → Option Nat)} {root : (Nat → Option Nat)} {own : (Nat → Option Nat)} {tad : (Nat → Nat)} {trm : (Nat → Bool)} {tpl : (Nat → Nat)} {cur : Nat} {mend : Nat} {pnx : Nat} {pen : Nat} {st : Nat} {coll : Nat} {mins : Nat} {movd : Nat} {mt : Nat → Option Nat} {ms2 : Nat} {wl od : Nat → Nat} {Kp : Nat → Prop} (hB : ∀ M : List Nat, M.Nodup → (∀ x ∈ M, Kp x) → M.length ≤ Wn) (hKm : ∀ x, Kp x → x < made) (hKf : ∀ x, Kp x → ∀ i, i < fl x → ∀ t, rfs x i = some t → Kp t) (hfl : ∀ x, x < made → fl x ≤ 6) {w : mM} (hC : CW cI cT q kp Wn made fl num rfs root own tad trm tpl wl od mt ms2 cur mend pnx pen st coll mins movd w) (hkp : kp = 2) (hW4 : Wn ≤ 400) (hcb : cur < 2147483648) (hmb : mend ≤ 400) (htb : ∀ t, t < made → tad t < 2147483648) (hob : ∀ k t, own k = some t → t < made) (hKo : ∀ k t, Wn / 4 ≤ k → own k = some t → Kp t) {L : List Nat} (hL : LsC made cur ms2 mt wl od L) (hKL : ∀ x ∈ L, Kp x) : mC l yX0_meetByRemembered (wsY yX0_meetByRemembered cX0_meetByRemembered 3 none) { frames := 2, cells := 0, slots := 0, locals := 43 } (dC, dI) vwCl (tyL cI cZ cT) 0 0 w [.ref (q 5)] (fun v w2 => v = none ∧ ∃ (mt3 : Nat → Option Nat) (ms3 : Nat) (wl3 od3 : Nat → Nat), CW cI cT q kp Wn made fl num rfs root own tad trm tpl wl3 od3 mt3 ms3 cur mend pnx pen st coll mins movd w2 ∧ LsC made cur ms3 mt3 wl3 od3 (rmb (okC tad mend) fl rfs own tad trm (Wn / 4) (Wn - Wn / 4) L)) := by
  refine mC.on (by decide) (Nat.le_of_ble_eq_true rfl) ?_
  intro p e s m args below meth c ls S hr hlk hnm hK hN hG hl
  have hl : lv_has ls 3 [(0, .ref (q 5))] := hl
  generalize hAe : mA w s.heap.size = A at hG ⊢
  refine lv_aload_n S.1 S.2.1 dX0_meetByRemembered_0 rfl (lv_at hl 0 rfl) ?_
  refine cg_RX0_15 S hK hG hC hkp dX0_meetByRemembered_1 ?_
  refine lv_istore_n (lv' := [(1, .int (nI (Wn / 4))), (0, .ref (q 5))]) S.1 S.2.1 dX0_meetByRemembered_4 rfl hl (by decide) rfl (fun ls hl => ?_)
  have L9 : ∀ (fu : Nat) (n : Nat) (mt : Nat → Option Nat) (ms2 : Nat) (wl : Nat → Nat) (od : Nat → Nat), Wn - Wn / 4 - n < fu → (n ≤ Wn - Wn / 4) → (LsC made cur ms2 mt wl od (rmb (okC tad mend) fl rfs own tad trm (Wn / 4) n L)) → ∀ (w : mM) (H : Heap) (locs : List Loc), CW cI cT q kp Wn made fl num rfs root own tad trm tpl wl od mt ms2 cur mend pnx pen st coll mins movd w → mG (dC, dI) vwCl A s.heap w H locs → ∀ ls : Array Slot, lv_has ls 3 [(1, .int (nI (Wn / 4 + n))), (0, .ref (q 5))] → W p l e { frames := 2, cells := 0, slots := 0, locals := 43 } s m args below meth c H locs 0 0 (MQ below (mQ (dC, dI) vwCl (tyL cI cZ cT) (fun v w2 => v = none ∧ ∃ (mt3 : Nat → Option Nat) (ms3 : Nat) (wl3 od3 : Nat → Nat), CW cI cT q kp Wn made fl num rfs root own tad trm tpl wl3 od3 mt3 ms3 cur mend pnx pen st coll mins movd w2 ∧ LsC made cur ms3 mt3 wl3 od3 (rmb (okC tad mend) fl rfs own tad trm (Wn / 4) (Wn - Wn / 4) L)) A) args s 0 0 A) (F0 m 5 ls []) := by
    intro fu
    induction fu with
    | zero => intro n mt ms2 wl od h1; exact absurd h1 (Nat.not_lt_zero _)
    | succ fu ihL9 =>
      intro n mt ms2 wl od h1 h2 hLd w H locs hC hG ls hl
      have hKd : ∀ x ∈ rmb (okC tad mend) fl rfs own tad trm (Wn / 4) n L, Kp x := rmb_all hKL n (fun k hk t ht i hi u hu _ => hKf t (hKo _ t (by omega) (bgn_own ht).1) i hi u hu)
      refine lv_iload_n S.1 S.2.1 dX0_meetByRemembered_5 rfl (lv_at hl 0 rfl) ?_
      refine lv_aload_n S.1 S.2.1 dX0_meetByRemembered_6 rfl (lv_at hl 1 rfl) ?_
      refine cg_RX0_88 S hK hG hC hkp dX0_meetByRemembered_7 ?_
      refine mCV (As := []) (rest := [.int (nI (Wn / 4 + n))]) S (w_length hC) cal_X8_length in_112 in_85 in_86 in_18 hK hN hG hC.obj8 rfl rfl rfl hl.1 (Nat.le_of_ble_eq_true rfl) ⟨by decide, by decide⟩ ⟨rfl, rfl⟩ ⟨by decide, by decide⟩ dX0_meetByRemembered_10 (fun v w H locs hp hG => ?_)
      obtain ⟨rfl, hw9⟩ := hp
      have hw9 := hw9.symm
      subst hw9
      refine W.eq (g2 := F0 m 13 ls [.int (nI (Wn)), .int (nI (Wn / 4 + n))]) rfl ?_
      refine lv_icmp_ge (tgt := 50) S.1 S.2.1 dX0_meetByRemembered_13 (by decide) (fun c1 => ?_) (fun c1 => ?_)
      · have c1 : Wn ≤ (Wn / 4 + n) := (nI_leI (a := Wn) (b := Wn / 4 + n) (by omega) (by omega)).mp c1
        have hn : n = Wn - Wn / 4 := by omega
        rw [hn] at hLd
        exact mw_vret S hr hlk hK hG dX0_meetByRemembered_50 ⟨rfl, mt, ms2, wl, od, hC, hLd⟩
      · have c1 : ¬ (Wn ≤ (Wn / 4 + n)) := fun h9 => c1 ((nI_leI (a := Wn) (b := Wn / 4 + n) (by omega) (by omega)).mpr h9)
        refine lv_aload_n S.1 S.2.1 dX0_meetByRemembered_16 rfl (lv_at hl 1 rfl) ?_
        refine cg_RX0_88 S hK hG hC hkp dX0_meetByRemembered_17 ?_
        refine lv_iload_n S.1 S.2.1 dX0_meetByRemembered_20 rfl (lv_at hl 0 rfl) ?_
        refine mCV (As := [.int (nI (Wn / 4 + n))]) (rest := []) S (w_beginningAt hC hob (by omega) htb (Wn / 4 + n) (by omega)) cal_X8_beginningAt in_212 in_213 in_214 in_18 hK hN hG hC.obj8 rfl rfl rfl hl.1 (Nat.le_of_ble_eq_true rfl) ⟨by decide, by decide⟩ ⟨rfl, rfl⟩ ⟨by decide, by decide⟩ dX0_meetByRemembered_21 (fun v w H locs hp hG => ?_)
        obtain ⟨rfl, hw9⟩ := hp
        have hw9 := hw9.symm
        subst hw9
        refine W.eq (g2 := F0 m 24 ls [va_rf ((bgn own tad (Wn / 4 + n)).map (tq q))]) rfl ?_
        refine lw_astore_n (lv' := [(2, va_rf ((bgn own tad (Wn / 4 + n)).map (tq q))), (1, .int (nI (Wn / 4 + n))), (0, .ref (q 5))]) S.1 S.2.1 dX0_meetByRemembered_24 rfl hl (by decide) rfl (fun ls hl => ?_)
        refine lw_aload_n S.1 S.2.1 dX0_meetByRemembered_25 rfl (lv_at hl 0 rfl) ?_
        refine lw_ifnull (x := bgn own tad (Wn / 4 + n)) (tgt := 44) S.1 S.2.1 dX0_meetByRemembered_26 (by decide) (fun c2 => ?_) (fun t c2 => ?_)
        · rw [← rmb_n (trm := trm) c2] at hLd
          refine lv_iinc (v := nI (Wn / 4 + n + 1)) (lv' := [(1, .int (nI (Wn / 4 + n + 1))), (2, va_rf ((bgn own tad (Wn / 4 + n)).map (tq q))), (0, .ref (q 5))]) S.1 S.2.1 dX0_meetByRemembered_44 hl (k := 1) rfl (nI_1 _) (by decide) rfl (fun ls hl => ?_)
          refine lv_goto (tgt := 5) S.1 S.2.1 dX0_meetByRemembered_47 (by decide) ?_
          exact ihL9 (n + 1) mt ms2 wl od (by omega) (by omega) hLd _ _ _ hC hG ls (lv_sub hl [0, 2] rfl)
        · have htm := hob _ t (bgn_own c2).1
          have hKt := hKo _ t (by omega) (bgn_own c2).1
          rw [c2] at hl
          have hl : lv_has ls 3 [(2, .ref (tq q t)), (1, .int (nI (Wn / 4 + n))), (0, .ref (q 5))] := hl
          refine lv_aload_n S.1 S.2.1 dX0_meetByRemembered_29 rfl (lv_at hl 0 rfl) ?_
          refine cg_RX0_115 S hK hG hC (t) (by omega) dX0_meetByRemembered_30 ?_
          refine lv_if_eq (tgt := 44) S.1 S.2.1 dX0_meetByRemembered_33 (by decide) (fun c3 => ?_) (fun c3 => ?_)
          · rw [← rmb_f c2 (bI_f c3)] at hLd
            refine lv_iinc (v := nI (Wn / 4 + n + 1)) (lv' := [(1, .int (nI (Wn / 4 + n + 1))), (2, .ref (tq q t)), (0, .ref (q 5))]) S.1 S.2.1 dX0_meetByRemembered_44 hl (k := 1) rfl (nI_1 _) (by decide) rfl (fun ls hl => ?_)
            refine lv_goto (tgt := 5) S.1 S.2.1 dX0_meetByRemembered_47 (by decide) ?_
            exact ihL9 (n + 1) mt ms2 wl od (by omega) (by omega) hLd _ _ _ hC hG ls (lv_sub hl [0, 2] rfl)
          · refine lv_aload_n S.1 S.2.1 dX0_meetByRemembered_36 rfl (lv_at hl 2 rfl) ?_
            refine cg_RX0_55 S hK hG hC hkp dX0_meetByRemembered_37 ?_
            refine lv_aload_n S.1 S.2.1 dX0_meetByRemembered_40 rfl (lv_at hl 0 rfl) ?_
            refine mCV (As := [.ref (tq q t)]) (rest := []) S (k_meetTargetsOf hB hKm hKf hfl hC hW4 hcb hmb htb hLd hKd t hKt) cal_X7_meetTargetsOf in_221 in_222 in_223 in_79 hK hN hG hC.obj7 rfl rfl rfl hl.1 (Nat.le_of_ble_eq_true rfl) ⟨by decide, by decide⟩ ⟨rfl, rfl⟩ ⟨by decide, by decide⟩ dX0_meetByRemembered_41 (fun v w H locs hp hG => ?_)
            obtain ⟨rfl, mt4, ms4, wl4, od4, hC, hLe⟩ := hp
            rw [← rmb_t c2 (bI_t c3)] at hLe
            refine W.eq (g2 := F0 m 44 ls []) rfl ?_
            refine lv_iinc (v := nI (Wn / 4 + n + 1)) (lv' := [(1, .int (nI (Wn / 4 + n + 1))), (2, .ref (tq q t)), (0, .ref (q 5))]) S.1 S.2.1 dX0_meetByRemembered_44 hl (k := 1) rfl (nI_1 _) (by decide) rfl (fun ls hl => ?_)
            refine lv_goto (tgt := 5) S.1 S.2.1 dX0_meetByRemembered_47 (by decide) ?_
            exact ihL9 (n + 1) mt4 ms4 wl4 od4 (by omega) (by omega) hLe _ _ _ hC hG ls (lv_sub hl [0, 2] rfl)
  exact L9 (Wn - Wn / 4 + 1) 0 mt ms2 wl od (by omega) (by omega) hL _ _ _ (hC) hG ls (lv_sub hl [0, 1] rfl)
theorem cal_X0_reserve : mCal yX0_reserve cX0_reserve 4 0 (some .int) := ⟨in_243, by decide +kernel⟩
set_option maxHeartbeats 4000000 in
set_option maxRecDepth 100000 in
theorem g_reserve {l : Launch} {dC : Nat → ClassId} {dI : Nat → Nat → Nat} {cI cZ cT : ClassId} {q : Nat → Nat} {kp : Nat} {Wn : Nat} {made : Nat} {fl : (Nat → Nat)} {num : (Nat → Nat → Int32)} {rfs : (Nat → Nat → Option Nat)} {root : (Nat → Option Nat)} {own : (Nat → Option Nat)} {tad : (Nat → Nat)} {trm : (Nat → Bool)} {tpl : (Nat → Nat)} {wlk : (Nat → Nat)} {ord : (Nat → Nat)} {met : (Nat → Option Nat)} {msz : Nat} {cur : Nat} {mend : Nat} {pnx : Nat} {pen : Nat} {st : Nat} {coll : Nat} {mins : Nat} {movd : Nat} {w : mM} (hC : CW cI cT q kp Wn made fl num rfs root own tad trm tpl wlk ord met msz cur mend pnx pen st coll mins movd w) (hkp : kp = 2) {L : List Nat} (hL : LsC made cur msz met wlk ord L) (hlen : L.length ≤ Wn) (hW4 : Wn ≤ 400) (hfl : ∀ x, x < made → fl x ≤ 6) : mC l yX0_reserve (wsY yX0_reserve cX0_reserve 4 (some .int)) { frames := 2, cells := 0, slots := 0, locals := 47 } (dC, dI) vwCl (tyL cI cZ cT) 0 0 w [.ref (q 5)] (fun v w2 => ∃ (i : Nat) (ow2 : Nat → Option Nat) (tp2 : Nat → Nat), v = some (.int (nI i)) ∧ CW cI cT q kp Wn made fl num rfs root ow2 tad trm tp2 wlk ord met msz cur mend pnx pen st coll mins movd w2 ∧ i ≤ L.length ∧ lay fl Wn (L.take i) (own, tpl) = some (ow2, tp2) ∧ (i < L.length → lay fl Wn (L.take (i + 1)) (own, tpl) = none)) := by
  refine mC.on (by decide) (Nat.le_of_ble_eq_true rfl) ?_
  intro p e s m args below meth c ls S hr hlk hnm hK hN hG hl
  have hl : lv_has ls 4 [(0, .ref (q 5))] := hl
  generalize hAe : mA w s.heap.size = A at hG ⊢
  have hmsz := hL.2.1
  refine lv_iconst (v := nI (0)) S.1 S.2.1 dX0_reserve_0 (by decide) ?_
  refine lv_istore_n (lv' := [(1, .int (nI (0))), (0, .ref (q 5))]) S.1 S.2.1 dX0_reserve_1 rfl hl (by decide) rfl (fun ls hl => ?_)
  have L9 : ∀ (fu : Nat) (i : Nat) (ow2 : Nat → Option Nat) (tp2 : Nat → Nat), L.length - i < fu → (i ≤ L.length) → (lay fl Wn (L.take i) (own, tpl) = some (ow2, tp2)) → ∀ (w : mM) (H : Heap) (locs : List Loc), CW cI cT q kp Wn made fl num rfs root ow2 tad trm tp2 wlk ord met msz cur mend pnx pen st coll mins movd w → mG (dC, dI) vwCl A s.heap w H locs → ∀ ls : Array Slot, lv_has ls 4 [(1, .int (nI (i))), (0, .ref (q 5))] → W p l e { frames := 2, cells := 0, slots := 0, locals := 47 } s m args below meth c H locs 0 0 (MQ below (mQ (dC, dI) vwCl (tyL cI cZ cT) (fun v w2 => ∃ (i : Nat) (ow2 : Nat → Option Nat) (tp2 : Nat → Nat), v = some (.int (nI i)) ∧ CW cI cT q kp Wn made fl num rfs root ow2 tad trm tp2 wlk ord met msz cur mend pnx pen st coll mins movd w2 ∧ i ≤ L.length ∧ lay fl Wn (L.take i) (own, tpl) = some (ow2, tp2) ∧ (i < L.length → lay fl Wn (L.take (i + 1)) (own, tpl) = none)) A) args s 0 0 A) (F0 m 2 ls []) := by
    intro fu
    induction fu with
    | zero => intro i ow2 tp2 h1; exact absurd h1 (Nat.not_lt_zero _)
    | succ fu ihL9 =>
      intro i ow2 tp2 h1 h2 hLay w H locs hC hG ls hl
      refine lv_iload_n S.1 S.2.1 dX0_reserve_2 rfl (lv_at hl 0 rfl) ?_
      refine lv_aload_n S.1 S.2.1 dX0_reserve_3 rfl (lv_at hl 1 rfl) ?_
      refine cg_RX0_55 S hK hG hC hkp dX0_reserve_4 ?_
      refine mCV (As := []) (rest := [.int (nI (i))]) S (k_size hC) cal_X7_size in_245 in_246 in_247 in_79 hK hN hG hC.obj7 rfl rfl rfl hl.1 (Nat.le_of_ble_eq_true rfl) ⟨by decide, by decide⟩ ⟨rfl, rfl⟩ ⟨by decide, by decide⟩ dX0_reserve_7 (fun v w H locs hp hG => ?_)
      obtain ⟨rfl, hw9⟩ := hp
      have hw9 := hw9.symm
      subst hw9
      refine W.eq (g2 := F0 m 10 ls [.int (nI (msz)), .int (nI (i))]) rfl ?_
      refine lv_icmp_ge (tgt := 81) S.1 S.2.1 dX0_reserve_10 (by decide) (fun c1 => ?_) (fun c1 => ?_)
      · have c1 : msz ≤ i := (nI_leI (a := msz) (b := i) (by omega) (by omega)).mp c1
        have hi : i = msz := by omega
        refine lv_aload_n S.1 S.2.1 dX0_reserve_81 rfl (lv_at hl 1 rfl) ?_
        refine cg_RX0_55 S hK hG hC hkp dX0_reserve_82 ?_
        refine mCV (As := []) (rest := []) S (k_size hC) cal_X7_size in_245 in_246 in_247 in_79 hK hN hG hC.obj7 rfl rfl rfl hl.1 (Nat.le_of_ble_eq_true rfl) ⟨by decide, by decide⟩ ⟨rfl, rfl⟩ ⟨by decide, by decide⟩ dX0_reserve_85 (fun v w H locs hp hG => ?_)
        obtain ⟨rfl, hw9⟩ := hp
        have hw9 := hw9.symm
        subst hw9
        refine W.eq (g2 := F0 m 88 ls [.int (nI (msz))]) rfl ?_
        exact mw_iret S hr hlk hK hG dX0_reserve_88 ⟨i, ow2, tp2, by rw [hi], hC, by omega, hLay, fun z => by omega⟩
      · have c1 : ¬ (msz ≤ i) := fun h9 => c1 ((nI_leI (a := msz) (b := i) (by omega) (by omega)).mpr h9)
        have hrow := LsC_row hL (show i < msz by omega)
        have hxm := hrow.2.2
        have hi2 : i < L.length := by omega
        have hf6 := hfl _ hxm
        have hnx := lay_s hi2 hLay
        refine lv_aload_n S.1 S.2.1 dX0_reserve_13 rfl (lv_at hl 1 rfl) ?_
        refine cg_RX0_55 S hK hG hC hkp dX0_reserve_14 ?_
        refine lv_iload_n S.1 S.2.1 dX0_reserve_17 rfl (lv_at hl 0 rfl) ?_
        refine mCV (As := [.int (nI (i))]) (rest := []) S (k_thingOf hC (by omega) i (by omega) (by omega)) cal_X7_thingOf in_249 in_250 in_251 in_79 hK hN hG hC.obj7 rfl rfl rfl hl.1 (Nat.le_of_ble_eq_true rfl) ⟨by decide, by decide⟩ ⟨rfl, rfl⟩ ⟨by decide, by decide⟩ dX0_reserve_18 (fun v w H locs hp hG => ?_)
        obtain ⟨rfl, hw9⟩ := hp
        have hw9 := hw9.symm
        subst hw9
        refine W.eq (g2 := F0 m 21 ls [va_rf ((met i).map (tq q))]) rfl ?_
        rw [hrow.1]
        refine W.eq (g2 := F0 m 21 ls [.ref (tq q (L.getD i 0))]) rfl ?_
        refine lv_astore_n (lv' := [(2, .ref (tq q (L.getD i 0))), (1, .int (nI (i))), (0, .ref (q 5))]) S.1 S.2.1 dX0_reserve_21 rfl hl (by decide) rfl (fun ls hl => ?_)
        refine lv_aload_n S.1 S.2.1 dX0_reserve_22 rfl (lv_at hl 0 rfl) ?_
        refine lv_ifnonnull (tgt := 30) S.1 S.2.1 dX0_reserve_23 (by decide) ?_
        refine lv_aload_n S.1 S.2.1 dX0_reserve_30 rfl (lv_at hl 2 rfl) ?_
        refine cg_RX0_88 S hK hG hC hkp dX0_reserve_31 ?_
        refine lv_aload_n S.1 S.2.1 dX0_reserve_34 rfl (lv_at hl 2 rfl) ?_
        refine cg_RX0_15 S hK hG hC hkp dX0_reserve_35 ?_
        refine lv_aload_n S.1 S.2.1 dX0_reserve_38 rfl (lv_at hl 0 rfl) ?_
        refine mCV (As := []) (rest := [.int (nI (Wn / 4)), .ref (q 1)]) S (t_size hC (L.getD i 0) hxm) cal_X6_size in_253 in_254 in_255 in_142 hK hN hG (hC.th hxm) rfl rfl rfl hl.1 (Nat.le_of_ble_eq_true rfl) ⟨by decide, by decide⟩ ⟨rfl, rfl⟩ ⟨by decide, by decide⟩ dX0_reserve_39 (fun v w H locs hp hG => ?_)
        obtain ⟨rfl, hw9⟩ := hp
        have hw9 := hw9.symm
        subst hw9
        refine W.eq (g2 := F0 m 42 ls [.int (nI (fl (L.getD i 0) + 1)), .int (nI (Wn / 4)), .ref (q 1)]) rfl ?_
        refine mCV (As := [.int (nI (Wn / 4)), .int (nI (fl (L.getD i 0) + 1))]) (rest := []) S (w_gapFrom hC (by omega) (Wn / 4) (fl (L.getD i 0) + 1) (by omega) (by omega) (by omega) hW4) cal_X8_gapFrom in_257 in_167 in_168 in_18 hK hN hG hC.obj8 rfl rfl rfl hl.1 (Nat.le_of_ble_eq_true rfl) ⟨by decide, by decide⟩ ⟨rfl, rfl⟩ ⟨by decide, by decide⟩ dX0_reserve_42 (fun v w H locs hp hG => ?_)
        obtain ⟨rfl, hw9⟩ := hp
        have hw9 := hw9.symm
        subst hw9
        refine W.eq (g2 := F0 m 45 ls [.int (oI (fit ow2 Wn (Wn / 4) (fl (L.getD i 0) + 1)))]) rfl ?_
        cases hfit : fit ow2 Wn (Wn / 4) (fl (L.getD i 0) + 1) with
        | none =>
          refine W.eq (g2 := F0 m 45 ls [.int (-1)]) rfl ?_
          refine lv_istore_n (lv' := [(3, .int (-1)), (2, .ref (tq q (L.getD i 0))), (1, .int (nI (i))), (0, .ref (q 5))]) S.1 S.2.1 dX0_reserve_45 rfl hl (by decide) rfl (fun ls hl => ?_)
          refine lv_aload_n S.1 S.2.1 dX0_reserve_46 rfl (lv_at hl 1 rfl) ?_
          refine lv_ifnull S.1 S.2.1 dX0_reserve_47 ?_
          refine lv_iload_n S.1 S.2.1 dX0_reserve_50 rfl (lv_at hl 0 rfl) ?_
          refine lv_iconst (v := -1) S.1 S.2.1 dX0_reserve_51 (by decide) ?_
          refine lv_icmp_ne (tgt := 57) S.1 S.2.1 dX0_reserve_52 (by decide) (fun c2 => ?_) (fun c2 => ?_)
          · exact absurd rfl c2
          · refine lv_iload_n S.1 S.2.1 dX0_reserve_55 rfl (lv_at hl 2 rfl) ?_
            exact mw_iret S hr hlk hK hG dX0_reserve_56 ⟨i, ow2, tp2, rfl, hC, by omega, hLay, fun _ => by rw [hnx]; exact lyS_n hfit⟩
        | some pp =>
          have hfk := fit_ok (by omega) hfit
          refine W.eq (g2 := F0 m 45 ls [.int (nI (pp))]) rfl ?_
          refine lv_istore_n (lv' := [(3, .int (nI (pp))), (2, .ref (tq q (L.getD i 0))), (1, .int (nI (i))), (0, .ref (q 5))]) S.1 S.2.1 dX0_reserve_45 rfl hl (by decide) rfl (fun ls hl => ?_)
          refine lv_aload_n S.1 S.2.1 dX0_reserve_46 rfl (lv_at hl 1 rfl) ?_
          refine lv_ifnull S.1 S.2.1 dX0_reserve_47 ?_
          refine lv_iload_n S.1 S.2.1 dX0_reserve_50 rfl (lv_at hl 0 rfl) ?_
          refine lv_iconst (v := -1) S.1 S.2.1 dX0_reserve_51 (by decide) ?_
          refine lv_icmp_ne (tgt := 57) S.1 S.2.1 dX0_reserve_52 (by decide) (fun c2 => ?_) (fun c2 => ?_)
          · refine lv_aload_n S.1 S.2.1 dX0_reserve_57 rfl (lv_at hl 1 rfl) ?_
            refine lv_iload_n S.1 S.2.1 dX0_reserve_58 rfl (lv_at hl 0 rfl) ?_
            refine cp_RX0_131 S hK hG hC (L.getD i 0) (by omega) (pp) dX0_reserve_59 (fun w H locs hC hG => ?_)
            refine lv_aload_n S.1 S.2.1 dX0_reserve_62 rfl (lv_at hl 3 rfl) ?_
            refine cg_RX0_88 S hK hG hC hkp dX0_reserve_63 ?_
            refine lv_iload_n S.1 S.2.1 dX0_reserve_66 rfl (lv_at hl 0 rfl) ?_
            refine lv_aload_n S.1 S.2.1 dX0_reserve_67 rfl (lv_at hl 1 rfl) ?_
            refine mCV (As := []) (rest := [.int (nI (pp)), .ref (q 1)]) S (t_size hC (L.getD i 0) hxm) cal_X6_size in_253 in_254 in_255 in_142 hK hN hG (hC.th hxm) rfl rfl rfl hl.1 (Nat.le_of_ble_eq_true rfl) ⟨by decide, by decide⟩ ⟨rfl, rfl⟩ ⟨by decide, by decide⟩ dX0_reserve_68 (fun v w H locs hp hG => ?_)
            obtain ⟨rfl, hw9⟩ := hp
            have hw9 := hw9.symm
            subst hw9
            refine W.eq (g2 := F0 m 71 ls [.int (nI (fl (L.getD i 0) + 1)), .int (nI (pp)), .ref (q 1)]) rfl ?_
            refine lv_aload_n S.1 S.2.1 dX0_reserve_71 rfl (lv_at hl 1 rfl) ?_
            refine mCV (As := [.int (nI (pp)), .int (nI (fl (L.getD i 0) + 1)), .ref (tq q (L.getD i 0))]) (rest := []) S (w_fill hC (by omega) pp (fl (L.getD i 0) + 1) (by omega) (some (L.getD i 0)) (fun u hu => by cases hu; exact hxm)) cal_X8_fill in_258 in_259 in_260 in_18 hK hN hG hC.obj8 rfl rfl rfl hl.1 (Nat.le_of_ble_eq_true rfl) ⟨by decide, by decide⟩ ⟨rfl, rfl⟩ ⟨by decide, by decide⟩ dX0_reserve_72 (fun v w H locs hp hG => ?_)
            obtain ⟨rfl, hC⟩ := hp
            refine W.eq (g2 := F0 m 75 ls []) rfl ?_
            refine lv_iinc (v := nI (i + 1)) (lv' := [(1, .int (nI (i + 1))), (3, .int (nI (pp))), (2, .ref (tq q (L.getD i 0))), (0, .ref (q 5))]) S.1 S.2.1 dX0_reserve_75 hl (k := 2) rfl (nI_1 _) (by decide) rfl (fun ls hl => ?_)
            refine lv_goto (tgt := 2) S.1 S.2.1 dX0_reserve_78 (by decide) ?_
            exact ihL9 (i + 1) _ _ (by omega) (by omega) (by rw [hnx]; exact lyS_o hfit) _ _ _ hC hG ls (lv_sub hl [0, 3] rfl)
          · exact absurd c2 (nI_m1 (by omega))
  exact L9 (L.length + 1) 0 own tpl (by omega) (by omega) rfl _ _ _ (hC) hG ls (lv_sub hl [0, 1] rfl)
theorem cal_X0_giveBack : mCal yX0_giveBack cX0_giveBack 4 1 none := ⟨in_266, by decide +kernel⟩
set_option maxHeartbeats 4000000 in
set_option maxRecDepth 100000 in
theorem g_giveBack {l : Launch} {dC : Nat → ClassId} {dI : Nat → Nat → Nat} {cI cZ cT : ClassId} {q : Nat → Nat} {kp : Nat} {Wn : Nat} {made : Nat} {fl : (Nat → Nat)} {num : (Nat → Nat → Int32)} {rfs : (Nat → Nat → Option Nat)} {root : (Nat → Option Nat)} {own : (Nat → Option Nat)} {tad : (Nat → Nat)} {trm : (Nat → Bool)} {tpl : (Nat → Nat)} {wlk : (Nat → Nat)} {ord : (Nat → Nat)} {met : (Nat → Option Nat)} {msz : Nat} {cur : Nat} {mend : Nat} {pnx : Nat} {pen : Nat} {st : Nat} {coll : Nat} {mins : Nat} {movd : Nat} {w : mM} (hC : CW cI cT q kp Wn made fl num rfs root own tad trm tpl wlk ord met msz cur mend pnx pen st coll mins movd w) (hkp : kp = 2) {L : List Nat} (hL : LsC made cur msz met wlk ord L) (hlen : L.length ≤ Wn) (hW4 : Wn ≤ 400) (hfl : ∀ x, x < made → fl x ≤ 6) (n : Nat) (hn : n ≤ L.length) (hpl : ∀ x ∈ L.take n, tpl x + fl x < Wn) : mC l yX0_giveBack (wsY yX0_giveBack cX0_giveBack 4 none) { frames := 2, cells := 0, slots := 0, locals := 47 } (dC, dI) vwCl (tyL cI cZ cT) 0 0 w [.ref (q 5), .int (nI (n))] (fun v w2 => v = none ∧ CW cI cT q kp Wn made fl num rfs root (gbO fl tpl own (L.take n)) tad trm tpl wlk ord met msz cur mend pnx pen st coll mins movd w2) := by
  refine mC.on (by decide) (Nat.le_of_ble_eq_true rfl) ?_
  intro p e s m args below meth c ls S hr hlk hnm hK hN hG hl
  have hl : lv_has ls 4 [(0, .ref (q 5)), (1, .int (nI (n)))] := hl
  generalize hAe : mA w s.heap.size = A at hG ⊢
  have hmsz := hL.2.1
  refine lv_iconst (v := nI (0)) S.1 S.2.1 dX0_giveBack_0 (by decide) ?_
  refine lv_istore_n (lv' := [(2, .int (nI (0))), (0, .ref (q 5)), (1, .int (nI (n)))]) S.1 S.2.1 dX0_giveBack_1 rfl hl (by decide) rfl (fun ls hl => ?_)
  have L9 : ∀ (fu : Nat) (i : Nat), n - i < fu → (i ≤ n) → ∀ (w : mM) (H : Heap) (locs : List Loc), CW cI cT q kp Wn made fl num rfs root (gbO fl tpl own (L.take i)) tad trm tpl wlk ord met msz cur mend pnx pen st coll mins movd w → mG (dC, dI) vwCl A s.heap w H locs → ∀ ls : Array Slot, lv_has ls 4 [(2, .int (nI (i))), (0, .ref (q 5)), (1, .int (nI (n)))] → W p l e { frames := 2, cells := 0, slots := 0, locals := 47 } s m args below meth c H locs 0 0 (MQ below (mQ (dC, dI) vwCl (tyL cI cZ cT) (fun v w2 => v = none ∧ CW cI cT q kp Wn made fl num rfs root (gbO fl tpl own (L.take n)) tad trm tpl wlk ord met msz cur mend pnx pen st coll mins movd w2) A) args s 0 0 A) (F0 m 2 ls []) := by
    intro fu
    induction fu with
    | zero => intro i h1; exact absurd h1 (Nat.not_lt_zero _)
    | succ fu ihL9 =>
      intro i h1 h2 w H locs hC hG ls hl
      refine lv_iload_n S.1 S.2.1 dX0_giveBack_2 rfl (lv_at hl 0 rfl) ?_
      refine lv_iload_n S.1 S.2.1 dX0_giveBack_3 rfl (lv_at hl 2 rfl) ?_
      refine lv_icmp_ge (tgt := 42) S.1 S.2.1 dX0_giveBack_4 (by decide) (fun c1 => ?_) (fun c1 => ?_)
      · have c1 : n ≤ i := (nI_leI (a := n) (b := i) (by omega) (by omega)).mp c1
        have hi : i = n := by omega
        rw [hi] at hC
        exact mw_vret S hr hlk hK hG dX0_giveBack_42 ⟨rfl, hC⟩
      · have c1 : ¬ (n ≤ i) := fun h9 => c1 ((nI_leI (a := n) (b := i) (by omega) (by omega)).mpr h9)
        have hrow := LsC_row hL (show i < msz by omega)
        have hxm := hrow.2.2
        have hi2 : i < L.length := by omega
        have hf6 := hfl _ hxm
        have hpx := hpl (L.getD i 0) (mem_take (by omega) hi2)
        refine lv_aload_n S.1 S.2.1 dX0_giveBack_7 rfl (lv_at hl 1 rfl) ?_
        refine cg_RX0_55 S hK hG hC hkp dX0_giveBack_8 ?_
        refine lv_iload_n S.1 S.2.1 dX0_giveBack_11 rfl (lv_at hl 0 rfl) ?_
        refine mCV (As := [.int (nI (i))]) (rest := []) S (k_thingOf hC (by omega) i (by omega) (by omega)) cal_X7_thingOf in_249 in_250 in_251 in_79 hK hN hG hC.obj7 rfl rfl rfl hl.1 (Nat.le_of_ble_eq_true rfl) ⟨by decide, by decide⟩ ⟨rfl, rfl⟩ ⟨by decide, by decide⟩ dX0_giveBack_12 (fun v w H locs hp hG => ?_)
        obtain ⟨rfl, hw9⟩ := hp
        have hw9 := hw9.symm
        subst hw9
        refine W.eq (g2 := F0 m 15 ls [va_rf ((met i).map (tq q))]) rfl ?_
        rw [hrow.1]
        refine W.eq (g2 := F0 m 15 ls [.ref (tq q (L.getD i 0))]) rfl ?_
        refine lv_astore_n (lv' := [(3, .ref (tq q (L.getD i 0))), (2, .int (nI (i))), (0, .ref (q 5)), (1, .int (nI (n)))]) S.1 S.2.1 dX0_giveBack_15 rfl hl (by decide) rfl (fun ls hl => ?_)
        refine lv_aload_n S.1 S.2.1 dX0_giveBack_16 rfl (lv_at hl 0 rfl) ?_
        refine lv_ifnull S.1 S.2.1 dX0_giveBack_17 ?_
        refine lv_aload_n S.1 S.2.1 dX0_giveBack_20 rfl (lv_at hl 2 rfl) ?_
        refine cg_RX0_88 S hK hG hC hkp dX0_giveBack_21 ?_
        refine lv_aload_n S.1 S.2.1 dX0_giveBack_24 rfl (lv_at hl 0 rfl) ?_
        refine cg_RX0_131 S hK hG hC (L.getD i 0) (by omega) dX0_giveBack_25 ?_
        refine lv_aload_n S.1 S.2.1 dX0_giveBack_28 rfl (lv_at hl 0 rfl) ?_
        refine mCV (As := []) (rest := [.int (nI (tpl (L.getD i 0))), .ref (q 1)]) S (t_size hC (L.getD i 0) hxm) cal_X6_size in_253 in_254 in_255 in_142 hK hN hG (hC.th hxm) rfl rfl rfl hl.1 (Nat.le_of_ble_eq_true rfl) ⟨by decide, by decide⟩ ⟨rfl, rfl⟩ ⟨by decide, by decide⟩ dX0_giveBack_29 (fun v w H locs hp hG => ?_)
        obtain ⟨rfl, hw9⟩ := hp
        have hw9 := hw9.symm
        subst hw9
        refine W.eq (g2 := F0 m 32 ls [.int (nI (fl (L.getD i 0) + 1)), .int (nI (tpl (L.getD i 0))), .ref (q 1)]) rfl ?_
        refine lv_null S.1 S.2.1 dX0_giveBack_32 ?_
        refine mCV (As := [.int (nI (tpl (L.getD i 0))), .int (nI (fl (L.getD i 0) + 1)), .null]) (rest := []) S (w_fill hC (by omega) (tpl (L.getD i 0)) (fl (L.getD i 0) + 1) (by omega) none (fun u hu => by cases hu)) cal_X8_fill in_258 in_259 in_260 in_18 hK hN hG hC.obj8 rfl rfl rfl hl.1 (Nat.le_of_ble_eq_true rfl) ⟨by decide, by decide⟩ ⟨rfl, rfl⟩ ⟨by decide, by decide⟩ dX0_giveBack_33 (fun v w H locs hp hG => ?_)
        obtain ⟨rfl, hC⟩ := hp
        refine W.eq (g2 := F0 m 36 ls []) rfl ?_
        have hC : CW cI cT q kp Wn made fl num rfs root (gbO fl tpl own (L.take (i + 1))) tad trm tpl wlk ord met msz cur mend pnx pen st coll mins movd w := by unfold gbO; rw [fold_s hi2]; exact hC
        refine lv_iinc (v := nI (i + 1)) (lv' := [(2, .int (nI (i + 1))), (3, .ref (tq q (L.getD i 0))), (0, .ref (q 5)), (1, .int (nI (n)))]) S.1 S.2.1 dX0_giveBack_36 hl (k := 1) rfl (nI_1 _) (by decide) rfl (fun ls hl => ?_)
        refine lv_goto (tgt := 2) S.1 S.2.1 dX0_giveBack_39 (by decide) ?_
        exact ihL9 (i + 1) (by omega) (by omega) _ _ _ hC hG ls (lv_sub hl [0, 2, 3] rfl)
  exact L9 (n + 1) 0 (by omega) (by omega) _ _ _ (hC) hG ls (lv_sub hl [0, 1, 2] rfl)
theorem cal_X0_goOver : mCal yX0_goOver cX0_goOver 3 0 none := ⟨in_275, by decide +kernel⟩
set_option maxHeartbeats 4000000 in
set_option maxRecDepth 100000 in
theorem g_goOver {l : Launch} {dC : Nat → ClassId} {dI : Nat → Nat → Nat} {cI cZ cT : ClassId} {q : Nat → Nat} {kp : Nat} {Wn : Nat} {made : Nat} {fl : (Nat → Nat)} {num : (Nat → Nat → Int32)} {rfs : (Nat → Nat → Option Nat)} {root : (Nat → Option Nat)} {own : (Nat → Option Nat)} {tad : (Nat → Nat)} {trm : (Nat → Bool)} {tpl : (Nat → Nat)} {wlk : (Nat → Nat)} {ord : (Nat → Nat)} {met : (Nat → Option Nat)} {msz : Nat} {cur : Nat} {mend : Nat} {pnx : Nat} {pen : Nat} {st : Nat} {coll : Nat} {mins : Nat} {movd : Nat} {w : mM} (hC : CW cI cT q kp Wn made fl num rfs root own tad trm tpl wlk ord met msz cur mend pnx pen st coll mins movd w) (hkp : kp = 2) {L : List Nat} (hL : LsC made cur msz met wlk ord L) (hlen : L.length ≤ Wn) (hW4 : Wn ≤ 400) (hfl : ∀ x, x < made → fl x ≤ 6) : mC l yX0_goOver (wsY yX0_goOver cX0_goOver 3 none) { frames := 1, cells := 0, slots := 0, locals := 21 } (dC, dI) vwCl (tyL cI cZ cT) 0 0 w [.ref (q 5)] (fun v w2 => v = none ∧ CW cI cT q kp Wn made fl num rfs root own (goT tpl tad L) trm tpl wlk ord met msz cur mend pnx pen st coll mins (movd + L.length) w2) := by
  refine mC.on (by decide) (Nat.le_of_ble_eq_true rfl) ?_
  intro p e s m args below meth c ls S hr hlk hnm hK hN hG hl
  have hl : lv_has ls 3 [(0, .ref (q 5))] := hl
  generalize hAe : mA w s.heap.size = A at hG ⊢
  have hmsz := hL.2.1
  refine lv_iconst (v := nI (0)) S.1 S.2.1 dX0_goOver_0 (by decide) ?_
  refine lv_istore_n (lv' := [(1, .int (nI (0))), (0, .ref (q 5))]) S.1 S.2.1 dX0_goOver_1 rfl hl (by decide) rfl (fun ls hl => ?_)
  have L9 : ∀ (fu : Nat) (i : Nat), L.length - i < fu → (i ≤ L.length) → ∀ (w : mM) (H : Heap) (locs : List Loc), CW cI cT q kp Wn made fl num rfs root own (goT tpl tad (L.take i)) trm tpl wlk ord met msz cur mend pnx pen st coll mins (movd + i) w → mG (dC, dI) vwCl A s.heap w H locs → ∀ ls : Array Slot, lv_has ls 3 [(1, .int (nI (i))), (0, .ref (q 5))] → W p l e { frames := 1, cells := 0, slots := 0, locals := 21 } s m args below meth c H locs 0 0 (MQ below (mQ (dC, dI) vwCl (tyL cI cZ cT) (fun v w2 => v = none ∧ CW cI cT q kp Wn made fl num rfs root own (goT tpl tad L) trm tpl wlk ord met msz cur mend pnx pen st coll mins (movd + L.length) w2) A) args s 0 0 A) (F0 m 2 ls []) := by
    intro fu
    induction fu with
    | zero => intro i h1; exact absurd h1 (Nat.not_lt_zero _)
    | succ fu ihL9 =>
      intro i h1 h2 w H locs hC hG ls hl
      refine lv_iload_n S.1 S.2.1 dX0_goOver_2 rfl (lv_at hl 0 rfl) ?_
      refine lv_aload_n S.1 S.2.1 dX0_goOver_3 rfl (lv_at hl 1 rfl) ?_
      refine cg_RX0_55 S hK hG hC hkp dX0_goOver_4 ?_
      refine mCV (As := []) (rest := [.int (nI (i))]) S (k_size hC) cal_X7_size in_245 in_246 in_247 in_79 hK hN hG hC.obj7 rfl rfl rfl hl.1 (Nat.le_of_ble_eq_true rfl) ⟨by decide, by decide⟩ ⟨rfl, rfl⟩ ⟨by decide, by decide⟩ dX0_goOver_7 (fun v w H locs hp hG => ?_)
      obtain ⟨rfl, hw9⟩ := hp
      have hw9 := hw9.symm
      subst hw9
      refine W.eq (g2 := F0 m 10 ls [.int (nI (msz)), .int (nI (i))]) rfl ?_
      refine lv_icmp_ge (tgt := 50) S.1 S.2.1 dX0_goOver_10 (by decide) (fun c1 => ?_) (fun c1 => ?_)
      · have c1 : msz ≤ i := (nI_leI (a := msz) (b := i) (by omega) (by omega)).mp c1
        have hi : i = L.length := by omega
        rw [hi, take_all (Nat.le_refl _)] at hC
        exact mw_vret S hr hlk hK hG dX0_goOver_50 ⟨rfl, hC⟩
      · have c1 : ¬ (msz ≤ i) := fun h9 => c1 ((nI_leI (a := msz) (b := i) (by omega) (by omega)).mpr h9)
        have hrow := LsC_row hL (show i < msz by omega)
        have hxm := hrow.2.2
        have hi2 : i < L.length := by omega
        refine lv_aload_n S.1 S.2.1 dX0_goOver_13 rfl (lv_at hl 1 rfl) ?_
        refine cg_RX0_55 S hK hG hC hkp dX0_goOver_14 ?_
        refine lv_iload_n S.1 S.2.1 dX0_goOver_17 rfl (lv_at hl 0 rfl) ?_
        refine mCV (As := [.int (nI (i))]) (rest := []) S (k_thingOf hC (by omega) i (by omega) (by omega)) cal_X7_thingOf in_249 in_250 in_251 in_79 hK hN hG hC.obj7 rfl rfl rfl hl.1 (Nat.le_of_ble_eq_true rfl) ⟨by decide, by decide⟩ ⟨rfl, rfl⟩ ⟨by decide, by decide⟩ dX0_goOver_18 (fun v w H locs hp hG => ?_)
        obtain ⟨rfl, hw9⟩ := hp
        have hw9 := hw9.symm
        subst hw9
        refine W.eq (g2 := F0 m 21 ls [va_rf ((met i).map (tq q))]) rfl ?_
        rw [hrow.1]
        refine W.eq (g2 := F0 m 21 ls [.ref (tq q (L.getD i 0))]) rfl ?_
        refine lv_astore_n (lv' := [(2, .ref (tq q (L.getD i 0))), (1, .int (nI (i))), (0, .ref (q 5))]) S.1 S.2.1 dX0_goOver_21 rfl hl (by decide) rfl (fun ls hl => ?_)
        refine lv_aload_n S.1 S.2.1 dX0_goOver_22 rfl (lv_at hl 0 rfl) ?_
        refine lv_ifnull S.1 S.2.1 dX0_goOver_23 ?_
        refine lv_aload_n S.1 S.2.1 dX0_goOver_26 rfl (lv_at hl 0 rfl) ?_
        refine lv_aload_n S.1 S.2.1 dX0_goOver_27 rfl (lv_at hl 0 rfl) ?_
        refine cg_RX0_131 S hK hG hC (L.getD i 0) (by omega) dX0_goOver_28 ?_
        refine cp_RX0_40 S hK hG hC (L.getD i 0) (by omega) (tpl (L.getD i 0)) dX0_goOver_31 (fun w H locs hC hG => ?_)
        refine lv_aload_n S.1 S.2.1 dX0_goOver_34 rfl (lv_at hl 2 rfl) ?_
        refine lv_dup S.1 S.2.1 dX0_goOver_35 rfl ?_
        refine cg_RX0_134 S hK hG hC hkp dX0_goOver_36 ?_
        refine lv_iconst (v := nI (1)) S.1 S.2.1 dX0_goOver_39 (by decide) ?_
        refine lv_iadd S.1 S.2.1 dX0_goOver_40 ?_
        refine lv_eqi (nI_add _ _) ?_
        refine cp_RX0_134 S hK hG hC hkp ((movd + i) + 1) dX0_goOver_41 (fun w H locs hC hG => ?_)
        have hC : CW cI cT q kp Wn made fl num rfs root own (goT tpl tad (L.take (i + 1))) trm tpl wlk ord met msz cur mend pnx pen st coll mins (movd + (i + 1)) w := by unfold goT; rw [fold_s hi2]; exact hC
        refine lv_iinc (v := nI (i + 1)) (lv' := [(1, .int (nI (i + 1))), (2, .ref (tq q (L.getD i 0))), (0, .ref (q 5))]) S.1 S.2.1 dX0_goOver_44 hl (k := 1) rfl (nI_1 _) (by decide) rfl (fun ls hl => ?_)
        refine lv_goto (tgt := 2) S.1 S.2.1 dX0_goOver_47 (by decide) ?_
        exact ihL9 (i + 1) (by omega) (by omega) _ _ _ hC hG ls (lv_sub hl [0, 2] rfl)
  exact L9 (L.length + 1) 0 (by omega) (by omega) _ _ _ (hC) hG ls (lv_sub hl [0, 1] rfl)
theorem cal_X0_forget : mCal yX0_forget cX0_forget 3 0 none := ⟨in_282, by decide +kernel⟩
set_option maxHeartbeats 4000000 in
set_option maxRecDepth 100000 in
theorem g_forget {l : Launch} {dC : Nat → ClassId} {dI : Nat → Nat → Nat} {cI cZ cT : ClassId} {q : Nat → Nat} {kp : Nat} {Wn : Nat} {made : Nat} {fl : (Nat → Nat)} {num : (Nat → Nat → Int32)} {rfs : (Nat → Nat → Option Nat)} {root : (Nat → Option Nat)} {own : (Nat → Option Nat)} {tad : (Nat → Nat)} {trm : (Nat → Bool)} {tpl : (Nat → Nat)} {wlk : (Nat → Nat)} {ord : (Nat → Nat)} {met : (Nat → Option Nat)} {msz : Nat} {cur : Nat} {mend : Nat} {pnx : Nat} {pen : Nat} {st : Nat} {coll : Nat} {mins : Nat} {movd : Nat} {w : mM} (hC : CW cI cT q kp Wn made fl num rfs root own tad trm tpl wlk ord met msz cur mend pnx pen st coll mins movd w) (hkp : kp = 2) (hW4 : Wn ≤ 400) (hob : ∀ k t, own k = some t → t < made) (htb : ∀ t, t < made → tad t < 2147483648) : mC l yX0_forget (wsY yX0_forget cX0_forget 3 none) { frames := 2, cells := 0, slots := 0, locals := 43 } (dC, dI) vwCl (tyL cI cZ cT) 0 0 w [.ref (q 5)] (fun v w2 => v = none ∧ CW cI cT q kp Wn made fl num rfs root own tad (fgt own tad (Wn / 4) (Wn - Wn / 4) trm) tpl wlk ord met msz cur mend pnx pen st coll mins movd w2) := by
  refine mC.on (by decide) (Nat.le_of_ble_eq_true rfl) ?_
  intro p e s m args below meth c ls S hr hlk hnm hK hN hG hl
  have hl : lv_has ls 3 [(0, .ref (q 5))] := hl
  generalize hAe : mA w s.heap.size = A at hG ⊢
  refine lv_aload_n S.1 S.2.1 dX0_forget_0 rfl (lv_at hl 0 rfl) ?_
  refine cg_RX0_15 S hK hG hC hkp dX0_forget_1 ?_
  refine lv_istore_n (lv' := [(1, .int (nI (Wn / 4))), (0, .ref (q 5))]) S.1 S.2.1 dX0_forget_4 rfl hl (by decide) rfl (fun ls hl => ?_)
  have L9 : ∀ (fu : Nat) (n : Nat), Wn - Wn / 4 - n < fu → (n ≤ Wn - Wn / 4) → ∀ (w : mM) (H : Heap) (locs : List Loc), CW cI cT q kp Wn made fl num rfs root own tad (fgt own tad (Wn / 4) n trm) tpl wlk ord met msz cur mend pnx pen st coll mins movd w → mG (dC, dI) vwCl A s.heap w H locs → ∀ ls : Array Slot, lv_has ls 3 [(1, .int (nI (Wn / 4 + n))), (0, .ref (q 5))] → W p l e { frames := 2, cells := 0, slots := 0, locals := 43 } s m args below meth c H locs 0 0 (MQ below (mQ (dC, dI) vwCl (tyL cI cZ cT) (fun v w2 => v = none ∧ CW cI cT q kp Wn made fl num rfs root own tad (fgt own tad (Wn / 4) (Wn - Wn / 4) trm) tpl wlk ord met msz cur mend pnx pen st coll mins movd w2) A) args s 0 0 A) (F0 m 5 ls []) := by
    intro fu
    induction fu with
    | zero => intro n h1; exact absurd h1 (Nat.not_lt_zero _)
    | succ fu ihL9 =>
      intro n h1 h2 w H locs hC hG ls hl
      refine lv_iload_n S.1 S.2.1 dX0_forget_5 rfl (lv_at hl 0 rfl) ?_
      refine lv_aload_n S.1 S.2.1 dX0_forget_6 rfl (lv_at hl 1 rfl) ?_
      refine cg_RX0_88 S hK hG hC hkp dX0_forget_7 ?_
      refine mCV (As := []) (rest := [.int (nI (Wn / 4 + n))]) S (w_length hC) cal_X8_length in_112 in_85 in_86 in_18 hK hN hG hC.obj8 rfl rfl rfl hl.1 (Nat.le_of_ble_eq_true rfl) ⟨by decide, by decide⟩ ⟨rfl, rfl⟩ ⟨by decide, by decide⟩ dX0_forget_10 (fun v w H locs hp hG => ?_)
      obtain ⟨rfl, hw9⟩ := hp
      have hw9 := hw9.symm
      subst hw9
      refine W.eq (g2 := F0 m 13 ls [.int (nI (Wn)), .int (nI (Wn / 4 + n))]) rfl ?_
      refine lv_icmp_ge (tgt := 40) S.1 S.2.1 dX0_forget_13 (by decide) (fun c1 => ?_) (fun c1 => ?_)
      · have c1 : Wn ≤ (Wn / 4 + n) := (nI_leI (a := Wn) (b := Wn / 4 + n) (by omega) (by omega)).mp c1
        have hn : n = Wn - Wn / 4 := by omega
        rw [hn] at hC
        exact mw_vret S hr hlk hK hG dX0_forget_40 ⟨rfl, hC⟩
      · have c1 : ¬ (Wn ≤ (Wn / 4 + n)) := fun h9 => c1 ((nI_leI (a := Wn) (b := Wn / 4 + n) (by omega) (by omega)).mpr h9)
        refine lv_aload_n S.1 S.2.1 dX0_forget_16 rfl (lv_at hl 1 rfl) ?_
        refine cg_RX0_88 S hK hG hC hkp dX0_forget_17 ?_
        refine lv_iload_n S.1 S.2.1 dX0_forget_20 rfl (lv_at hl 0 rfl) ?_
        refine mCV (As := [.int (nI (Wn / 4 + n))]) (rest := []) S (w_beginningAt hC hob (by omega) htb (Wn / 4 + n) (by omega)) cal_X8_beginningAt in_212 in_213 in_214 in_18 hK hN hG hC.obj8 rfl rfl rfl hl.1 (Nat.le_of_ble_eq_true rfl) ⟨by decide, by decide⟩ ⟨rfl, rfl⟩ ⟨by decide, by decide⟩ dX0_forget_21 (fun v w H locs hp hG => ?_)
        obtain ⟨rfl, hw9⟩ := hp
        have hw9 := hw9.symm
        subst hw9
        refine W.eq (g2 := F0 m 24 ls [va_rf ((bgn own tad (Wn / 4 + n)).map (tq q))]) rfl ?_
        refine lw_astore_n (lv' := [(2, va_rf ((bgn own tad (Wn / 4 + n)).map (tq q))), (1, .int (nI (Wn / 4 + n))), (0, .ref (q 5))]) S.1 S.2.1 dX0_forget_24 rfl hl (by decide) rfl (fun ls hl => ?_)
        refine lw_aload_n S.1 S.2.1 dX0_forget_25 rfl (lv_at hl 0 rfl) ?_
        refine lw_ifnull (x := bgn own tad (Wn / 4 + n)) (tgt := 34) S.1 S.2.1 dX0_forget_26 (by decide) (fun c2 => ?_) (fun t c2 => ?_)
        · rw [show fgt own tad (Wn / 4) (n) trm = fgt own tad (Wn / 4) (n + 1) trm by rw [fgt.eq_2, c2]] at hC
          refine lv_iinc (v := nI (Wn / 4 + n + 1)) (lv' := [(1, .int (nI (Wn / 4 + n + 1))), (2, va_rf ((bgn own tad (Wn / 4 + n)).map (tq q))), (0, .ref (q 5))]) S.1 S.2.1 dX0_forget_34 hl (k := 1) rfl (nI_1 _) (by decide) rfl (fun ls hl => ?_)
          refine lv_goto (tgt := 5) S.1 S.2.1 dX0_forget_37 (by decide) ?_
          exact ihL9 (n + 1) (by omega) (by omega) _ _ _ hC hG ls (lv_sub hl [0, 2] rfl)
        · have htm := hob _ t (bgn_own c2).1
          rw [c2] at hl
          have hl : lv_has ls 3 [(2, .ref (tq q t)), (1, .int (nI (Wn / 4 + n))), (0, .ref (q 5))] := hl
          refine lv_aload_n S.1 S.2.1 dX0_forget_29 rfl (lv_at hl 0 rfl) ?_
          refine lv_iconst (v := bI false) S.1 S.2.1 dX0_forget_30 (by decide) ?_
          refine cp_RX0_115 S hK hG hC (t) (by omega) (false) dX0_forget_31 (fun w H locs hC hG => ?_)
          rw [show va_up (fgt own tad (Wn / 4) (n) trm) t false = fgt own tad (Wn / 4) (n + 1) trm by rw [fgt.eq_2, c2]] at hC
          refine lv_iinc (v := nI (Wn / 4 + n + 1)) (lv' := [(1, .int (nI (Wn / 4 + n + 1))), (2, .ref (tq q t)), (0, .ref (q 5))]) S.1 S.2.1 dX0_forget_34 hl (k := 1) rfl (nI_1 _) (by decide) rfl (fun ls hl => ?_)
          refine lv_goto (tgt := 5) S.1 S.2.1 dX0_forget_37 (by decide) ?_
          exact ihL9 (n + 1) (by omega) (by omega) _ _ _ hC hG ls (lv_sub hl [0, 2] rfl)
  exact L9 (Wn - Wn / 4 + 1) 0 (by omega) (by omega) _ _ _ (hC) hG ls (lv_sub hl [0, 1] rfl)
