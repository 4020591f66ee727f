theorem cal_X8_gapFrom : mCal yX8_gapFrom cX8_gapFrom 5 2 (some .int) := ⟨in_169, by decide +kernel⟩
set_option maxHeartbeats 4000000 in
set_option maxRecDepth 100000 in
theorem w_gapFrom {l : Launch} {dC : Nat → ClassId} {dI : Nat → Nat → Nat} {cI cZ cT : ClassId} {q : Nat → Nat} {kp : Nat} {Wn : Nat} {made : Nat} {fl : (Nat → Nat)} {num : (Nat → Nat → Int32)} {rfs : (Nat → Nat → Option Nat)} {root : (Nat → Option Nat)} {own : (Nat → Option Nat)} {tad : (Nat → Nat)} {trm : (Nat → Bool)} {tpl : (Nat → Nat)} {wlk : (Nat → Nat)} {ord : (Nat → Nat)} {met : (Nat → Option Nat)} {msz : Nat} {cur : Nat} {mend : Nat} {pnx : Nat} {pen : Nat} {st : Nat} {coll : Nat} {mins : Nat} {movd : Nat} {w : mM} (hC : CW cI cT q kp Wn made fl num rfs root own tad trm tpl wlk ord met msz cur mend pnx pen st coll mins movd w) (hW : Wn < 1000) (f many : Nat) (hf : f ≤ 400) (hm : 1 ≤ many) (hm2 : many ≤ 7) (hW4 : Wn ≤ 400) : mC l yX8_gapFrom (wsY yX8_gapFrom cX8_gapFrom 5 (some .int)) { frames := 1, cells := 0, slots := 0, locals := 21 } (dC, dI) vwCl (tyL cI cZ cT) 0 0 w [.ref (q 1), .int (nI (f)), .int (nI (many))] (fun v w2 => v = some (.int (oI (fit own Wn f many))) ∧ w2 = w) := by
  refine mC.on (by decide) (Nat.le_of_ble_eq_true rfl) ?_
  intro p e s m args below meth c ls S hr hlk hnm hK hN hG hl
  have hl : lv_has ls 5 [(0, .ref (q 1)), (1, .int (nI (f))), (2, .int (nI (many)))] := hl
  generalize hAe : mA w s.heap.size = A at hG ⊢
  refine lv_iconst (v := nI (0)) S.1 S.2.1 dX8_gapFrom_0 (by decide) ?_
  refine lv_istore_n (lv' := [(3, .int (nI (0))), (0, .ref (q 1)), (1, .int (nI (f))), (2, .int (nI (many)))]) S.1 S.2.1 dX8_gapFrom_1 rfl hl (by decide) rfl (fun ls hl => ?_)
  refine lv_iconst (v := nI (0)) S.1 S.2.1 dX8_gapFrom_2 (by decide) ?_
  refine lv_iload_n S.1 S.2.1 dX8_gapFrom_3 rfl (lv_at hl 2 rfl) ?_
  refine va_mmax S.1 S.2.1 (S.2.2.1.trans hl.1.symm) S.2.2.2.1 (S.2.2.2.2 _ in_40) (S.2.2.2.2 _ in_34) (S.2.2.2.2 _ in_31) (S.2.2.2.2 _ in_35) (by decide) (Nat.le_of_ble_eq_true rfl) (by decide) (by decide) dX8_gapFrom_4 ?_
  refine lv_eqi (y := nI (f)) (max0 (by omega)) ?_
  refine lv_istore (lv' := [(4, .int (nI (f))), (3, .int (nI (0))), (0, .ref (q 1)), (1, .int (nI (f))), (2, .int (nI (many)))]) S.1 S.2.1 dX8_gapFrom_7 hl (by decide) rfl (fun ls hl => ?_)
  have L : ∀ (fu : Nat) (k : Nat) (fr : Nat), Wn + 1 - k < fu → (fr ≤ k) → (k ≤ 400) → (fitR own Wn many (Wn + 1 - k) k fr = fit own Wn f many) → ∀ ls : Array Slot, lv_has ls 5 [(4, .int (nI (k))), (3, .int (nI (fr))), (0, .ref (q 1)), (1, .int (nI (f))), (2, .int (nI (many)))] → W p l e { frames := 1, cells := 0, slots := 0, locals := 21 } s m args below meth c s.heap [] 0 0 (MQ below (mQ (dC, dI) vwCl (tyL cI cZ cT) (fun v w2 => v = some (.int (oI (fit own Wn f many))) ∧ w2 = w) A) args s 0 0 A) (F0 m 9 ls []) := by
    intro fu
    induction fu with
    | zero => intro k fr h1; exact absurd h1 (Nat.not_lt_zero _)
    | succ fu ihL =>
      intro k fr h1 h2 h3 h4 ls hl
      refine lv_iload S.1 S.2.1 dX8_gapFrom_9 (lv_at hl 0 rfl) ?_
      refine lv_aload_n S.1 S.2.1 dX8_gapFrom_11 rfl (lv_at hl 2 rfl) ?_
      refine cg_RX8_17 S hK hG hC dX8_gapFrom_12 ?_
      refine cn_own S hK hG hC dX8_gapFrom_15 ?_
      refine lv_icmp_ge (tgt := 55) S.1 S.2.1 dX8_gapFrom_16 (by decide) (fun c1 => ?_) (fun c1 => ?_)
      · have c1 : Wn ≤ k := (nI_leI (a := Wn) (b := k) (by omega) (by omega)).mp c1
        refine lv_iconst (v := -1) S.1 S.2.1 dX8_gapFrom_55 (by decide) ?_
        rw [fitR_ge c1] at h4
        exact mw_iret S hr hlk hK hG dX8_gapFrom_56 ⟨by rw [← h4]; rfl, rfl⟩
      · have c1 : ¬ (Wn ≤ k) := fun h9 => c1 ((nI_leI (a := Wn) (b := k) (by omega) (by omega)).mpr h9)
        refine lv_aload_n S.1 S.2.1 dX8_gapFrom_19 rfl (lv_at hl 2 rfl) ?_
        refine cg_RX8_17 S hK hG hC dX8_gapFrom_20 ?_
        refine lv_iload S.1 S.2.1 dX8_gapFrom_23 (lv_at hl 0 rfl) ?_
        refine cl_own S hK hG hC (k) (by omega) (by omega) dX8_gapFrom_25 ?_
        have hn : Wn + 1 - k = (Wn - k) + 1 := by omega
        rw [hn] at h4
        refine lw_ifnonnull (x := own k) (tgt := 35) S.1 S.2.1 dX8_gapFrom_26 (by decide) (fun c2 => ?_) (fun t c2 => ?_)
        · refine lv_iload_n S.1 S.2.1 dX8_gapFrom_29 rfl (lv_at hl 1 rfl) ?_
          refine lv_iconst (v := nI (1)) S.1 S.2.1 dX8_gapFrom_30 (by decide) ?_
          refine lv_iadd S.1 S.2.1 dX8_gapFrom_31 ?_
          refine lv_eqi (nI_add _ _) ?_
          refine lv_goto (tgt := 36) S.1 S.2.1 dX8_gapFrom_32 (by decide) ?_
          refine lv_istore_n (lv' := [(3, .int (nI (fr + 1))), (4, .int (nI (k))), (0, .ref (q 1)), (1, .int (nI (f))), (2, .int (nI (many)))]) S.1 S.2.1 dX8_gapFrom_36 rfl hl (by decide) rfl (fun ls hl => ?_)
          refine lv_iload_n S.1 S.2.1 dX8_gapFrom_37 rfl (lv_at hl 0 rfl) ?_
          refine lv_iload_n S.1 S.2.1 dX8_gapFrom_38 rfl (lv_at hl 4 rfl) ?_
          refine lv_icmp_ne (tgt := 49) S.1 S.2.1 dX8_gapFrom_39 (by decide) (fun c3 => ?_) (fun c3 => ?_)
          · have c3 : ¬ ((fr + 1) = many) := fun h9 => c3 ((nI_eq (a := fr + 1) (b := many) (by omega) (by omega)).mpr h9)
            rw [fitR_go (by omega) (by rw [if_pos c2]; exact c3)] at h4
            refine lv_iinc (v := nI (k + 1)) (lv' := [(4, .int (nI (k + 1))), (3, .int (nI (fr + 1))), (0, .ref (q 1)), (1, .int (nI (f))), (2, .int (nI (many)))]) S.1 S.2.1 dX8_gapFrom_49 hl (k := 1) rfl (nI_1 _) (by decide) rfl (fun ls hl => ?_)
            refine lv_goto (tgt := 9) S.1 S.2.1 dX8_gapFrom_52 (by decide) ?_
            rw [show (if own k = none then fr + 1 else 0) = fr + 1 by rw [if_pos c2], show Wn - k = Wn + 1 - (k + 1) by omega] at h4
            exact ihL (k + 1) (fr + 1) (by omega) (by omega) (by omega) h4 ls (lv_sub hl [0, 1, 2, 3, 4] rfl)
          · have c3 : (fr + 1) = many := (nI_eq (a := fr + 1) (b := many) (by omega) (by omega)).mp c3
            rw [fitR_hit (by omega) (by rw [if_pos c2]; exact c3)] at h4
            refine lv_iload S.1 S.2.1 dX8_gapFrom_42 (lv_at hl 1 rfl) ?_
            refine lv_iload_n S.1 S.2.1 dX8_gapFrom_44 rfl (lv_at hl 4 rfl) ?_
            refine lv_isub S.1 S.2.1 dX8_gapFrom_45 ?_
            refine lv_iconst (v := nI (1)) S.1 S.2.1 dX8_gapFrom_46 (by decide) ?_
            refine lv_iadd S.1 S.2.1 dX8_gapFrom_47 ?_
            refine lv_eqi (nI_subp (by omega)) ?_
            exact mw_iret S hr hlk hK hG dX8_gapFrom_48 ⟨by rw [← h4]; rfl, rfl⟩
        · have c2 : ¬ own k = none := by rw [c2]; simp
          refine lv_iconst (v := nI (0)) S.1 S.2.1 dX8_gapFrom_35 (by decide) ?_
          refine lv_istore_n (lv' := [(3, .int (nI (0))), (4, .int (nI (k))), (0, .ref (q 1)), (1, .int (nI (f))), (2, .int (nI (many)))]) S.1 S.2.1 dX8_gapFrom_36 rfl hl (by decide) rfl (fun ls hl => ?_)
          refine lv_iload_n S.1 S.2.1 dX8_gapFrom_37 rfl (lv_at hl 0 rfl) ?_
          refine lv_iload_n S.1 S.2.1 dX8_gapFrom_38 rfl (lv_at hl 4 rfl) ?_
          refine lv_icmp_ne (tgt := 49) S.1 S.2.1 dX8_gapFrom_39 (by decide) (fun c3 => ?_) (fun c3 => ?_)
          · have c3 : ¬ (0 = many) := fun h9 => c3 ((nI_eq (a := 0) (b := many) (by omega) (by omega)).mpr h9)
            rw [fitR_go (by omega) (by rw [if_neg c2]; exact c3)] at h4
            refine lv_iinc (v := nI (k + 1)) (lv' := [(4, .int (nI (k + 1))), (3, .int (nI (0))), (0, .ref (q 1)), (1, .int (nI (f))), (2, .int (nI (many)))]) S.1 S.2.1 dX8_gapFrom_49 hl (k := 1) rfl (nI_1 _) (by decide) rfl (fun ls hl => ?_)
            refine lv_goto (tgt := 9) S.1 S.2.1 dX8_gapFrom_52 (by decide) ?_
            rw [show (if own k = none then fr + 1 else 0) = 0 by rw [if_neg c2], show Wn - k = Wn + 1 - (k + 1) by omega] at h4
            exact ihL (k + 1) (0) (by omega) (by omega) (by omega) h4 ls (lv_sub hl [0, 1, 2, 3, 4] rfl)
          · have c3 : 0 = many := (nI_eq (a := 0) (b := many) (by omega) (by omega)).mp c3
            rw [fitR_hit (by omega) (by rw [if_neg c2]; exact c3)] at h4
            refine lv_iload S.1 S.2.1 dX8_gapFrom_42 (lv_at hl 1 rfl) ?_
            refine lv_iload_n S.1 S.2.1 dX8_gapFrom_44 rfl (lv_at hl 4 rfl) ?_
            refine lv_isub S.1 S.2.1 dX8_gapFrom_45 ?_
            refine lv_iconst (v := nI (1)) S.1 S.2.1 dX8_gapFrom_46 (by decide) ?_
            refine lv_iadd S.1 S.2.1 dX8_gapFrom_47 ?_
            refine lv_eqi (nI_subp (by omega)) ?_
            exact mw_iret S hr hlk hK hG dX8_gapFrom_48 ⟨by rw [← h4]; rfl, rfl⟩
  exact L (Wn + 2) f 0 (by omega) (by omega) (by omega) rfl ls (lv_sub hl [0, 1, 2, 3, 4] rfl)
theorem cal_X8_thingsBelow : mCal yX8_thingsBelow cX8_thingsBelow 4 1 (some .int) := ⟨in_270, by decide +kernel⟩
set_option maxHeartbeats 4000000 in
set_option maxRecDepth 100000 in
theorem w_thingsBelow {l : Launch} {dC : Nat → ClassId} {dI : Nat → Nat → Nat} {cI cZ cT : ClassId} {q : Nat → Nat} {kp : Nat} {Wn : Nat} {made : Nat} {fl : (Nat → Nat)} {num : (Nat → Nat → Int32)} {rfs : (Nat → Nat → Option Nat)} {root : (Nat → Option Nat)} {own : (Nat → Option Nat)} {tad : (Nat → Nat)} {trm : (Nat → Bool)} {tpl : (Nat → Nat)} {wlk : (Nat → Nat)} {ord : (Nat → Nat)} {met : (Nat → Option Nat)} {msz : Nat} {cur : Nat} {mend : Nat} {pnx : Nat} {pen : Nat} {st : Nat} {coll : Nat} {mins : Nat} {movd : Nat} {w : mM} (hC : CW cI cT q kp Wn made fl num rfs root own tad trm tpl wlk ord met msz cur mend pnx pen st coll mins movd w) (hob : ∀ k t, own k = some t → t < made) (hW : Wn < 1000) (htb : ∀ t, t < made → tad t < 2147483648) (e2 : Nat) (he : e2 ≤ Wn) : mC l yX8_thingsBelow (wsY yX8_thingsBelow cX8_thingsBelow 4 (some .int)) { frames := 2, cells := 0, slots := 0, locals := 43 } (dC, dI) vwCl (tyL cI cZ cT) 0 0 w [.ref (q 1), .int (nI (e2))] (fun v w2 => v = some (.int (nI (cnt (fun k => (bgn own tad k).isSome) e2))) ∧ w2 = w) := by
  refine mC.on (by decide) (Nat.le_of_ble_eq_true rfl) ?_
  intro p e s m args below meth c ls S hr hlk hnm hK hN hG hl
  have hl : lv_has ls 4 [(0, .ref (q 1)), (1, .int (nI (e2)))] := hl
  generalize hAe : mA w s.heap.size = A at hG ⊢
  refine lv_iconst (v := nI (0)) S.1 S.2.1 dX8_thingsBelow_0 (by decide) ?_
  refine lv_istore_n (lv' := [(2, .int (nI (0))), (0, .ref (q 1)), (1, .int (nI (e2)))]) S.1 S.2.1 dX8_thingsBelow_1 rfl hl (by decide) rfl (fun ls hl => ?_)
  refine lv_iconst (v := nI (0)) S.1 S.2.1 dX8_thingsBelow_2 (by decide) ?_
  refine lv_istore_n (lv' := [(3, .int (nI (0))), (2, .int (nI (0))), (0, .ref (q 1)), (1, .int (nI (e2)))]) S.1 S.2.1 dX8_thingsBelow_3 rfl hl (by decide) rfl (fun ls hl => ?_)
  have L : ∀ (fu : Nat) (k : Nat), e2 - k < fu → (k ≤ e2) → ∀ (H : Heap) (locs : List Loc), mG (dC, dI) vwCl A s.heap w H locs → ∀ ls : Array Slot, lv_has ls 4 [(3, .int (nI (k))), (2, .int (nI (cnt (fun k => (bgn own tad k).isSome) k))), (0, .ref (q 1)), (1, .int (nI (e2)))] → W p l e { frames := 2, cells := 0, slots := 0, locals := 43 } s m args below meth c H locs 0 0 (MQ below (mQ (dC, dI) vwCl (tyL cI cZ cT) (fun v w2 => v = some (.int (nI (cnt (fun k => (bgn own tad k).isSome) e2))) ∧ w2 = w) A) args s 0 0 A) (F0 m 4 ls []) := by
    intro fu
    induction fu with
    | zero => intro k h1; exact absurd h1 (Nat.not_lt_zero _)
    | succ fu ihL =>
      intro k h1 h2 H locs hG ls hl
      refine lv_iload_n S.1 S.2.1 dX8_thingsBelow_4 rfl (lv_at hl 0 rfl) ?_
      refine lv_iload_n S.1 S.2.1 dX8_thingsBelow_5 rfl (lv_at hl 3 rfl) ?_
      refine lv_icmp_ge (tgt := 35) S.1 S.2.1 dX8_thingsBelow_6 (by decide) (fun c1 => ?_) (fun c1 => ?_)
      · have c1 : e2 ≤ k := (nI_leI (a := e2) (b := k) (by omega) (by omega)).mp c1
        have hk : k = e2 := by omega
        rw [hk] at hl
        refine lv_iload_n S.1 S.2.1 dX8_thingsBelow_35 rfl (lv_at hl 1 rfl) ?_
        exact mw_iret S hr hlk hK hG dX8_thingsBelow_36 ⟨rfl, rfl⟩
      · have c1 : ¬ (e2 ≤ k) := fun h9 => c1 ((nI_leI (a := e2) (b := k) (by omega) (by omega)).mpr h9)
        refine lv_iload_n S.1 S.2.1 dX8_thingsBelow_9 rfl (lv_at hl 0 rfl) ?_
        refine lv_aload_n S.1 S.2.1 dX8_thingsBelow_10 rfl (lv_at hl 2 rfl) ?_
        refine cg_RX8_17 S hK hG hC dX8_thingsBelow_11 ?_
        refine cn_own S hK hG hC dX8_thingsBelow_14 ?_
        refine lv_icmp_ge (tgt := 35) S.1 S.2.1 dX8_thingsBelow_15 (by decide) (fun c2 => ?_) (fun c2 => ?_)
        · have c2 : Wn ≤ k := (nI_leI (a := Wn) (b := k) (by omega) (by omega)).mp c2
          omega
        · have c2 : ¬ (Wn ≤ k) := fun h9 => c2 ((nI_leI (a := Wn) (b := k) (by omega) (by omega)).mpr h9)
          refine lv_aload_n S.1 S.2.1 dX8_thingsBelow_18 rfl (lv_at hl 2 rfl) ?_
          refine lv_iload_n S.1 S.2.1 dX8_thingsBelow_19 rfl (lv_at hl 0 rfl) ?_
          refine mCV (As := [.int (nI (k))]) (rest := []) S (w_beginningAt hC hob hW htb k (by omega)) cal_X8_beginningAt in_271 in_213 in_214 in_18 hK hN hG hC.obj8 rfl rfl rfl hl.1 (Nat.le_of_ble_eq_true rfl) ⟨by decide, by decide⟩ ⟨rfl, rfl⟩ ⟨by decide, by decide⟩ dX8_thingsBelow_20 (fun v w H locs hp hG => ?_)
          obtain ⟨rfl, hw9⟩ := hp
          have hw9 := hw9.symm
          subst hw9
          refine W.eq (g2 := F0 m 23 ls [va_rf ((bgn own tad k).map (tq q))]) rfl ?_
          refine lw_ifnull (x := bgn own tad k) (tgt := 29) S.1 S.2.1 dX8_thingsBelow_23 (by decide) (fun c3 => ?_) (fun t c3 => ?_)
          · refine lv_iinc (v := nI (k + 1)) (lv' := [(3, .int (nI (k + 1))), (2, .int (nI (cnt (fun k => (bgn own tad k).isSome) k))), (0, .ref (q 1)), (1, .int (nI (e2)))]) S.1 S.2.1 dX8_thingsBelow_29 hl (k := 0) rfl (nI_1 _) (by decide) rfl (fun ls hl => ?_)
            refine lv_goto (tgt := 4) S.1 S.2.1 dX8_thingsBelow_32 (by decide) ?_
            rw [← cnt_s0 (c := (fun k => (bgn own tad k).isSome)) (by show (bgn own tad k).isSome = false; rw [c3]; rfl)] at hl
            exact ihL (k + 1) (by omega) (by omega) _ _ hG ls (lv_sub hl [0, 1, 2, 3] rfl)
          · refine lv_iinc (v := nI (cnt (fun k => (bgn own tad k).isSome) k + 1)) (lv' := [(2, .int (nI (cnt (fun k => (bgn own tad k).isSome) k + 1))), (3, .int (nI (k))), (0, .ref (q 1)), (1, .int (nI (e2)))]) S.1 S.2.1 dX8_thingsBelow_26 hl (k := 1) rfl (nI_1 _) (by decide) rfl (fun ls hl => ?_)
            refine lv_iinc (v := nI (k + 1)) (lv' := [(3, .int (nI (k + 1))), (2, .int (nI (cnt (fun k => (bgn own tad k).isSome) k + 1))), (0, .ref (q 1)), (1, .int (nI (e2)))]) S.1 S.2.1 dX8_thingsBelow_29 hl (k := 1) rfl (nI_1 _) (by decide) rfl (fun ls hl => ?_)
            refine lv_goto (tgt := 4) S.1 S.2.1 dX8_thingsBelow_32 (by decide) ?_
            rw [← cnt_s1 (c := (fun k => (bgn own tad k).isSome)) (by show (bgn own tad k).isSome = true; rw [c3]; rfl)] at hl
            exact ihL (k + 1) (by omega) (by omega) _ _ hG ls (lv_sub hl [0, 1, 2, 3] rfl)
  exact L (e2 + 1) 0 (by omega) (by omega) _ _ hG ls (lv_sub hl [0, 1, 2, 3] rfl)
theorem cal_X8_taken : mCal yX8_taken cX8_taken 3 0 (some .int) := ⟨in_617, by decide +kernel⟩
set_option maxHeartbeats 4000000 in
set_option maxRecDepth 100000 in
theorem w_taken {l : Launch} {dC : Nat → ClassId} {dI : Nat → Nat → Nat} {cI cZ cT : ClassId} {q : Nat → Nat} {kp : Nat} {Wn : Nat} {made : Nat} {fl : (Nat → Nat)} {num : (Nat → Nat → Int32)} {rfs : (Nat → Nat → Option Nat)} {root : (Nat → Option Nat)} {own : (Nat → Option Nat)} {tad : (Nat → Nat)} {trm : (Nat → Bool)} {tpl : (Nat → Nat)} {wlk : (Nat → Nat)} {ord : (Nat → Nat)} {met : (Nat → Option Nat)} {msz : Nat} {cur : Nat} {mend : Nat} {pnx : Nat} {pen : Nat} {st : Nat} {coll : Nat} {mins : Nat} {movd : Nat} {w : mM} (hC : CW cI cT q kp Wn made fl num rfs root own tad trm tpl wlk ord met msz cur mend pnx pen st coll mins movd w) (hW : Wn < 1000) : mC l yX8_taken (wsY yX8_taken cX8_taken 3 (some .int)) { frames := 0, cells := 0, slots := 0, locals := 0 } (dC, dI) vwCl (tyL cI cZ cT) 0 0 w [.ref (q 1)] (fun v w2 => v = some (.int (nI (cnt (fun k => (own k).isSome) Wn))) ∧ w2 = w) := by
  refine mC.on (by decide) (Nat.le_of_ble_eq_true rfl) ?_
  intro p e s m args below meth c ls S hr hlk hnm hK hN hG hl
  have hl : lv_has ls 3 [(0, .ref (q 1))] := hl
  generalize hAe : mA w s.heap.size = A at hG ⊢
  refine lv_iconst (v := nI (0)) S.1 S.2.1 dX8_taken_0 (by decide) ?_
  refine lv_istore_n (lv' := [(1, .int (nI (0))), (0, .ref (q 1))]) S.1 S.2.1 dX8_taken_1 rfl hl (by decide) rfl (fun ls hl => ?_)
  refine lv_iconst (v := nI (0)) S.1 S.2.1 dX8_taken_2 (by decide) ?_
  refine lv_istore_n (lv' := [(2, .int (nI (0))), (1, .int (nI (0))), (0, .ref (q 1))]) S.1 S.2.1 dX8_taken_3 rfl hl (by decide) rfl (fun ls hl => ?_)
  have L : ∀ (fu : Nat) (k : Nat), Wn - k < fu → (k ≤ Wn) → ∀ ls : Array Slot, lv_has ls 3 [(2, .int (nI (k))), (1, .int (nI (cnt (fun k => (own k).isSome) k))), (0, .ref (q 1))] → W p l e { frames := 0, cells := 0, slots := 0, locals := 0 } s m args below meth c s.heap [] 0 0 (MQ below (mQ (dC, dI) vwCl (tyL cI cZ cT) (fun v w2 => v = some (.int (nI (cnt (fun k => (own k).isSome) Wn))) ∧ w2 = w) A) args s 0 0 A) (F0 m 4 ls []) := by
    intro fu
    induction fu with
    | zero => intro k h1; exact absurd h1 (Nat.not_lt_zero _)
    | succ fu ihL =>
      intro k h1 h2 ls hl
      refine lv_iload_n S.1 S.2.1 dX8_taken_4 rfl (lv_at hl 0 rfl) ?_
      refine lv_aload_n S.1 S.2.1 dX8_taken_5 rfl (lv_at hl 2 rfl) ?_
      refine cg_RX8_17 S hK hG hC dX8_taken_6 ?_
      refine cn_own S hK hG hC dX8_taken_9 ?_
      refine lv_icmp_ge (tgt := 31) S.1 S.2.1 dX8_taken_10 (by decide) (fun c1 => ?_) (fun c1 => ?_)
      · have c1 : Wn ≤ k := (nI_leI (a := Wn) (b := k) (by omega) (by omega)).mp c1
        have hk : k = Wn := by omega
        rw [hk] at hl
        refine lv_iload_n S.1 S.2.1 dX8_taken_31 rfl (lv_at hl 1 rfl) ?_
        exact mw_iret S hr hlk hK hG dX8_taken_32 ⟨rfl, rfl⟩
      · have c1 : ¬ (Wn ≤ k) := fun h9 => c1 ((nI_leI (a := Wn) (b := k) (by omega) (by omega)).mpr h9)
        refine lv_aload_n S.1 S.2.1 dX8_taken_13 rfl (lv_at hl 2 rfl) ?_
        refine cg_RX8_17 S hK hG hC dX8_taken_14 ?_
        refine lv_iload_n S.1 S.2.1 dX8_taken_17 rfl (lv_at hl 0 rfl) ?_
        refine cl_own S hK hG hC (k) (by omega) (by omega) dX8_taken_18 ?_
        refine lw_ifnull (x := own k) (tgt := 25) S.1 S.2.1 dX8_taken_19 (by decide) (fun c3 => ?_) (fun t c3 => ?_)
        · refine lv_iinc (v := nI (k + 1)) (lv' := [(2, .int (nI (k + 1))), (1, .int (nI (cnt (fun k => (own k).isSome) k))), (0, .ref (q 1))]) S.1 S.2.1 dX8_taken_25 hl (k := 0) rfl (nI_1 _) (by decide) rfl (fun ls hl => ?_)
          refine lv_goto (tgt := 4) S.1 S.2.1 dX8_taken_28 (by decide) ?_
          rw [← cnt_s0 (c := (fun k => (own k).isSome)) (by show (own k).isSome = false; rw [c3]; rfl)] at hl
          exact ihL (k + 1) (by omega) (by omega) ls (lv_sub hl [0, 1, 2] rfl)
        · refine lv_iinc (v := nI (cnt (fun k => (own k).isSome) k + 1)) (lv' := [(1, .int (nI (cnt (fun k => (own k).isSome) k + 1))), (2, .int (nI (k))), (0, .ref (q 1))]) S.1 S.2.1 dX8_taken_22 hl (k := 1) rfl (nI_1 _) (by decide) rfl (fun ls hl => ?_)
          refine lv_iinc (v := nI (k + 1)) (lv' := [(2, .int (nI (k + 1))), (1, .int (nI (cnt (fun k => (own k).isSome) k + 1))), (0, .ref (q 1))]) S.1 S.2.1 dX8_taken_25 hl (k := 1) rfl (nI_1 _) (by decide) rfl (fun ls hl => ?_)
          refine lv_goto (tgt := 4) S.1 S.2.1 dX8_taken_28 (by decide) ?_
          rw [← cnt_s1 (c := (fun k => (own k).isSome)) (by show (own k).isSome = true; rw [c3]; rfl)] at hl
          exact ihL (k + 1) (by omega) (by omega) ls (lv_sub hl [0, 1, 2] rfl)
  exact L (Wn + 1) 0 (by omega) (by omega) ls (lv_sub hl [0, 1, 2] rfl)
theorem cal_X8_rememberedThings : mCal yX8_rememberedThings cX8_rememberedThings 4 0 (some .int) := ⟨in_621, by decide +kernel⟩
set_option maxHeartbeats 4000000 in
set_option maxRecDepth 100000 in
theorem w_rememberedThings {l : Launch} {dC : Nat → ClassId} {dI : Nat → Nat → Nat} {cI cZ cT : ClassId} {q : Nat → Nat} {kp : Nat} {Wn : Nat} {made : Nat} {fl : (Nat → Nat)} {num : (Nat → Nat → Int32)} {rfs : (Nat → Nat → Option Nat)} {root : (Nat → Option Nat)} {own : (Nat → Option Nat)} {tad : (Nat → Nat)} {trm : (Nat → Bool)} {tpl : (Nat → Nat)} {wlk : (Nat → Nat)} {ord : (Nat → Nat)} {met : (Nat → Option Nat)} {msz : Nat} {cur : Nat} {mend : Nat} {pnx : Nat} {pen : Nat} {st : Nat} {coll : Nat} {mins : Nat} {movd : Nat} {w : mM} (hC : CW cI cT q kp Wn made fl num rfs root own tad trm tpl wlk ord met msz cur mend pnx pen st coll mins movd w) (hob : ∀ k t, own k = some t → t < made) (hW : Wn < 1000) (htb : ∀ t, t < made → tad t < 2147483648) : mC l yX8_rememberedThings (wsY yX8_rememberedThings cX8_rememberedThings 4 (some .int)) { frames := 2, cells := 0, slots := 0, locals := 43 } (dC, dI) vwCl (tyL cI cZ cT) 0 0 w [.ref (q 1)] (fun v w2 => v = some (.int (nI (cnt (fun k => match bgn own tad k with | none => false | some t => trm t) Wn))) ∧ w2 = w) := by
  refine mC.on (by decide) (Nat.le_of_ble_eq_true rfl) ?_
  intro p e s m args below meth c ls S hr hlk hnm hK hN hG hl
  have hl : lv_has ls 4 [(0, .ref (q 1))] := hl
  generalize hAe : mA w s.heap.size = A at hG ⊢
  refine lv_iconst (v := nI (0)) S.1 S.2.1 dX8_rememberedThings_0 (by decide) ?_
  refine lv_istore_n (lv' := [(1, .int (nI (0))), (0, .ref (q 1))]) S.1 S.2.1 dX8_rememberedThings_1 rfl hl (by decide) rfl (fun ls hl => ?_)
  refine lv_iconst (v := nI (0)) S.1 S.2.1 dX8_rememberedThings_2 (by decide) ?_
  refine lv_istore_n (lv' := [(2, .int (nI (0))), (1, .int (nI (0))), (0, .ref (q 1))]) S.1 S.2.1 dX8_rememberedThings_3 rfl hl (by decide) rfl (fun ls hl => ?_)
  have L : ∀ (fu : Nat) (k : Nat), Wn - k < fu → (k ≤ Wn) → ∀ (H : Heap) (locs : List Loc), mG (dC, dI) vwCl A s.heap w H locs → ∀ ls : Array Slot, lv_has ls 4 [(2, .int (nI (k))), (1, .int (nI (cnt (fun k => match bgn own tad k with | none => false | some t => trm t) k))), (0, .ref (q 1))] → W p l e { frames := 2, cells := 0, slots := 0, locals := 43 } s m args below meth c H locs 0 0 (MQ below (mQ (dC, dI) vwCl (tyL cI cZ cT) (fun v w2 => v = some (.int (nI (cnt (fun k => match bgn own tad k with | none => false | some t => trm t) Wn))) ∧ w2 = w) A) args s 0 0 A) (F0 m 4 ls []) := by
    intro fu
    induction fu with
    | zero => intro k h1; exact absurd h1 (Nat.not_lt_zero _)
    | succ fu ihL =>
      intro k h1 h2 H locs hG ls hl
      refine lv_iload_n S.1 S.2.1 dX8_rememberedThings_4 rfl (lv_at hl 0 rfl) ?_
      refine lv_aload_n S.1 S.2.1 dX8_rememberedThings_5 rfl (lv_at hl 2 rfl) ?_
      refine cg_RX8_17 S hK hG hC dX8_rememberedThings_6 ?_
      refine cn_own S hK hG hC dX8_rememberedThings_9 ?_
      refine lv_icmp_ge (tgt := 39) S.1 S.2.1 dX8_rememberedThings_10 (by decide) (fun c1 => ?_) (fun c1 => ?_)
      · have c1 : Wn ≤ k := (nI_leI (a := Wn) (b := k) (by omega) (by omega)).mp c1
        have hk : k = Wn := by omega
        rw [hk] at hl
        refine lv_iload_n S.1 S.2.1 dX8_rememberedThings_39 rfl (lv_at hl 1 rfl) ?_
        exact mw_iret S hr hlk hK hG dX8_rememberedThings_40 ⟨rfl, rfl⟩
      · have c1 : ¬ (Wn ≤ k) := fun h9 => c1 ((nI_leI (a := Wn) (b := k) (by omega) (by omega)).mpr h9)
        refine lv_aload_n S.1 S.2.1 dX8_rememberedThings_13 rfl (lv_at hl 2 rfl) ?_
        refine lv_iload_n S.1 S.2.1 dX8_rememberedThings_14 rfl (lv_at hl 0 rfl) ?_
        refine mCV (As := [.int (nI (k))]) (rest := []) S (w_beginningAt hC hob hW htb k (by omega)) cal_X8_beginningAt in_271 in_213 in_214 in_18 hK hN hG hC.obj8 rfl rfl rfl hl.1 (Nat.le_of_ble_eq_true rfl) ⟨by decide, by decide⟩ ⟨rfl, rfl⟩ ⟨by decide, by decide⟩ dX8_rememberedThings_15 (fun v w H locs hp hG => ?_)
        obtain ⟨rfl, hw9⟩ := hp
        have hw9 := hw9.symm
        subst hw9
        refine W.eq (g2 := F0 m 18 ls [va_rf ((bgn own tad k).map (tq q))]) rfl ?_
        refine lw_astore_n (lv' := [(3, va_rf ((bgn own tad k).map (tq q))), (2, .int (nI (k))), (1, .int (nI (cnt (fun k => match bgn own tad k with | none => false | some t => trm t) k))), (0, .ref (q 1))]) S.1 S.2.1 dX8_rememberedThings_18 rfl hl (by decide) rfl (fun ls hl => ?_)
        refine lw_aload_n S.1 S.2.1 dX8_rememberedThings_19 rfl (lv_at hl 0 rfl) ?_
        refine lw_ifnull (x := bgn own tad k) (tgt := 33) S.1 S.2.1 dX8_rememberedThings_20 (by decide) (fun c3 => ?_) (fun t c3 => ?_)
        · refine lv_iinc (v := nI (k + 1)) (lv' := [(2, .int (nI (k + 1))), (3, va_rf ((bgn own tad k).map (tq q))), (1, .int (nI (cnt (fun k => match bgn own tad k with | none => false | some t => trm t) k))), (0, .ref (q 1))]) S.1 S.2.1 dX8_rememberedThings_33 hl (k := 1) rfl (nI_1 _) (by decide) rfl (fun ls hl => ?_)
          refine lv_goto (tgt := 4) S.1 S.2.1 dX8_rememberedThings_36 (by decide) ?_
          rw [← cnt_s0 (c := (fun k => match bgn own tad k with | none => false | some t => trm t)) (by show (match bgn own tad k with | none => false | some t => trm t) = _; rw [c3]; skip)] at hl
          exact ihL (k + 1) (by omega) (by omega) _ _ hG ls (lv_sub hl [0, 2, 3] rfl)
        · have htm := hob k t (bgn_own c3).1
          have hl9 := hl
          rw [c3] at hl
          have hl : lv_has ls 4 [(3, .ref (tq q t)), (2, .int (nI (k))), (1, .int (nI (cnt (fun k => match bgn own tad k with | none => false | some t => trm t) k))), (0, .ref (q 1))] := hl
          refine lv_aload_n S.1 S.2.1 dX8_rememberedThings_23 rfl (lv_at hl 0 rfl) ?_
          refine cg_RX8_45 S hK hG hC (t) (by omega) dX8_rememberedThings_24 ?_
          refine lv_if_eq (tgt := 33) S.1 S.2.1 dX8_rememberedThings_27 (by decide) (fun c4 => ?_) (fun c4 => ?_)
          · refine lv_iinc (v := nI (k + 1)) (lv' := [(2, .int (nI (k + 1))), (3, .ref (tq q t)), (1, .int (nI (cnt (fun k => match bgn own tad k with | none => false | some t => trm t) k))), (0, .ref (q 1))]) S.1 S.2.1 dX8_rememberedThings_33 hl (k := 1) rfl (nI_1 _) (by decide) rfl (fun ls hl => ?_)
            refine lv_goto (tgt := 4) S.1 S.2.1 dX8_rememberedThings_36 (by decide) ?_
            rw [← cnt_s0 (c := (fun k => match bgn own tad k with | none => false | some t => trm t)) (by show (match bgn own tad k with | none => false | some t => trm t) = _; rw [c3]; exact bI_f c4)] at hl
            exact ihL (k + 1) (by omega) (by omega) _ _ hG ls (lv_sub hl [0, 2, 3] rfl)
          · refine lv_iinc (v := nI (cnt (fun k => match bgn own tad k with | none => false | some t => trm t) k + 1)) (lv' := [(1, .int (nI (cnt (fun k => match bgn own tad k with | none => false | some t => trm t) k + 1))), (3, .ref (tq q t)), (2, .int (nI (k))), (0, .ref (q 1))]) S.1 S.2.1 dX8_rememberedThings_30 hl (k := 2) rfl (nI_1 _) (by decide) rfl (fun ls hl => ?_)
            refine lv_iinc (v := nI (k + 1)) (lv' := [(2, .int (nI (k + 1))), (1, .int (nI (cnt (fun k => match bgn own tad k with | none => false | some t => trm t) k + 1))), (3, .ref (tq q t)), (0, .ref (q 1))]) S.1 S.2.1 dX8_rememberedThings_33 hl (k := 2) rfl (nI_1 _) (by decide) rfl (fun ls hl => ?_)
            refine lv_goto (tgt := 4) S.1 S.2.1 dX8_rememberedThings_36 (by decide) ?_
            rw [← cnt_s1 (c := (fun k => match bgn own tad k with | none => false | some t => trm t)) (by show (match bgn own tad k with | none => false | some t => trm t) = _; rw [c3]; exact bI_t c4)] at hl
            exact ihL (k + 1) (by omega) (by omega) _ _ hG ls (lv_sub hl [0, 1, 3] rfl)
  exact L (Wn + 1) 0 (by omega) (by omega) _ _ hG ls (lv_sub hl [0, 1, 2] rfl)
theorem cal_X3_restart : mCal yX3_restart cX3_restart 3 2 none := ⟨in_286, by decide +kernel⟩
set_option maxHeartbeats 4000000 in
set_option maxRecDepth 100000 in
theorem p_restart {l : Launch} {dC : Nat → ClassId} {dI : Nat → Nat → Nat} {cI cZ cT : ClassId} {q : Nat → Nat} {kp : Nat} {Wn : Nat} {made : Nat} {fl : (Nat → Nat)} {num : (Nat → Nat → Int32)} {rfs : (Nat → Nat → Option Nat)} {root : (Nat → Option Nat)} {own : (Nat → Option Nat)} {tad : (Nat → Nat)} {trm : (Nat → Bool)} {tpl : (Nat → Nat)} {wlk : (Nat → Nat)} {ord : (Nat → Nat)} {met : (Nat → Option Nat)} {msz : Nat} {cur : Nat} {mend : Nat} {pnx : Nat} {pen : Nat} {st : Nat} {coll : Nat} {mins : Nat} {movd : Nat} {w : mM} (hC : CW cI cT q kp Wn made fl num rfs root own tad trm tpl wlk ord met msz cur mend pnx pen st coll mins movd w) (hkp : kp ≠ 0) (a n : Nat) : mC l yX3_restart (wsY yX3_restart cX3_restart 3 none) { frames := 0, cells := 0, slots := 0, locals := 0 } (dC, dI) vwCl (tyL cI cZ cT) 0 0 w [.ref (q 8), .int (nI (a)), .int (nI (n))] (fun v w2 => v = none ∧ CW cI cT q kp Wn made fl num rfs root own tad trm tpl wlk ord met msz cur mend a (a + n) st coll mins movd w2) := by
  refine mC.on (by decide) (Nat.le_of_ble_eq_true rfl) ?_
  intro p e s m args below meth c ls S hr hlk hnm hK hN hG hl
  have hl : lv_has ls 3 [(0, .ref (q 8)), (1, .int (nI (a))), (2, .int (nI (n)))] := hl
  generalize hAe : mA w s.heap.size = A at hG ⊢
  refine lv_aload_n S.1 S.2.1 dX3_restart_0 rfl (lv_at hl 0 rfl) ?_
  refine lv_iload_n S.1 S.2.1 dX3_restart_1 rfl (lv_at hl 1 rfl) ?_
  refine cp_RX3_9 S hK hG hC (by omega) (a) dX3_restart_2 (fun w H locs hC hG => ?_)
  refine lv_aload_n S.1 S.2.1 dX3_restart_5 rfl (lv_at hl 0 rfl) ?_
  refine lv_iload_n S.1 S.2.1 dX3_restart_6 rfl (lv_at hl 1 rfl) ?_
  refine lv_iload_n S.1 S.2.1 dX3_restart_7 rfl (lv_at hl 2 rfl) ?_
  refine lv_iadd S.1 S.2.1 dX3_restart_8 ?_
  refine lv_eqi (nI_add _ _) ?_
  refine cp_RX3_15 S hK hG hC (by omega) (a + n) dX3_restart_9 (fun w H locs hC hG => ?_)
  exact mw_vret S hr hlk hK hG dX3_restart_12 ⟨rfl, hC⟩
theorem cal_X3_take : mCal yX3_take cX3_take 3 1 (some .int) := ⟨in_156, by decide +kernel⟩
set_option maxHeartbeats 4000000 in
set_option maxRecDepth 100000 in
theorem p_take {l : Launch} {dC : Nat → ClassId} {dI : Nat → Nat → Nat} {cI cZ cT : ClassId} {q : Nat → Nat} {kp : Nat} {Wn : Nat} {made : Nat} {fl : (Nat → Nat)} {num : (Nat → Nat → Int32)} {rfs : (Nat → Nat → Option Nat)} {root : (Nat → Option Nat)} {own : (Nat → Option Nat)} {tad : (Nat → Nat)} {trm : (Nat → Bool)} {tpl : (Nat → Nat)} {wlk : (Nat → Nat)} {ord : (Nat → Nat)} {met : (Nat → Option Nat)} {msz : Nat} {cur : Nat} {mend : Nat} {pnx : Nat} {pen : Nat} {st : Nat} {coll : Nat} {mins : Nat} {movd : Nat} {w : mM} (hC : CW cI cT q kp Wn made fl num rfs root own tad trm tpl wlk ord met msz cur mend pnx pen st coll mins movd w) (hkp : kp ≠ 0) (n : Nat) (hn : n < 1000) (h1 : pnx < 1000) (h2 : pen < 1000) : mC l yX3_take (wsY yX3_take cX3_take 3 (some .int)) { frames := 0, cells := 0, slots := 0, locals := 0 } (dC, dI) vwCl (tyL cI cZ cT) 0 0 w [.ref (q 8), .int (nI (n))] (fun v w2 => v = some (.int (oI (if pnx + n ≤ pen then some pnx else none))) ∧ CW cI cT q kp Wn made fl num rfs root own tad trm tpl wlk ord met msz cur mend ((if pnx + n ≤ pen then pnx + n else pnx)) pen st coll mins movd w2) := by
  refine mC.on (by decide) (Nat.le_of_ble_eq_true rfl) ?_
  intro p e s m args below meth c ls S hr hlk hnm hK hN hG hl
  have hl : lv_has ls 3 [(0, .ref (q 8)), (1, .int (nI (n)))] := hl
  generalize hAe : mA w s.heap.size = A at hG ⊢
  refine lv_aload_n S.1 S.2.1 dX3_take_0 rfl (lv_at hl 0 rfl) ?_
  refine cg_RX3_9 S hK hG hC (by omega) dX3_take_1 ?_
  refine lv_iload_n S.1 S.2.1 dX3_take_4 rfl (lv_at hl 1 rfl) ?_
  refine lv_iadd S.1 S.2.1 dX3_take_5 ?_
  refine lv_eqi (nI_add _ _) ?_
  refine lv_aload_n S.1 S.2.1 dX3_take_6 rfl (lv_at hl 0 rfl) ?_
  refine cg_RX3_15 S hK hG hC (by omega) dX3_take_7 ?_
  refine lv_icmp_le (tgt := 15) S.1 S.2.1 dX3_take_10 (by decide) (fun c1 => ?_) (fun c1 => ?_)
  · have c1 : (pnx + n) ≤ pen := (nI_leI (a := pnx + n) (b := pen) (by omega) (by omega)).mp c1
    rw [if_pos c1, if_pos c1]
    refine lv_aload_n S.1 S.2.1 dX3_take_15 rfl (lv_at hl 0 rfl) ?_
    refine cg_RX3_9 S hK hG hC (by omega) dX3_take_16 ?_
    refine lv_istore_n (lv' := [(2, .int (nI (pnx))), (0, .ref (q 8)), (1, .int (nI (n)))]) S.1 S.2.1 dX3_take_19 rfl hl (by decide) rfl (fun ls hl => ?_)
    refine lv_aload_n S.1 S.2.1 dX3_take_20 rfl (lv_at hl 1 rfl) ?_
    refine lv_dup S.1 S.2.1 dX3_take_21 rfl ?_
    refine cg_RX3_9 S hK hG hC (by omega) dX3_take_22 ?_
    refine lv_iload_n S.1 S.2.1 dX3_take_25 rfl (lv_at hl 2 rfl) ?_
    refine lv_iadd S.1 S.2.1 dX3_take_26 ?_
    refine lv_eqi (nI_add _ _) ?_
    refine cp_RX3_9 S hK hG hC (by omega) (pnx + n) dX3_take_27 (fun w H locs hC hG => ?_)
    refine lv_iload_n S.1 S.2.1 dX3_take_30 rfl (lv_at hl 0 rfl) ?_
    exact mw_iret S hr hlk hK hG dX3_take_31 ⟨rfl, hC⟩
  · have c1 : ¬ ((pnx + n) ≤ pen) := fun h9 => c1 ((nI_leI (a := pnx + n) (b := pen) (by omega) (by omega)).mpr h9)
    rw [if_neg c1, if_neg c1]
    refine lv_iconst (v := -1) S.1 S.2.1 dX3_take_13 (by decide) ?_
    exact mw_iret S hr hlk hK hG dX3_take_14 ⟨rfl, hC⟩
