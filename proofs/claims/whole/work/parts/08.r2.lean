def clrO (f : Nat → Option Nat) (n : Nat) : Nat → Option Nat := fun k => if k < n then none else f k
theorem clrO_0 (f : Nat → Option Nat) : clrO f 0 = f := by
  funext k
  unfold clrO
  rw [if_neg (by omega)]
theorem clrO_s (f : Nat → Option Nat) (n : Nat) : va_up (clrO f n) n none = clrO f (n + 1) := by
  funext k
  unfold va_up
  by_cases h : k = n
  · rw [if_pos h]
    unfold clrO
    rw [if_pos (by omega)]
  · rw [if_neg h]
    unfold clrO
    by_cases h2 : k < n
    · rw [if_pos h2, if_pos (by omega)]
    · rw [if_neg h2, if_neg (by omega)]
theorem nI_subp {k m : Nat} (h : m ≤ k + 1) : nI k - nI m + nI 1 = nI (k + 1 - m) := by
  have h1 : nI (k + 1 - m) + nI m = nI k + nI 1 := by rw [nI_add, nI_add]; congr 1; omega
  rw [Int32.sub_eq_add_neg, Int32.add_assoc, Int32.add_comm (-nI m), ← Int32.add_assoc, ← h1, Int32.add_assoc, ← Int32.sub_eq_add_neg, Int32.sub_self, Int32.add_zero]
theorem cal_X10_lie : mCal yX10_lie cX10_lie 4 2 none := ⟨in_443, by decide +kernel⟩
set_option maxHeartbeats 4000000 in
set_option maxRecDepth 100000 in
theorem r_lie {l : Launch} {dC : Nat → ClassId} {dI : Nat → Nat → Nat} {cI cZ cT : ClassId} {q : Nat → Nat} {thr : Int32} {kp : Nat} {Wn : Nat} {made : Nat} {adr : (Nat → Option Nat)} {fl : (Nat → Nat)} {rem : (Nat → Bool)} {num : (Nat → Nat → Int32)} {rfs : (Nat → Nat → Option Nat)} {root : (Nat → Option Nat)} {own : (Nat → Option Nat)} {half : Nat} {top : Nat} {coll : Nat} {mins : Nat} {movd : Nat} {size : Nat} {row : (Nat → Nat)} {plc : (Nat → Option Nat)} {old : (Nat → Option Nat)} {w : mM} (hR : RW cI cZ q thr kp Wn made adr fl rem num rfs root own half top coll mins movd size row plc old w) (o a : Nat) (ho : o < 2000) (hb : a + fl o < 400) : mC l yX10_lie (wsY yX10_lie cX10_lie 4 none) { frames := 0, cells := 0, slots := 0, locals := 0 } (dC, dI) vwCl (tyL cI cZ cT) 0 0 w [.ref (q 0), .int (nI (o)), .int (nI (a))] (fun v w2 => v = none ∧ RW cI cZ q thr kp Wn made (va_up adr o (some a)) fl rem num rfs root (fillO own a (fl o + 1) (some o)) half top coll mins movd size row plc old w2) := by
  refine mC.on (by decide) (Nat.le_of_ble_eq_true rfl) ?_
  intro p e s m args below meth c ls S hr hlk hnm hK hN hG hl
  have hl : lv_has ls 4 [(0, .ref (q 0)), (1, .int (nI (o))), (2, .int (nI (a)))] := hl
  generalize hAe : mA w s.heap.size = A at hG ⊢
  refine lv_aload_n S.1 S.2.1 dX10_lie_0 rfl (lv_at hl 0 rfl) ?_
  refine rg_adr S hK hG hR dX10_lie_1 ?_
  refine lv_iload_n S.1 S.2.1 dX10_lie_4 rfl (lv_at hl 1 rfl) ?_
  refine lv_iload_n S.1 S.2.1 dX10_lie_5 rfl (lv_at hl 2 rfl) ?_
  refine rs_adr S hK hG hR (o) (some (a)) (by omega) dX10_lie_6 (fun w H locs hR hG => ?_)
  refine lv_iconst (v := nI (0)) S.1 S.2.1 dX10_lie_7 (by decide) ?_
  refine lv_istore_n (lv' := [(3, .int (nI (0))), (0, .ref (q 0)), (1, .int (nI (o))), (2, .int (nI (a)))]) S.1 S.2.1 dX10_lie_8 rfl hl (by decide) rfl (fun ls hl => ?_)
  have L : ∀ (fu : Nat) (k : Nat), fl o + 1 - k < fu → (k ≤ fl o + 1) → ∀ (w : mM) (H : Heap) (locs : List Loc), RW cI cZ q thr kp Wn made (va_up adr o (some a)) fl rem num rfs root (fillO own a k (some o)) half top coll mins movd size row plc old w → mG (dC, dI) vwCl A s.heap w H locs → ∀ ls : Array Slot, lv_has ls 4 [(3, .int (nI (k))), (0, .ref (q 0)), (1, .int (nI (o))), (2, .int (nI (a)))] → W p l e { frames := 0, cells := 0, slots := 0, locals := 0 } s m args below meth c H locs 0 0 (MQ below (mQ (dC, dI) vwCl (tyL cI cZ cT) (fun v w2 => v = none ∧ RW cI cZ q thr kp Wn made (va_up adr o (some a)) fl rem num rfs root (fillO own a (fl o + 1) (some o)) half top coll mins movd size row plc old w2) A) args s 0 0 A) (F0 m 9 ls []) := by
    intro fu
    induction fu with
    | zero => intro k h1; exact absurd h1 (Nat.not_lt_zero _)
    | succ fu ihL =>
      intro k h1 h2 w H locs hR hG ls hl
      refine lv_iload_n S.1 S.2.1 dX10_lie_9 rfl (lv_at hl 0 rfl) ?_
      refine lv_aload_n S.1 S.2.1 dX10_lie_10 rfl (lv_at hl 1 rfl) ?_
      refine rg_fl S hK hG hR dX10_lie_11 ?_
      refine lv_iload_n S.1 S.2.1 dX10_lie_14 rfl (lv_at hl 2 rfl) ?_
      refine rl_fl S hK hG hR (o) (by omega) dX10_lie_15 ?_
      refine lv_icmp_gt (tgt := 34) S.1 S.2.1 dX10_lie_16 (by decide) (fun c1 => ?_) (fun c1 => ?_)
      · have c1 : (fl o) < k := (nI_ltI (a := fl o) (b := k) (by omega) (by omega)).mp c1
        have hk : k = fl o + 1 := by omega
        subst hk
        exact mw_vret S hr hlk hK hG dX10_lie_34 ⟨rfl, hR⟩
      · have c1 : ¬ ((fl o) < k) := fun h9 => c1 ((nI_ltI (a := fl o) (b := k) (by omega) (by omega)).mpr h9)
        refine lv_aload_n S.1 S.2.1 dX10_lie_19 rfl (lv_at hl 1 rfl) ?_
        refine rg_own S hK hG hR dX10_lie_20 ?_
        refine lv_iload_n S.1 S.2.1 dX10_lie_23 rfl (lv_at hl 3 rfl) ?_
        refine lv_iload_n S.1 S.2.1 dX10_lie_24 rfl (lv_at hl 0 rfl) ?_
        refine lv_iadd S.1 S.2.1 dX10_lie_25 ?_
        refine lv_eqi (nI_add _ _) ?_
        refine lv_iload_n S.1 S.2.1 dX10_lie_26 rfl (lv_at hl 2 rfl) ?_
        refine rs_own S hK hG hR (a + k) (some (o)) (by omega) dX10_lie_27 (fun w H locs hR hG => ?_)
        rw [fillO_s] at hR
        refine lv_iinc (v := nI (k + 1)) (lv' := [(3, .int (nI (k + 1))), (0, .ref (q 0)), (1, .int (nI (o))), (2, .int (nI (a)))]) S.1 S.2.1 dX10_lie_28 hl (k := 0) rfl (nI_1 _) (by decide) rfl (fun ls hl => ?_)
        refine lv_goto (tgt := 9) S.1 S.2.1 dX10_lie_31 (by decide) ?_
        exact ihL (k + 1) (by omega) (by omega) _ _ _ hR hG ls (lv_sub hl [0, 1, 2, 3] rfl)
  exact L (fl o + 2) 0 (by omega) (by omega) _ _ _ (by rw [fillO_0]; exact hR) hG ls (lv_sub hl [0, 1, 2, 3] rfl)
theorem cal_X10_go : mCal yX10_go cX10_go 2 1 none := ⟨in_435, by decide +kernel⟩
set_option maxHeartbeats 4000000 in
set_option maxRecDepth 100000 in
theorem r_go {l : Launch} {dC : Nat → ClassId} {dI : Nat → Nat → Nat} {cI cZ cT : ClassId} {q : Nat → Nat} {thr : Int32} {kp : Nat} {Wn : Nat} {made : Nat} {adr : (Nat → Option Nat)} {fl : (Nat → Nat)} {rem : (Nat → Bool)} {num : (Nat → Nat → Int32)} {rfs : (Nat → Nat → Option Nat)} {root : (Nat → Option Nat)} {own : (Nat → Option Nat)} {half : Nat} {top : Nat} {coll : Nat} {mins : Nat} {movd : Nat} {size : Nat} {row : (Nat → Nat)} {plc : (Nat → Option Nat)} {old : (Nat → Option Nat)} {w : mM} (hR : RW cI cZ q thr kp Wn made adr fl rem num rfs root own half top coll mins movd size row plc old w) (o a : Nat) (ho : o < 2000) (ha : adr o = some a) (hb : a + fl o < 400) : mC l yX10_go (wsY yX10_go cX10_go 2 none) { frames := 1, cells := 0, slots := 0, locals := 22 } (dC, dI) vwCl (tyL cI cZ cT) 0 0 w [.ref (q 0), .int (nI (o))] (fun v w2 => v = none ∧ RW cI cZ q thr kp Wn made (va_up adr o none) fl (va_up rem o false) num rfs root (fillO own a (fl o + 1) none) half top coll mins movd size row plc old w2) := by
  refine mC.on (by decide) (Nat.le_of_ble_eq_true rfl) ?_
  intro p e s m args below meth c ls S hr hlk hnm hK hN hG hl
  have hl : lv_has ls 2 [(0, .ref (q 0)), (1, .int (nI (o)))] := hl
  generalize hAe : mA w s.heap.size = A at hG ⊢
  refine lv_aload_n S.1 S.2.1 dX10_go_0 rfl (lv_at hl 0 rfl) ?_
  refine lv_iload_n S.1 S.2.1 dX10_go_1 rfl (lv_at hl 1 rfl) ?_
  refine mCV (As := [.int (nI (o))]) (rest := []) S (r_leave hR o a ho ha hb) cal_X10_leave in_436 in_437 in_438 in_5 hK hN hG hR.obj rfl rfl rfl hl.1 (Nat.le_of_ble_eq_true rfl) ⟨by decide, by decide⟩ ⟨rfl, rfl⟩ ⟨by decide, by decide⟩ dX10_go_2 (fun v w H locs hp hG => ?_)
  obtain ⟨rfl, hR⟩ := hp
  refine W.eq (g2 := F0 m 5 ls []) rfl ?_
  refine lv_aload_n S.1 S.2.1 dX10_go_5 rfl (lv_at hl 0 rfl) ?_
  refine rg_adr S hK hG hR dX10_go_6 ?_
  refine lv_iload_n S.1 S.2.1 dX10_go_9 rfl (lv_at hl 1 rfl) ?_
  refine lv_iconst (v := -1) S.1 S.2.1 dX10_go_10 (by decide) ?_
  refine rs_adr S hK hG hR (o) (none) (by omega) dX10_go_11 (fun w H locs hR hG => ?_)
  refine lv_aload_n S.1 S.2.1 dX10_go_12 rfl (lv_at hl 0 rfl) ?_
  refine rg_rem S hK hG hR dX10_go_13 ?_
  refine lv_iload_n S.1 S.2.1 dX10_go_16 rfl (lv_at hl 1 rfl) ?_
  refine lv_iconst (v := bI false) S.1 S.2.1 dX10_go_17 (by decide) ?_
  refine rs_rem S hK hG hR (o) (false) (by omega) dX10_go_18 (fun w H locs hR hG => ?_)
  exact mw_vret S hr hlk hK hG dX10_go_19 ⟨rfl, hR⟩
theorem cal_X10_fit : mCal yX10_fit cX10_fit 5 2 (some .int) := ⟨in_396, by decide +kernel⟩
set_option maxHeartbeats 4000000 in
set_option maxRecDepth 100000 in
theorem r_fit {l : Launch} {dC : Nat → ClassId} {dI : Nat → Nat → Nat} {cI cZ cT : ClassId} {q : Nat → Nat} {thr : Int32} {kp : Nat} {Wn : Nat} {made : Nat} {adr : (Nat → Option Nat)} {fl : (Nat → Nat)} {rem : (Nat → Bool)} {num : (Nat → Nat → Int32)} {rfs : (Nat → Nat → Option Nat)} {root : (Nat → Option Nat)} {own : (Nat → Option Nat)} {half : Nat} {top : Nat} {coll : Nat} {mins : Nat} {movd : Nat} {size : Nat} {row : (Nat → Nat)} {plc : (Nat → Option Nat)} {old : (Nat → Option Nat)} {w : mM} (hR : RW cI cZ q thr kp Wn made adr fl rem num rfs root own half top coll mins movd size row plc old w) (f many : Nat) (hf : f ≤ 400) (hm : 1 ≤ many) (hm2 : many ≤ 7) (hW : Wn ≤ 400) (ho : ∀ k x, own k = some x → x < 2147483648) : mC l yX10_fit (wsY yX10_fit cX10_fit 5 (some .int)) { frames := 0, cells := 0, slots := 0, locals := 0 } (dC, dI) vwCl (tyL cI cZ cT) 0 0 w [.ref (q 0), .int (nI (f)), .int (nI (many))] (fun v w2 => v = some (.int (oI (fit own Wn f many))) ∧ w2 = w) := by
  refine mC.on (by decide) (Nat.le_of_ble_eq_true rfl) ?_
  intro p e s m args below meth c ls S hr hlk hnm hK hN hG hl
  have hl : lv_has ls 5 [(0, .ref (q 0)), (1, .int (nI (f))), (2, .int (nI (many)))] := hl
  generalize hAe : mA w s.heap.size = A at hG ⊢
  refine lv_iconst (v := nI (0)) S.1 S.2.1 dX10_fit_0 (by decide) ?_
  refine lv_istore_n (lv' := [(3, .int (nI (0))), (0, .ref (q 0)), (1, .int (nI (f))), (2, .int (nI (many)))]) S.1 S.2.1 dX10_fit_1 rfl hl (by decide) rfl (fun ls hl => ?_)
  refine lv_iload_n S.1 S.2.1 dX10_fit_2 rfl (lv_at hl 2 rfl) ?_
  refine lv_istore (lv' := [(4, .int (nI (f))), (3, .int (nI (0))), (0, .ref (q 0)), (1, .int (nI (f))), (2, .int (nI (many)))]) S.1 S.2.1 dX10_fit_3 hl (by decide) rfl (fun ls hl => ?_)
  have L : ∀ (fu : Nat) (k : Nat) (fr : Nat), Wn + 1 - k < fu → (fr ≤ k) → (k ≤ 400) → (fitR own Wn many (Wn + 1 - k) k fr = fit own Wn f many) → ∀ ls : Array Slot, lv_has ls 5 [(4, .int (nI (k))), (3, .int (nI (fr))), (0, .ref (q 0)), (1, .int (nI (f))), (2, .int (nI (many)))] → W p l e { frames := 0, cells := 0, slots := 0, locals := 0 } s m args below meth c s.heap [] 0 0 (MQ below (mQ (dC, dI) vwCl (tyL cI cZ cT) (fun v w2 => v = some (.int (oI (fit own Wn f many))) ∧ w2 = w) A) args s 0 0 A) (F0 m 5 ls []) := by
    intro fu
    induction fu with
    | zero => intro k fr h1; exact absurd h1 (Nat.not_lt_zero _)
    | succ fu ihL =>
      intro k fr h1 h2 h3 h4 ls hl
      refine lv_iload S.1 S.2.1 dX10_fit_5 (lv_at hl 0 rfl) ?_
      refine lv_aload_n S.1 S.2.1 dX10_fit_7 rfl (lv_at hl 2 rfl) ?_
      refine rg_Wn S hK hG hR dX10_fit_8 ?_
      refine lv_icmp_ge (tgt := 51) S.1 S.2.1 dX10_fit_11 (by decide) (fun c1 => ?_) (fun c1 => ?_)
      · have c1 : Wn ≤ k := (nI_leI (a := Wn) (b := k) (by omega) (by omega)).mp c1
        refine lv_iconst (v := -1) S.1 S.2.1 dX10_fit_51 (by decide) ?_
        rw [fitR_ge c1] at h4
        exact mw_iret S hr hlk hK hG dX10_fit_52 ⟨by rw [← h4]; rfl, rfl⟩
      · have c1 : ¬ (Wn ≤ k) := fun h9 => c1 ((nI_leI (a := Wn) (b := k) (by omega) (by omega)).mpr h9)
        refine lv_aload_n S.1 S.2.1 dX10_fit_14 rfl (lv_at hl 2 rfl) ?_
        refine rg_own S hK hG hR dX10_fit_15 ?_
        refine lv_iload S.1 S.2.1 dX10_fit_18 (lv_at hl 0 rfl) ?_
        refine rl_own S hK hG hR (k) (by omega) dX10_fit_20 ?_
        refine lv_iconst (v := -1) S.1 S.2.1 dX10_fit_21 (by decide) ?_
        have hn : Wn + 1 - k = (Wn - k) + 1 := by omega
        rw [hn] at h4
        refine lv_icmp_ne (tgt := 31) S.1 S.2.1 dX10_fit_22 (by decide) (fun c2 => ?_) (fun c2 => ?_)
        · have c2 : ¬ own k = none := fun z => c2 ((oI_m1 (ho k)).mpr z)
          refine lv_iconst (v := nI (0)) S.1 S.2.1 dX10_fit_31 (by decide) ?_
          refine lv_istore_n (lv' := [(3, .int (nI (0))), (4, .int (nI (k))), (0, .ref (q 0)), (1, .int (nI (f))), (2, .int (nI (many)))]) S.1 S.2.1 dX10_fit_32 rfl hl (by decide) rfl (fun ls hl => ?_)
          refine lv_iload_n S.1 S.2.1 dX10_fit_33 rfl (lv_at hl 0 rfl) ?_
          refine lv_iload_n S.1 S.2.1 dX10_fit_34 rfl (lv_at hl 4 rfl) ?_
          refine lv_icmp_ne (tgt := 45) S.1 S.2.1 dX10_fit_35 (by decide) (fun c3 => ?_) (fun c3 => ?_)
          · have c3 : ¬ (0 = many) := fun h9 => c3 ((nI_eq (a := 0) (b := many) (by omega) (by omega)).mpr h9)
            rw [fitR_go (by omega) (by rw [if_neg c2]; exact c3)] at h4
            refine lv_iinc (v := nI (k + 1)) (lv' := [(4, .int (nI (k + 1))), (3, .int (nI (0))), (0, .ref (q 0)), (1, .int (nI (f))), (2, .int (nI (many)))]) S.1 S.2.1 dX10_fit_45 hl (k := 1) rfl (nI_1 _) (by decide) rfl (fun ls hl => ?_)
            refine lv_goto (tgt := 5) S.1 S.2.1 dX10_fit_48 (by decide) ?_
            rw [show (if own k = none then fr + 1 else 0) = 0 by rw [if_neg c2], show Wn - k = Wn + 1 - (k + 1) by omega] at h4
            exact ihL (k + 1) (0) (by omega) (by omega) (by omega) h4 ls (lv_sub hl [0, 1, 2, 3, 4] rfl)
          · have c3 : 0 = many := (nI_eq (a := 0) (b := many) (by omega) (by omega)).mp c3
            rw [fitR_hit (by omega) (by rw [if_neg c2]; exact c3)] at h4
            refine lv_iload S.1 S.2.1 dX10_fit_38 (lv_at hl 1 rfl) ?_
            refine lv_iload_n S.1 S.2.1 dX10_fit_40 rfl (lv_at hl 4 rfl) ?_
            refine lv_isub S.1 S.2.1 dX10_fit_41 ?_
            refine lv_iconst (v := nI (1)) S.1 S.2.1 dX10_fit_42 (by decide) ?_
            refine lv_iadd S.1 S.2.1 dX10_fit_43 ?_
            refine lv_eqi (nI_subp (by omega)) ?_
            exact mw_iret S hr hlk hK hG dX10_fit_44 ⟨by rw [← h4]; rfl, rfl⟩
        · have c2 : own k = none := (oI_m1 (ho k)).mp c2
          refine lv_iload_n S.1 S.2.1 dX10_fit_25 rfl (lv_at hl 1 rfl) ?_
          refine lv_iconst (v := nI (1)) S.1 S.2.1 dX10_fit_26 (by decide) ?_
          refine lv_iadd S.1 S.2.1 dX10_fit_27 ?_
          refine lv_eqi (nI_add _ _) ?_
          refine lv_goto (tgt := 32) S.1 S.2.1 dX10_fit_28 (by decide) ?_
          refine lv_istore_n (lv' := [(3, .int (nI (fr + 1))), (4, .int (nI (k))), (0, .ref (q 0)), (1, .int (nI (f))), (2, .int (nI (many)))]) S.1 S.2.1 dX10_fit_32 rfl hl (by decide) rfl (fun ls hl => ?_)
          refine lv_iload_n S.1 S.2.1 dX10_fit_33 rfl (lv_at hl 0 rfl) ?_
          refine lv_iload_n S.1 S.2.1 dX10_fit_34 rfl (lv_at hl 4 rfl) ?_
          refine lv_icmp_ne (tgt := 45) S.1 S.2.1 dX10_fit_35 (by decide) (fun c3 => ?_) (fun c3 => ?_)
          · have c3 : ¬ ((fr + 1) = many) := fun h9 => c3 ((nI_eq (a := fr + 1) (b := many) (by omega) (by omega)).mpr h9)
            rw [fitR_go (by omega) (by rw [if_pos c2]; exact c3)] at h4
            refine lv_iinc (v := nI (k + 1)) (lv' := [(4, .int (nI (k + 1))), (3, .int (nI (fr + 1))), (0, .ref (q 0)), (1, .int (nI (f))), (2, .int (nI (many)))]) S.1 S.2.1 dX10_fit_45 hl (k := 1) rfl (nI_1 _) (by decide) rfl (fun ls hl => ?_)
            refine lv_goto (tgt := 5) S.1 S.2.1 dX10_fit_48 (by decide) ?_
            rw [show (if own k = none then fr + 1 else 0) = fr + 1 by rw [if_pos c2], show Wn - k = Wn + 1 - (k + 1) by omega] at h4
            exact ihL (k + 1) (fr + 1) (by omega) (by omega) (by omega) h4 ls (lv_sub hl [0, 1, 2, 3, 4] rfl)
          · have c3 : (fr + 1) = many := (nI_eq (a := fr + 1) (b := many) (by omega) (by omega)).mp c3
            rw [fitR_hit (by omega) (by rw [if_pos c2]; exact c3)] at h4
            refine lv_iload S.1 S.2.1 dX10_fit_38 (lv_at hl 1 rfl) ?_
            refine lv_iload_n S.1 S.2.1 dX10_fit_40 rfl (lv_at hl 4 rfl) ?_
            refine lv_isub S.1 S.2.1 dX10_fit_41 ?_
            refine lv_iconst (v := nI (1)) S.1 S.2.1 dX10_fit_42 (by decide) ?_
            refine lv_iadd S.1 S.2.1 dX10_fit_43 ?_
            refine lv_eqi (nI_subp (by omega)) ?_
            exact mw_iret S hr hlk hK hG dX10_fit_44 ⟨by rw [← h4]; rfl, rfl⟩
  exact L (Wn + 2) f 0 (by omega) (by omega) (by omega) rfl ls (lv_sub hl [0, 1, 2, 3, 4] rfl)
theorem cal_X10_begin : mCal yX10_begin cX10_begin 2 0 none := ⟨in_415, by decide +kernel⟩
set_option maxHeartbeats 4000000 in
set_option maxRecDepth 100000 in
theorem r_begin {l : Launch} {dC : Nat → ClassId} {dI : Nat → Nat → Nat} {cI cZ cT : ClassId} {q : Nat → Nat} {thr : Int32} {kp : Nat} {Wn : Nat} {made : Nat} {adr : (Nat → Option Nat)} {fl : (Nat → Nat)} {rem : (Nat → Bool)} {num : (Nat → Nat → Int32)} {rfs : (Nat → Nat → Option Nat)} {root : (Nat → Option Nat)} {own : (Nat → Option Nat)} {half : Nat} {top : Nat} {coll : Nat} {mins : Nat} {movd : Nat} {size : Nat} {row : (Nat → Nat)} {plc : (Nat → Option Nat)} {old : (Nat → Option Nat)} {w : mM} (hR : RW cI cZ q thr kp Wn made adr fl rem num rfs root own half top coll mins movd size row plc old w) (hm : made ≤ 2000) : mC l yX10_begin (wsY yX10_begin cX10_begin 2 none) { frames := 0, cells := 0, slots := 0, locals := 0 } (dC, dI) vwCl (tyL cI cZ cT) 0 0 w [.ref (q 0)] (fun v w2 => v = none ∧ RW cI cZ q thr kp Wn made adr fl rem num rfs root own half top coll mins movd 0 row (clrO plc made) old w2) := by
  refine mC.on (by decide) (Nat.le_of_ble_eq_true rfl) ?_
  intro p e s m args below meth c ls S hr hlk hnm hK hN hG hl
  have hl : lv_has ls 2 [(0, .ref (q 0))] := hl
  generalize hAe : mA w s.heap.size = A at hG ⊢
  refine lv_aload_n S.1 S.2.1 dX10_begin_0 rfl (lv_at hl 0 rfl) ?_
  refine lv_iconst (v := nI (0)) S.1 S.2.1 dX10_begin_1 (by decide) ?_
  refine rp_size S hK hG hR (0) dX10_begin_2 (fun w H locs hR hG => ?_)
  refine lv_iconst (v := nI (0)) S.1 S.2.1 dX10_begin_5 (by decide) ?_
  refine lv_istore_n (lv' := [(1, .int (nI (0))), (0, .ref (q 0))]) S.1 S.2.1 dX10_begin_6 rfl hl (by decide) rfl (fun ls hl => ?_)
  have L : ∀ (fu : Nat) (k : Nat), made - k < fu → (k ≤ made) → ∀ (w : mM) (H : Heap) (locs : List Loc), RW cI cZ q thr kp Wn made adr fl rem num rfs root own half top coll mins movd 0 row (clrO plc k) old w → mG (dC, dI) vwCl A s.heap w H locs → ∀ ls : Array Slot, lv_has ls 2 [(1, .int (nI (k))), (0, .ref (q 0))] → W p l e { frames := 0, cells := 0, slots := 0, locals := 0 } s m args below meth c H locs 0 0 (MQ below (mQ (dC, dI) vwCl (tyL cI cZ cT) (fun v w2 => v = none ∧ RW cI cZ q thr kp Wn made adr fl rem num rfs root own half top coll mins movd 0 row (clrO plc made) old w2) A) args s 0 0 A) (F0 m 7 ls []) := by
    intro fu
    induction fu with
    | zero => intro k h1; exact absurd h1 (Nat.not_lt_zero _)
    | succ fu ihL =>
      intro k h1 h2 w H locs hR hG ls hl
      refine lv_iload_n S.1 S.2.1 dX10_begin_7 rfl (lv_at hl 0 rfl) ?_
      refine lv_aload_n S.1 S.2.1 dX10_begin_8 rfl (lv_at hl 1 rfl) ?_
      refine rg_made S hK hG hR dX10_begin_9 ?_
      refine lv_icmp_ge (tgt := 28) S.1 S.2.1 dX10_begin_12 (by decide) (fun c1 => ?_) (fun c1 => ?_)
      · have c1 : made ≤ k := (nI_leI (a := made) (b := k) (by omega) (by omega)).mp c1
        have hk : k = made := by omega
        subst hk
        exact mw_vret S hr hlk hK hG dX10_begin_28 ⟨rfl, hR⟩
      · have c1 : ¬ (made ≤ k) := fun h9 => c1 ((nI_leI (a := made) (b := k) (by omega) (by omega)).mpr h9)
        refine lv_aload_n S.1 S.2.1 dX10_begin_15 rfl (lv_at hl 1 rfl) ?_
        refine rg_plc S hK hG hR dX10_begin_16 ?_
        refine lv_iload_n S.1 S.2.1 dX10_begin_19 rfl (lv_at hl 0 rfl) ?_
        refine lv_iconst (v := -1) S.1 S.2.1 dX10_begin_20 (by decide) ?_
        refine rs_plc S hK hG hR (k) (none) (by omega) dX10_begin_21 (fun w H locs hR hG => ?_)
        rw [clrO_s] at hR
        refine lv_iinc (v := nI (k + 1)) (lv' := [(1, .int (nI (k + 1))), (0, .ref (q 0))]) S.1 S.2.1 dX10_begin_22 hl (k := 0) rfl (nI_1 _) (by decide) rfl (fun ls hl => ?_)
        refine lv_goto (tgt := 7) S.1 S.2.1 dX10_begin_25 (by decide) ?_
        exact ihL (k + 1) (by omega) (by omega) _ _ _ hR hG ls (lv_sub hl [0, 1] rfl)
  exact L (made + 1) 0 (by omega) (by omega) _ _ _ (by rw [clrO_0]; exact hR) hG ls (lv_sub hl [0, 1] rfl)
