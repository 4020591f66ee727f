def isOldR (kp Wn : Nat) (adr : Nat → Option Nat) (o : Nat) : Bool := decide (kp = 2) && (match adr o with | some a => decide (Wn / 4 ≤ a) | none => false)
theorem isOld_k {kp Wn : Nat} {adr : Nat → Option Nat} {o : Nat} (h : ¬ (kp = 2)) : isOldR kp Wn adr o = false := by unfold isOldR; rw [decide_eq_false h]; rfl
theorem isOld_n {kp Wn : Nat} {adr : Nat → Option Nat} {o : Nat} (h : adr o = none) : isOldR kp Wn adr o = false := by unfold isOldR; rw [h]; simp
theorem isOld_y {kp Wn : Nat} {adr : Nat → Option Nat} {o a : Nat} (h : adr o = some a) (h2 : a < Wn / 4) : isOldR kp Wn adr o = false := by unfold isOldR; rw [h]; simp; omega
theorem isOld_o {kp Wn : Nat} {adr : Nat → Option Nat} {o a : Nat} (hk : kp = 2) (h : adr o = some a) (h2 : ¬ (a < Wn / 4)) : isOldR kp Wn adr o = true := by unfold isOldR; rw [h]; simp; omega
theorem m1_lt {n : Nat} (h : n < 2147483648) : (-1 : Int32) < nI n := by
  apply lt_toInt.mpr
  rw [nI_toInt h]
  show (-1 : Int) < _
  omega
theorem cal_X10_in : mCal yX10_in cX10_in 3 3 (some .boolean) := ⟨in_387, by decide +kernel⟩
set_option maxHeartbeats 4000000 in
set_option maxRecDepth 100000 in
theorem r_in {l : Launch} {dC : Nat → ClassId} {dI : Nat → Nat → Nat} {cI cZ cT : ClassId} {w : mM} (x : Int32) (h : Nat) (hh : h < 1000) : mC l yX10_in (wsY yX10_in cX10_in 3 (some .boolean)) { frames := 0, cells := 0, slots := 0, locals := 0 } (dC, dI) vwCl (tyL cI cZ cT) 0 0 w [.int (x), .int (nI (0)), .int (nI (h))] (fun v w2 => v = some (.int (bI (inR (h + 1) x))) ∧ w2 = w) := by
  refine mC.on (by decide) (Nat.le_of_ble_eq_true rfl) ?_
  intro p e s m args below meth c ls S hr hlk hnm hK hN hG hl
  have hl : lv_has ls 3 [(0, .int (x)), (1, .int (nI (0))), (2, .int (nI (h)))] := hl
  generalize hAe : mA w s.heap.size = A at hG ⊢
  refine lv_iload_n S.1 S.2.1 dX10_in_0 rfl (lv_at hl 0 rfl) ?_
  refine lv_iload_n S.1 S.2.1 dX10_in_1 rfl (lv_at hl 1 rfl) ?_
  refine lv_icmp_lt (tgt := 14) S.1 S.2.1 dX10_in_2 (by decide) (fun c1 => ?_) (fun c1 => ?_)
  · refine lv_iconst (v := nI (0)) S.1 S.2.1 dX10_in_14 (by decide) ?_
    exact mw_zret S hr (by decide) hlk hK hG dX10_in_15 ⟨by rw [inR_lo c1]; rfl, rfl⟩
  · refine lv_iload_n S.1 S.2.1 dX10_in_5 rfl (lv_at hl 0 rfl) ?_
    refine lv_iload_n S.1 S.2.1 dX10_in_6 rfl (lv_at hl 2 rfl) ?_
    refine lv_icmp_gt (tgt := 14) S.1 S.2.1 dX10_in_7 (by decide) (fun c2 => ?_) (fun c2 => ?_)
    · refine lv_iconst (v := nI (0)) S.1 S.2.1 dX10_in_14 (by decide) ?_
      exact mw_zret S hr (by decide) hlk hK hG dX10_in_15 ⟨by rw [inR_hi2 (by omega) c2]; rfl, rfl⟩
    · refine lv_iconst (v := nI (1)) S.1 S.2.1 dX10_in_10 (by decide) ?_
      refine lv_goto (tgt := 15) S.1 S.2.1 dX10_in_11 (by decide) ?_
      exact mw_zret S hr (by decide) hlk hK hG dX10_in_15 ⟨by rw [inR_t2 (by omega) c1 c2]; rfl, rfl⟩
theorem cal_X10_isRoot : mCal yX10_isRoot cX10_isRoot 1 1 (some .boolean) := ⟨in_384, by decide +kernel⟩
set_option maxHeartbeats 4000000 in
set_option maxRecDepth 100000 in
theorem r_isRoot {l : Launch} {dC : Nat → ClassId} {dI : Nat → Nat → Nat} {cI cZ cT : ClassId} {w : mM} (x : Int32) : mC l yX10_isRoot (wsY yX10_isRoot cX10_isRoot 1 (some .boolean)) { frames := 1, cells := 0, slots := 0, locals := 22 } (dC, dI) vwCl (tyL cI cZ cT) 0 0 w [.int (x)] (fun v w2 => v = some (.int (bI (inR 16 x))) ∧ w2 = w) := by
  refine mC.on (by decide) (Nat.le_of_ble_eq_true rfl) ?_
  intro p e s m args below meth c ls S hr hlk hnm hK hN hG hl
  have hl : lv_has ls 1 [(0, .int (x))] := hl
  generalize hAe : mA w s.heap.size = A at hG ⊢
  refine lv_iload_n S.1 S.2.1 dX10_isRoot_0 rfl (lv_at hl 0 rfl) ?_
  refine lv_iconst (v := nI (0)) S.1 S.2.1 dX10_isRoot_1 (by decide) ?_
  refine lv_bipush (v := nI (15)) S.1 S.2.1 dX10_isRoot_2 (by decide) ?_
  refine mCS (As := [.int (x), .int (nI (0)), .int (nI (15))]) (rest := []) S (r_in x 15 (by decide)) cal_X10_in rfl in_385 in_386 in_5 hK hN hG rfl rfl hl.1 (Nat.le_of_ble_eq_true rfl) ⟨by decide, by decide⟩ ⟨rfl, rfl⟩ ⟨by decide, by decide⟩ dX10_isRoot_4 (fun v w H locs hp hG => ?_)
  obtain ⟨rfl, hw9⟩ := hp
  rw [hw9] at hG
  refine W.eq (g2 := F0 m 7 ls [.int (bI (inR 16 x))]) rfl ?_
  exact mw_zret S hr (bI_nar _) hlk hK hG dX10_isRoot_7 ⟨rfl, rfl⟩
theorem cal_X10_isOld : mCal yX10_isOld cX10_isOld 2 1 (some .boolean) := ⟨in_431, by decide +kernel⟩
set_option maxHeartbeats 4000000 in
set_option maxRecDepth 100000 in
theorem r_isOld {l : Launch} {dC : Nat → ClassId} {dI : Nat → Nat → Nat} {cI cZ cT : ClassId} {q : Nat → Nat} {thr : Int32} {kp : Nat} {Wn : Nat} {made : Nat} {adr : (Nat → Option Nat)} {fl : (Nat → Nat)} {rem : (Nat → Bool)} {num : (Nat → Nat → Int32)} {rfs : (Nat → Nat → Option Nat)} {root : (Nat → Option Nat)} {own : (Nat → Option Nat)} {half : Nat} {top : Nat} {coll : Nat} {mins : Nat} {movd : Nat} {size : Nat} {row : (Nat → Nat)} {plc : (Nat → Option Nat)} {old : (Nat → Option Nat)} {w : mM} (hR : RW cI cZ q thr kp Wn made adr fl rem num rfs root own half top coll mins movd size row plc old w) (o : Nat) (ho : o < 2000) (hW : Wn ≤ 400) (hk : kp ≤ 2) (ha : ∀ a, adr o = some a → a < 2147483648) : mC l yX10_isOld (wsY yX10_isOld cX10_isOld 2 (some .boolean)) { frames := 0, cells := 0, slots := 0, locals := 0 } (dC, dI) vwCl (tyL cI cZ cT) 0 0 w [.ref (q 0), .int (nI (o))] (fun v w2 => v = some (.int (bI (isOldR kp Wn adr o))) ∧ w2 = w) := by
  refine mC.on (by decide) (Nat.le_of_ble_eq_true rfl) ?_
  intro p e s m args below meth c ls S hr hlk hnm hK hN hG hl
  have hl : lv_has ls 2 [(0, .ref (q 0)), (1, .int (nI (o)))] := hl
  generalize hAe : mA w s.heap.size = A at hG ⊢
  refine lv_aload_n S.1 S.2.1 dX10_isOld_0 rfl (lv_at hl 0 rfl) ?_
  refine rg_kp S hK hG hR dX10_isOld_1 ?_
  refine lv_iconst (v := nI (2)) S.1 S.2.1 dX10_isOld_4 (by decide) ?_
  refine lv_icmp_ne (tgt := 27) S.1 S.2.1 dX10_isOld_5 (by decide) (fun c1 => ?_) (fun c1 => ?_)
  · have c1 : ¬ (kp = 2) := fun h9 => c1 ((nI_eq (a := kp) (b := 2) (by omega) (by omega)).mpr h9)
    refine lv_iconst (v := nI (0)) S.1 S.2.1 dX10_isOld_27 (by decide) ?_
    exact mw_zret S hr (by decide) hlk hK hG dX10_isOld_28 ⟨by rw [isOld_k c1]; rfl, rfl⟩
  · have c1 : kp = 2 := (nI_eq (a := kp) (b := 2) (by omega) (by omega)).mp c1
    refine lv_aload_n S.1 S.2.1 dX10_isOld_8 rfl (lv_at hl 0 rfl) ?_
    refine rg_adr S hK hG hR dX10_isOld_9 ?_
    refine lv_iload_n S.1 S.2.1 dX10_isOld_12 rfl (lv_at hl 1 rfl) ?_
    refine rl_adr S hK hG hR (o) (by omega) dX10_isOld_13 ?_
    refine lv_aload_n S.1 S.2.1 dX10_isOld_14 rfl (lv_at hl 0 rfl) ?_
    refine rg_Wn S hK hG hR dX10_isOld_15 ?_
    refine lv_iconst (v := nI (4)) S.1 S.2.1 dX10_isOld_18 (by decide) ?_
    refine lv_idiv S.1 S.2.1 dX10_isOld_19 (by decide) ?_
    refine lv_eqi (pk_div (by omega) (by omega) (by omega)) ?_
    cases hao : adr o with
    | none =>
      refine lv_icmp_lt (tgt := 27) S.1 S.2.1 dX10_isOld_20 (by decide) (fun c => ?_) (fun c => ?_)
      · refine lv_iconst (v := nI (0)) S.1 S.2.1 dX10_isOld_27 (by decide) ?_
        exact mw_zret S hr (by decide) hlk hK hG dX10_isOld_28 ⟨by rw [isOld_n hao]; rfl, rfl⟩
      · exact absurd (m1_lt (by omega)) c
    | some a =>
      have ha2 := ha a hao
      refine lv_icmp_lt (tgt := 27) S.1 S.2.1 dX10_isOld_20 (by decide) (fun c2 => ?_) (fun c2 => ?_)
      · have c2 : a < (Wn / 4) := (nI_ltI (a := a) (b := Wn / 4) (by omega) (by omega)).mp c2
        refine lv_iconst (v := nI (0)) S.1 S.2.1 dX10_isOld_27 (by decide) ?_
        exact mw_zret S hr (by decide) hlk hK hG dX10_isOld_28 ⟨by rw [isOld_y hao c2]; rfl, rfl⟩
      · have c2 : ¬ (a < (Wn / 4)) := fun h9 => c2 ((nI_ltI (a := a) (b := Wn / 4) (by omega) (by omega)).mpr h9)
        refine lv_iconst (v := nI (1)) S.1 S.2.1 dX10_isOld_23 (by decide) ?_
        refine lv_goto (tgt := 28) S.1 S.2.1 dX10_isOld_24 (by decide) ?_
        exact mw_zret S hr (by decide) hlk hK hG dX10_isOld_28 ⟨by rw [isOld_o c1 hao c2]; rfl, rfl⟩
theorem cal_X10_leave : mCal yX10_leave cX10_leave 3 1 none := ⟨in_439, by decide +kernel⟩
set_option maxHeartbeats 4000000 in
set_option maxRecDepth 100000 in
theorem r_leave {l : Launch} {dC : Nat → ClassId} {dI : Nat → Nat → Nat} {cI cZ cT : ClassId} {q : Nat → Nat} {thr : Int32} {kp : Nat} {Wn : Nat} {made : Nat} {adr : (Nat → Option Nat)} {fl : (Nat → Nat)} {rem : (Nat → Bool)} {num : (Nat → Nat → Int32)} {rfs : (Nat → Nat → Option Nat)} {root : (Nat → Option Nat)} {own : (Nat → Option Nat)} {half : Nat} {top : Nat} {coll : Nat} {mins : Nat} {movd : Nat} {size : Nat} {row : (Nat → Nat)} {plc : (Nat → Option Nat)} {old : (Nat → Option Nat)} {w : mM} (hR : RW cI cZ q thr kp Wn made adr fl rem num rfs root own half top coll mins movd size row plc old w) (o a : Nat) (ho : o < 2000) (ha : adr o = some a) (hb : a + fl o < 400)  : mC l yX10_leave (wsY yX10_leave cX10_leave 3 none) { frames := 0, cells := 0, slots := 0, locals := 0 } (dC, dI) vwCl (tyL cI cZ cT) 0 0 w [.ref (q 0), .int (nI (o))] (fun v w2 => v = none ∧ RW cI cZ q thr kp Wn made adr fl rem num rfs root (fillO own a (fl o + 1) none) half top coll mins movd size row plc old w2) := by
  refine mC.on (by decide) (Nat.le_of_ble_eq_true rfl) ?_
  intro p e s m args below meth c ls S hr hlk hnm hK hN hG hl
  have hl : lv_has ls 3 [(0, .ref (q 0)), (1, .int (nI (o)))] := hl
  generalize hAe : mA w s.heap.size = A at hG ⊢
  refine lv_iconst (v := nI (0)) S.1 S.2.1 dX10_leave_0 (by decide) ?_
  refine lv_istore_n (lv' := [(2, .int (nI (0))), (0, .ref (q 0)), (1, .int (nI (o)))]) S.1 S.2.1 dX10_leave_1 rfl hl (by decide) rfl (fun ls hl => ?_)
  have L : ∀ (fu : Nat) (k : Nat), fl o + 1 - k < fu → (k ≤ fl o + 1) → ∀ (w : mM) (H : Heap) (locs : List Loc), RW cI cZ q thr kp Wn made adr fl rem num rfs root (fillO own a k none) half top coll mins movd size row plc old w → mG (dC, dI) vwCl A s.heap w H locs → ∀ ls : Array Slot, lv_has ls 3 [(2, .int (nI (k))), (0, .ref (q 0)), (1, .int (nI (o)))] → W p l e { frames := 0, cells := 0, slots := 0, locals := 0 } s m args below meth c H locs 0 0 (MQ below (mQ (dC, dI) vwCl (tyL cI cZ cT) (fun v w2 => v = none ∧ RW cI cZ q thr kp Wn made adr fl rem num rfs root (fillO own a (fl o + 1) none) half top coll mins movd size row plc old w2) A) args s 0 0 A) (F0 m 2 ls []) := by
    intro fu
    induction fu with
    | zero => intro k h1; exact absurd h1 (Nat.not_lt_zero _)
    | succ fu ihL =>
      intro k h1 h2 w H locs hR hG ls hl
      refine lv_iload_n S.1 S.2.1 dX10_leave_2 rfl (lv_at hl 0 rfl) ?_
      refine lv_aload_n S.1 S.2.1 dX10_leave_3 rfl (lv_at hl 1 rfl) ?_
      refine rg_fl S hK hG hR dX10_leave_4 ?_
      refine lv_iload_n S.1 S.2.1 dX10_leave_7 rfl (lv_at hl 2 rfl) ?_
      refine rl_fl S hK hG hR (o) (by omega) dX10_leave_8 ?_
      refine lv_icmp_gt (tgt := 32) S.1 S.2.1 dX10_leave_9 (by decide) (fun c1 => ?_) (fun c1 => ?_)
      · have c1 : (fl o) < k := (nI_ltI (a := fl o) (b := k) (by omega) (by omega)).mp c1
        have hk : k = fl o + 1 := by omega
        subst hk
        exact mw_vret S hr hlk hK hG dX10_leave_32 ⟨rfl, hR⟩
      · have c1 : ¬ ((fl o) < k) := fun h9 => c1 ((nI_ltI (a := fl o) (b := k) (by omega) (by omega)).mpr h9)
        refine lv_aload_n S.1 S.2.1 dX10_leave_12 rfl (lv_at hl 1 rfl) ?_
        refine rg_own S hK hG hR dX10_leave_13 ?_
        refine lv_aload_n S.1 S.2.1 dX10_leave_16 rfl (lv_at hl 1 rfl) ?_
        refine rg_adr S hK hG hR dX10_leave_17 ?_
        refine lv_iload_n S.1 S.2.1 dX10_leave_20 rfl (lv_at hl 2 rfl) ?_
        refine rl_adr S hK hG hR (o) (by omega) dX10_leave_21 ?_
        refine lv_eqi (y := nI (a)) (by show oI (adr o) = _; rw [ha]; rfl) ?_
        refine lv_iload_n S.1 S.2.1 dX10_leave_22 rfl (lv_at hl 0 rfl) ?_
        refine lv_iadd S.1 S.2.1 dX10_leave_23 ?_
        refine lv_eqi (nI_add _ _) ?_
        refine lv_iconst (v := -1) S.1 S.2.1 dX10_leave_24 (by decide) ?_
        refine rs_own S hK hG hR (a + k) (none) (by omega) dX10_leave_25 (fun w H locs hR hG => ?_)
        rw [fillO_s] at hR
        refine lv_iinc (v := nI (k + 1)) (lv' := [(2, .int (nI (k + 1))), (0, .ref (q 0)), (1, .int (nI (o)))]) S.1 S.2.1 dX10_leave_26 hl (k := 0) rfl (nI_1 _) (by decide) rfl (fun ls hl => ?_)
        refine lv_goto (tgt := 2) S.1 S.2.1 dX10_leave_29 (by decide) ?_
        exact ihL (k + 1) (by omega) (by omega) _ _ _ hR hG ls (lv_sub hl [0, 1, 2] rfl)
  exact L (fl o + 2) 0 (by omega) (by omega) _ _ _ (by rw [fillO_0]; exact hR) hG ls (lv_sub hl [0, 1, 2] rfl)
