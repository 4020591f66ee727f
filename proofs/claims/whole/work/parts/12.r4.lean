theorem cal_X10_sweep : mCal yX10_sweep cX10_sweep 4 1 (some .int) := ⟨in_427, by decide +kernel⟩
set_option maxHeartbeats 4000000 in
set_option maxRecDepth 100000 in
theorem r_sweep {l : Launch} {dC : Nat → ClassId} {dI : Nat → Nat → Nat} {cI cZ cT : ClassId} {q : Nat → Nat} {thr : Int32} {kp : Nat} {Wn : Nat} {made : Nat} {adr : (Nat → Option Nat)} {fl : (Nat → Nat)} {rem : (Nat → Bool)} {num : (Nat → Nat → Int32)} {rfs : (Nat → Nat → Option Nat)} {root : (Nat → Option Nat)} {own : (Nat → Option Nat)} {half : Nat} {top : Nat} {coll : Nat} {mins : Nat} {movd : Nat} {size : Nat} {row : (Nat → Nat)} {plc : (Nat → Option Nat)} {old : (Nat → Option Nat)} {w : mM} (hR : RW cI cZ q thr kp Wn made adr fl rem num rfs root own half top coll mins movd size row plc old w) (old2 : Bool) (hm : made ≤ 2000) (hW : Wn ≤ 400) (hkp : kp ≤ 2) (hLay : Lay made Wn fl adr own) (hpb : ∀ o, o < made → ∀ x, plc o = some x → x < 2147483648) : mC l yX10_sweep (wsY yX10_sweep cX10_sweep 4 (some .int)) { frames := 2, cells := 0, slots := 0, locals := 43 } (dC, dI) vwCl (tyL cI cZ cT) 0 0 w [.ref (q 0), .int (bI (old2))] (fun v w2 => v = some (.int (nI (cnt (swC old2 kp Wn adr plc) made))) ∧ RW cI cZ q thr kp Wn made (swA (blw made (swC old2 kp Wn adr plc)) adr) fl (swR (blw made (swC old2 kp Wn adr plc)) rem) num rfs root (swO (blw made (swC old2 kp Wn adr plc)) own) half top coll mins movd size row plc old w2) := by
  refine mC.on (by decide) (Nat.le_of_ble_eq_true rfl) ?_
  intro p e s m args below meth c ls S hr hlk hnm hK hN hG hl
  have hl : lv_has ls 4 [(0, .ref (q 0)), (1, .int (bI (old2)))] := hl
  generalize hAe : mA w s.heap.size = A at hG ⊢
  refine lv_iconst (v := nI (0)) S.1 S.2.1 dX10_sweep_0 (by decide) ?_
  refine lv_istore_n (lv' := [(2, .int (nI (0))), (0, .ref (q 0)), (1, .int (bI (old2)))]) S.1 S.2.1 dX10_sweep_1 rfl hl (by decide) rfl (fun ls hl => ?_)
  refine lv_iconst (v := nI (0)) S.1 S.2.1 dX10_sweep_2 (by decide) ?_
  refine lv_istore_n (lv' := [(3, .int (nI (0))), (2, .int (nI (0))), (0, .ref (q 0)), (1, .int (bI (old2)))]) S.1 S.2.1 dX10_sweep_3 rfl hl (by decide) rfl (fun ls hl => ?_)
  have L : ∀ (fu : Nat) (k : Nat), made - k < fu → (k ≤ made) → ∀ (w : mM) (H : Heap) (locs : List Loc), RW cI cZ q thr kp Wn made (swA (blw k (swC old2 kp Wn adr plc)) adr) fl (swR (blw k (swC old2 kp Wn adr plc)) rem) num rfs root (swO (blw k (swC old2 kp Wn adr plc)) own) half top coll mins movd size row plc old w → mG (dC, dI) vwCl A s.heap w H locs → ∀ ls : Array Slot, lv_has ls 4 [(3, .int (nI (k))), (2, .int (nI (cnt (swC old2 kp Wn adr plc) k))), (0, .ref (q 0)), (1, .int (bI (old2)))] → W p l e { frames := 2, cells := 0, slots := 0, locals := 43 } s m args below meth c H locs 0 0 (MQ below (mQ (dC, dI) vwCl (tyL cI cZ cT) (fun v w2 => v = some (.int (nI (cnt (swC old2 kp Wn adr plc) made))) ∧ RW cI cZ q thr kp Wn made (swA (blw made (swC old2 kp Wn adr plc)) adr) fl (swR (blw made (swC old2 kp Wn adr plc)) rem) num rfs root (swO (blw made (swC old2 kp Wn adr plc)) own) half top coll mins movd size row plc old w2) A) args s 0 0 A) (F0 m 4 ls []) := by
    intro fu
    induction fu with
    | zero => intro k h1; exact absurd h1 (Nat.not_lt_zero _)
    | succ fu ihL =>
      intro k h1 h2 w H locs hR hG ls hl
      refine lv_iload_n S.1 S.2.1 dX10_sweep_4 rfl (lv_at hl 0 rfl) ?_
      refine lv_aload_n S.1 S.2.1 dX10_sweep_5 rfl (lv_at hl 2 rfl) ?_
      refine rg_made S hK hG hR dX10_sweep_6 ?_
      refine lv_icmp_ge (tgt := 58) S.1 S.2.1 dX10_sweep_9 (by decide) (fun c1 => ?_) (fun c1 => ?_)
      · have c1 : made ≤ k := (nI_leI (a := made) (b := k) (by omega) (by omega)).mp c1
        have hk : k = made := by omega
        rw [hk] at hR
        refine lv_iload_n S.1 S.2.1 dX10_sweep_58 rfl (lv_at hl 1 rfl) ?_
        exact mw_iret S hr hlk hK hG dX10_sweep_59 ⟨by rw [hk], hR⟩
      · have c1 : ¬ (made ≤ k) := fun h9 => c1 ((nI_leI (a := made) (b := k) (by omega) (by omega)).mpr h9)
        refine lv_aload_n S.1 S.2.1 dX10_sweep_12 rfl (lv_at hl 2 rfl) ?_
        refine rg_adr S hK hG hR dX10_sweep_13 ?_
        refine lv_iload_n S.1 S.2.1 dX10_sweep_16 rfl (lv_at hl 0 rfl) ?_
        refine rl_adr S hK hG hR (k) (by omega) dX10_sweep_17 ?_
        refine lv_eqi (y := oI (adr k)) (by rw [swA_at]) ?_
        have hab : ∀ x, adr k = some x → x < 2147483648 := fun x hx => by have := Lay_b hLay (by omega) hx; omega
        refine lv_iconst (v := -1) S.1 S.2.1 dX10_sweep_18 (by decide) ?_
        refine lv_icmp_eq (tgt := 52) S.1 S.2.1 dX10_sweep_19 (by decide) (fun c2 => ?_) (fun c2 => ?_)
        · have hc : (swC old2 kp Wn adr plc) k = false := swC_n ((oI_m1 hab).mp c2)
          rw [swA_k (Or.inl hc), swR_k (Or.inl hc), swO_k hLay (Or.inl hc)] at hR
          refine lv_iinc (v := nI (k + 1)) (lv' := [(3, .int (nI (k + 1))), (2, .int (nI (cnt (swC old2 kp Wn adr plc) k))), (0, .ref (q 0)), (1, .int (bI (old2)))]) S.1 S.2.1 dX10_sweep_52 hl (k := 0) rfl (nI_1 _) (by decide) rfl (fun ls hl => ?_)
          refine lv_goto (tgt := 4) S.1 S.2.1 dX10_sweep_55 (by decide) ?_
          rw [← cnt_s0 hc] at hl
          exact ihL (k + 1) (by omega) (by omega) _ _ _ hR hG ls (lv_sub hl [0, 1, 2, 3] rfl)
        · obtain ⟨a, ha⟩ : ∃ a, adr k = some a := by
            cases h : adr k with
            | none => exact absurd ((oI_m1 hab).mpr h) c2
            | some a => exact ⟨a, rfl⟩
          have hb := Lay_b hLay (show k < made by omega) ha
          refine lv_aload_n S.1 S.2.1 dX10_sweep_22 rfl (lv_at hl 2 rfl) ?_
          refine rg_plc S hK hG hR dX10_sweep_23 ?_
          refine lv_iload_n S.1 S.2.1 dX10_sweep_26 rfl (lv_at hl 0 rfl) ?_
          refine rl_plc S hK hG hR (k) (by omega) dX10_sweep_27 ?_
          refine lv_iconst (v := -1) S.1 S.2.1 dX10_sweep_28 (by decide) ?_
          refine lv_icmp_ne (tgt := 52) S.1 S.2.1 dX10_sweep_29 (by decide) (fun c3 => ?_) (fun c3 => ?_)
          · have hc : (swC old2 kp Wn adr plc) k = false := swC_p (fun z => c3 ((oI_m1 (hpb k (by omega))).mpr z))
            rw [swA_k (Or.inl hc), swR_k (Or.inl hc), swO_k hLay (Or.inl hc)] at hR
            refine lv_iinc (v := nI (k + 1)) (lv' := [(3, .int (nI (k + 1))), (2, .int (nI (cnt (swC old2 kp Wn adr plc) k))), (0, .ref (q 0)), (1, .int (bI (old2)))]) S.1 S.2.1 dX10_sweep_52 hl (k := 0) rfl (nI_1 _) (by decide) rfl (fun ls hl => ?_)
            refine lv_goto (tgt := 4) S.1 S.2.1 dX10_sweep_55 (by decide) ?_
            rw [← cnt_s0 hc] at hl
            exact ihL (k + 1) (by omega) (by omega) _ _ _ hR hG ls (lv_sub hl [0, 1, 2, 3] rfl)
          · have hp : plc k = none := (oI_m1 (hpb k (by omega))).mp c3
            refine lv_iload_n S.1 S.2.1 dX10_sweep_32 rfl (lv_at hl 3 rfl) ?_
            refine lv_if_eq (tgt := 44) S.1 S.2.1 dX10_sweep_33 (by decide) (fun c4 => ?_) (fun c4 => ?_)
            · have c4 := bI_f c4
              have hc : (swC old2 kp Wn adr plc) k = true := swC_t ha hp (Or.inl c4)
              refine lv_aload_n S.1 S.2.1 dX10_sweep_44 rfl (lv_at hl 2 rfl) ?_
              refine lv_iload_n S.1 S.2.1 dX10_sweep_45 rfl (lv_at hl 0 rfl) ?_
              refine mCV (As := [.int (nI (k))]) (rest := []) S (r_go hR k a (by omega) (by rw [swA_at]; exact ha) (by omega)) cal_X10_go in_432 in_433 in_434 in_5 hK hN hG hR.obj rfl rfl rfl hl.1 (Nat.le_of_ble_eq_true rfl) ⟨by decide, by decide⟩ ⟨rfl, rfl⟩ ⟨by decide, by decide⟩ dX10_sweep_46 (fun v w H locs hp hG => ?_)
              obtain ⟨rfl, hR⟩ := hp
              refine W.eq (g2 := F0 m 49 ls []) rfl ?_
              rw [swA_s hc, swR_s hc, swO_s hLay (by omega) ha hc] at hR
              refine lv_iinc (v := nI (cnt (swC old2 kp Wn adr plc) k + 1)) (lv' := [(2, .int (nI (cnt (swC old2 kp Wn adr plc) k + 1))), (3, .int (nI (k))), (0, .ref (q 0)), (1, .int (bI (old2)))]) S.1 S.2.1 dX10_sweep_49 hl (k := 1) rfl (nI_1 _) (by decide) rfl (fun ls hl => ?_)
              refine lv_iinc (v := nI (k + 1)) (lv' := [(3, .int (nI (k + 1))), (2, .int (nI (cnt (swC old2 kp Wn adr plc) k + 1))), (0, .ref (q 0)), (1, .int (bI (old2)))]) S.1 S.2.1 dX10_sweep_52 hl (k := 1) rfl (nI_1 _) (by decide) rfl (fun ls hl => ?_)
              refine lv_goto (tgt := 4) S.1 S.2.1 dX10_sweep_55 (by decide) ?_
              rw [← cnt_s1 hc] at hl
              exact ihL (k + 1) (by omega) (by omega) _ _ _ hR hG ls (lv_sub hl [0, 1, 2, 3] rfl)
            · have c4 := bI_t c4
              refine lv_aload_n S.1 S.2.1 dX10_sweep_36 rfl (lv_at hl 2 rfl) ?_
              refine lv_iload_n S.1 S.2.1 dX10_sweep_37 rfl (lv_at hl 0 rfl) ?_
              refine mCV (As := [.int (nI (k))]) (rest := []) S (r_isOld hR k (by omega) hW hkp (by rw [swA_at]; exact hab)) cal_X10_isOld in_428 in_429 in_430 in_5 hK hN hG hR.obj rfl rfl rfl hl.1 (Nat.le_of_ble_eq_true rfl) ⟨by decide, by decide⟩ ⟨rfl, rfl⟩ ⟨by decide, by decide⟩ dX10_sweep_38 (fun v w H locs hp hG => ?_)
              obtain ⟨rfl, hw9⟩ := hp
              rw [hw9] at hG
              refine W.eq (g2 := F0 m 41 ls [.int (bI (isOldR kp Wn (swA (blw k (swC old2 kp Wn adr plc)) adr) k))]) rfl ?_
              refine lv_eqi (y := bI (isOldR kp Wn adr k)) (by rw [isOldR_at swA_at]) ?_
              refine lv_if_eq (tgt := 52) S.1 S.2.1 dX10_sweep_41 (by decide) (fun c5 => ?_) (fun c5 => ?_)
              · have c5 := bI_f c5
                have hc : (swC old2 kp Wn adr plc) k = false := swC_y c4 c5
                rw [swA_k (Or.inl hc), swR_k (Or.inl hc), swO_k hLay (Or.inl hc)] at hR
                refine lv_iinc (v := nI (k + 1)) (lv' := [(3, .int (nI (k + 1))), (2, .int (nI (cnt (swC old2 kp Wn adr plc) k))), (0, .ref (q 0)), (1, .int (bI (old2)))]) S.1 S.2.1 dX10_sweep_52 hl (k := 0) rfl (nI_1 _) (by decide) rfl (fun ls hl => ?_)
                refine lv_goto (tgt := 4) S.1 S.2.1 dX10_sweep_55 (by decide) ?_
                rw [← cnt_s0 hc] at hl
                exact ihL (k + 1) (by omega) (by omega) _ _ _ hR hG ls (lv_sub hl [0, 1, 2, 3] rfl)
              · have c5 := bI_t c5
                have hc : (swC old2 kp Wn adr plc) k = true := swC_t ha hp (Or.inr c5)
                refine lv_aload_n S.1 S.2.1 dX10_sweep_44 rfl (lv_at hl 2 rfl) ?_
                refine lv_iload_n S.1 S.2.1 dX10_sweep_45 rfl (lv_at hl 0 rfl) ?_
                refine mCV (As := [.int (nI (k))]) (rest := []) S (r_go hR k a (by omega) (by rw [swA_at]; exact ha) (by omega)) cal_X10_go in_432 in_433 in_434 in_5 hK hN hG hR.obj rfl rfl rfl hl.1 (Nat.le_of_ble_eq_true rfl) ⟨by decide, by decide⟩ ⟨rfl, rfl⟩ ⟨by decide, by decide⟩ dX10_sweep_46 (fun v w H locs hp hG => ?_)
                obtain ⟨rfl, hR⟩ := hp
                refine W.eq (g2 := F0 m 49 ls []) rfl ?_
                rw [swA_s hc, swR_s hc, swO_s hLay (by omega) ha hc] at hR
                refine lv_iinc (v := nI (cnt (swC old2 kp Wn adr plc) k + 1)) (lv' := [(2, .int (nI (cnt (swC old2 kp Wn adr plc) k + 1))), (3, .int (nI (k))), (0, .ref (q 0)), (1, .int (bI (old2)))]) S.1 S.2.1 dX10_sweep_49 hl (k := 1) rfl (nI_1 _) (by decide) rfl (fun ls hl => ?_)
                refine lv_iinc (v := nI (k + 1)) (lv' := [(3, .int (nI (k + 1))), (2, .int (nI (cnt (swC old2 kp Wn adr plc) k + 1))), (0, .ref (q 0)), (1, .int (bI (old2)))]) S.1 S.2.1 dX10_sweep_52 hl (k := 1) rfl (nI_1 _) (by decide) rfl (fun ls hl => ?_)
                refine lv_goto (tgt := 4) S.1 S.2.1 dX10_sweep_55 (by decide) ?_
                rw [← cnt_s1 hc] at hl
                exact ihL (k + 1) (by omega) (by omega) _ _ _ hR hG ls (lv_sub hl [0, 1, 2, 3] rfl)
  exact L (made + 1) 0 (by omega) (by omega) _ _ _ (by rw [blw_0, swA_f, swR_f, swO_f]; exact hR) hG ls (lv_sub hl [0, 1, 2, 3] rfl)
