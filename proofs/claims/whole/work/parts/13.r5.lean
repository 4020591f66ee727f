/-- what a root and a field name: a code, or an object and a field of it -/
def tgt (fl : Nat → Nat) (root : Nat → Option Nat) (x f : Int32) : Int32 ⊕ (Nat × Nat) :=
  if inR 16 x = true ∧ inR 6 f = true then (match root x.toNatClampNeg with
    | none => .inl (-3)
    | some o => if f.toNatClampNeg < fl o then .inr (o, f.toNatClampNeg) else .inl (-2)) else .inl (-2)
def tgC (t : Int32 ⊕ (Nat × Nat)) : Int32 := match t with | .inl c => c | .inr _ => 0
theorem tgt_b1 {fl : Nat → Nat} {root : Nat → Option Nat} {x f : Int32} (h : inR 16 x = false) : tgt fl root x f = .inl (-2) := by
  unfold tgt; rw [if_neg (by rw [h]; simp)]
theorem tgt_b2 {fl : Nat → Nat} {root : Nat → Option Nat} {x f : Int32} (h : inR 6 f = false) : tgt fl root x f = .inl (-2) := by
  unfold tgt; rw [if_neg (by rw [h]; simp)]
theorem tgt_in {fl : Nat → Nat} {root : Nat → Option Nat} {j i : Nat} (hj : j < 16) (hi : i < 6) : tgt fl root (nI j) (nI i) = (match root j with | none => .inl (-3) | some o => if i < fl o then .inr (o, i) else .inl (-2)) := by
  unfold tgt
  rw [if_pos ⟨inR_nI hj (by decide), inR_nI hi (by decide)⟩, nI_clamp (by omega), nI_clamp (by omega)]
theorem tgt_n {fl : Nat → Nat} {root : Nat → Option Nat} {j i : Nat} (hj : j < 16) (hi : i < 6) (h : root j = none) : tgt fl root (nI j) (nI i) = .inl (-3) := by rw [tgt_in hj hi, h]
theorem tgt_b3 {fl : Nat → Nat} {root : Nat → Option Nat} {j i o : Nat} (hj : j < 16) (hi : i < 6) (h : root j = some o) (h2 : ¬ i < fl o) : tgt fl root (nI j) (nI i) = .inl (-2) := by rw [tgt_in hj hi, h]; simp only [if_neg h2]
theorem tgt_o {fl : Nat → Nat} {root : Nat → Option Nat} {j i o : Nat} (hj : j < 16) (hi : i < 6) (h : root j = some o) (h2 : i < fl o) : tgt fl root (nI j) (nI i) = .inr (o, i) := by rw [tgt_in hj hi, h]; simp only [if_pos h2]
theorem tgt_inl {fl : Nat → Nat} {root : Nat → Option Nat} {x f c : Int32} (h : tgt fl root x f = .inl c) : c = -2 ∨ c = -3 := by
  unfold tgt at h
  split at h
  · split at h
    · cases h; exact Or.inr rfl
    · split at h
      · cases h
      · cases h; exact Or.inl rfl
  · cases h; exact Or.inl rfl
theorem tgt_inr {fl : Nat → Nat} {root : Nat → Option Nat} {x f : Int32} {o i : Nat} (h : tgt fl root x f = .inr (o, i)) : ∃ j, j < 16 ∧ x = nI j ∧ f = nI i ∧ i < 6 ∧ root j = some o ∧ i < fl o := by
  unfold tgt at h
  split at h
  · rename_i hc
    obtain ⟨j, hj, rfl⟩ := inR_ex (by decide) hc.1
    obtain ⟨i2, hi, rfl⟩ := inR_ex (by decide) hc.2
    rw [nI_clamp (by omega), nI_clamp (by omega)] at h
    split at h
    · cases h
    · rename_i o2 ho
      split at h
      · rename_i hf
        cases h
        exact ⟨j, hj, rfl, rfl, hi, ho, hf⟩
      · cases h
  · cases h
theorem tgC_ne {c : Int32} (h : c = -2 ∨ c = -3) : ¬ c = 0 := by
  rcases h with rfl | rfl <;> decide
theorem cal_X10_wrong : mCal yX10_wrong cX10_wrong 3 2 (some .int) := ⟨in_486, by decide +kernel⟩
set_option maxHeartbeats 4000000 in
set_option maxRecDepth 100000 in
theorem r_wrong {l : Launch} {dC : Nat → ClassId} {dI : Nat → Nat → Nat} {cI cZ cT : ClassId} {q : Nat → Nat} {thr : Int32} {kp : Nat} {Wn : Nat} {made : Nat} {adr : (Nat → Option Nat)} {fl : (Nat → Nat)} {rem : (Nat → Bool)} {num : (Nat → Nat → Int32)} {rfs : (Nat → Nat → Option Nat)} {root : (Nat → Option Nat)} {own : (Nat → Option Nat)} {half : Nat} {top : Nat} {coll : Nat} {mins : Nat} {movd : Nat} {size : Nat} {row : (Nat → Nat)} {plc : (Nat → Option Nat)} {old : (Nat → Option Nat)} {w : mM} (hR : RW cI cZ q thr kp Wn made adr fl rem num rfs root own half top coll mins movd size row plc old w) (hrb : ∀ j, j < 16 → ∀ o, root j = some o → o < made) (hm : made ≤ 2000) (hfl : ∀ o, o < made → fl o ≤ 6) (x f : Int32) : mC l yX10_wrong (wsY yX10_wrong cX10_wrong 3 (some .int)) { frames := 2, cells := 0, slots := 0, locals := 42 } (dC, dI) vwCl (tyL cI cZ cT) 0 0 w [.ref (q 0), .int (x), .int (f)] (fun v w2 => v = some (.int (tgC (tgt fl root x f))) ∧ w2 = w) := by
  refine mC.on (by decide) (Nat.le_of_ble_eq_true rfl) ?_
  intro p e s m args below meth c ls S hr hlk hnm hK hN hG hl
  have hl : lv_has ls 3 [(0, .ref (q 0)), (1, .int (x)), (2, .int (f))] := hl
  generalize hAe : mA w s.heap.size = A at hG ⊢
  refine lv_iload_n S.1 S.2.1 dX10_wrong_0 rfl (lv_at hl 1 rfl) ?_
  refine mCS (As := [.int (x)]) (rest := []) S (r_isRoot x) cal_X10_isRoot rfl in_382 in_383 in_5 hK hN hG rfl rfl hl.1 (Nat.le_of_ble_eq_true rfl) ⟨by decide, by decide⟩ ⟨rfl, rfl⟩ ⟨by decide, by decide⟩ dX10_wrong_1 (fun v w H locs hp hG => ?_)
  obtain ⟨rfl, hw9⟩ := hp
  rw [hw9] at hG
  refine W.eq (g2 := F0 m 4 ls [.int (bI (inR 16 x))]) rfl ?_
  refine lv_if_eq (tgt := 41) S.1 S.2.1 dX10_wrong_4 (by decide) (fun c1 => ?_) (fun c1 => ?_)
  · rw [tgt_b1 (bI_f c1)]
    refine lv_bipush (v := -2) S.1 S.2.1 dX10_wrong_41 (by decide) ?_
    exact mw_iret S hr hlk hK hG dX10_wrong_43 ⟨rfl, rfl⟩
  · obtain ⟨j, hj, rfl⟩ := inR_ex (by decide) (bI_t c1)
    refine lv_iload_n S.1 S.2.1 dX10_wrong_7 rfl (lv_at hl 2 rfl) ?_
    refine lv_iconst (v := nI (0)) S.1 S.2.1 dX10_wrong_8 (by decide) ?_
    refine lv_iconst (v := nI (5)) S.1 S.2.1 dX10_wrong_9 (by decide) ?_
    refine mCS (As := [.int (f), .int (nI (0)), .int (nI (5))]) (rest := []) S (r_in f 5 (by decide)) cal_X10_in rfl in_385 in_386 in_5 hK hN hG rfl rfl hl.1 (Nat.le_of_ble_eq_true rfl) ⟨by decide, by decide⟩ ⟨rfl, rfl⟩ ⟨by decide, by decide⟩ dX10_wrong_10 (fun v w H locs hp hG => ?_)
    obtain ⟨rfl, hw9⟩ := hp
    rw [hw9] at hG
    refine W.eq (g2 := F0 m 13 ls [.int (bI (inR 6 f))]) rfl ?_
    refine lv_if_eq (tgt := 41) S.1 S.2.1 dX10_wrong_13 (by decide) (fun c2 => ?_) (fun c2 => ?_)
    · rw [tgt_b2 (bI_f c2)]
      refine lv_bipush (v := -2) S.1 S.2.1 dX10_wrong_41 (by decide) ?_
      exact mw_iret S hr hlk hK hG dX10_wrong_43 ⟨rfl, rfl⟩
    · obtain ⟨i, hi, rfl⟩ := inR_ex (by decide) (bI_t c2)
      have hob : ∀ o, root j = some o → o < 2147483648 := fun o ho => by have := hrb j hj o ho; omega
      refine lv_aload_n S.1 S.2.1 dX10_wrong_16 rfl (lv_at hl 0 rfl) ?_
      refine rg_root S hK hG hR dX10_wrong_17 ?_
      refine lv_iload_n S.1 S.2.1 dX10_wrong_20 rfl (lv_at hl 1 rfl) ?_
      refine rl_root S hK hG hR (j) (by omega) dX10_wrong_21 ?_
      refine lv_iconst (v := -1) S.1 S.2.1 dX10_wrong_22 (by decide) ?_
      refine lv_icmp_eq (tgt := 44) S.1 S.2.1 dX10_wrong_23 (by decide) (fun c3 => ?_) (fun c3 => ?_)
      · have hn := (oI_m1 hob).mp c3
        rw [tgt_n hj hi hn]
        refine lv_aload_n S.1 S.2.1 dX10_wrong_44 rfl (lv_at hl 0 rfl) ?_
        refine rg_root S hK hG hR dX10_wrong_45 ?_
        refine lv_iload_n S.1 S.2.1 dX10_wrong_48 rfl (lv_at hl 1 rfl) ?_
        refine rl_root S hK hG hR (j) (by omega) dX10_wrong_49 ?_
        refine lv_iconst (v := -1) S.1 S.2.1 dX10_wrong_50 (by decide) ?_
        refine lv_icmp_ne (tgt := 59) S.1 S.2.1 dX10_wrong_51 (by decide) (fun c4 => ?_) (fun c4 => ?_)
        · exact absurd c3 c4
        · refine lv_bipush (v := -3) S.1 S.2.1 dX10_wrong_54 (by decide) ?_
          refine lv_goto (tgt := 60) S.1 S.2.1 dX10_wrong_56 (by decide) ?_
          exact mw_iret S hr hlk hK hG dX10_wrong_60 ⟨rfl, rfl⟩
      · obtain ⟨o, ho⟩ : ∃ o, root j = some o := by
          cases h : root j with
          | none => exact absurd ((oI_m1 hob).mpr h) c3
          | some o => exact ⟨o, rfl⟩
        have hom := hrb j hj o ho
        have hof := hfl o hom
        refine lv_iload_n S.1 S.2.1 dX10_wrong_26 rfl (lv_at hl 2 rfl) ?_
        refine lv_aload_n S.1 S.2.1 dX10_wrong_27 rfl (lv_at hl 0 rfl) ?_
        refine rg_fl S hK hG hR dX10_wrong_28 ?_
        refine lv_aload_n S.1 S.2.1 dX10_wrong_31 rfl (lv_at hl 0 rfl) ?_
        refine rg_root S hK hG hR dX10_wrong_32 ?_
        refine lv_iload_n S.1 S.2.1 dX10_wrong_35 rfl (lv_at hl 1 rfl) ?_
        refine rl_root S hK hG hR (j) (by omega) dX10_wrong_36 ?_
        refine lv_eqi (y := nI (o)) (by rw [ho]; rfl) ?_
        refine rl_fl S hK hG hR (o) (by omega) dX10_wrong_37 ?_
        refine lv_icmp_lt (tgt := 44) S.1 S.2.1 dX10_wrong_38 (by decide) (fun c4 => ?_) (fun c4 => ?_)
        · have c4 : i < (fl o) := (nI_ltI (a := i) (b := fl o) (by omega) (by omega)).mp c4
          rw [tgt_o hj hi ho c4]
          refine lv_aload_n S.1 S.2.1 dX10_wrong_44 rfl (lv_at hl 0 rfl) ?_
          refine rg_root S hK hG hR dX10_wrong_45 ?_
          refine lv_iload_n S.1 S.2.1 dX10_wrong_48 rfl (lv_at hl 1 rfl) ?_
          refine rl_root S hK hG hR (j) (by omega) dX10_wrong_49 ?_
          refine lv_iconst (v := -1) S.1 S.2.1 dX10_wrong_50 (by decide) ?_
          refine lv_icmp_ne (tgt := 59) S.1 S.2.1 dX10_wrong_51 (by decide) (fun c5 => ?_) (fun c5 => ?_)
          · refine lv_iconst (v := nI (0)) S.1 S.2.1 dX10_wrong_59 (by decide) ?_
            exact mw_iret S hr hlk hK hG dX10_wrong_60 ⟨rfl, rfl⟩
          · exact absurd c5 c3
        · have c4 : ¬ (i < (fl o)) := fun h9 => c4 ((nI_ltI (a := i) (b := fl o) (by omega) (by omega)).mpr h9)
          rw [tgt_b3 hj hi ho c4]
          refine lv_bipush (v := -2) S.1 S.2.1 dX10_wrong_41 (by decide) ?_
          exact mw_iret S hr hlk hK hG dX10_wrong_43 ⟨rfl, rfl⟩
theorem cal_X10_set : mCal yX10_set cX10_set 5 3 (some .int) := ⟨in_482, by decide +kernel⟩
set_option maxHeartbeats 4000000 in
set_option maxRecDepth 100000 in
theorem r_set {l : Launch} {dC : Nat → ClassId} {dI : Nat → Nat → Nat} {cI cZ cT : ClassId} {q : Nat → Nat} {thr : Int32} {kp : Nat} {Wn : Nat} {made : Nat} {adr : (Nat → Option Nat)} {fl : (Nat → Nat)} {rem : (Nat → Bool)} {num : (Nat → Nat → Int32)} {rfs : (Nat → Nat → Option Nat)} {root : (Nat → Option Nat)} {own : (Nat → Option Nat)} {half : Nat} {top : Nat} {coll : Nat} {mins : Nat} {movd : Nat} {size : Nat} {row : (Nat → Nat)} {plc : (Nat → Option Nat)} {old : (Nat → Option Nat)} {w : mM} (hR : RW cI cZ q thr kp Wn made adr fl rem num rfs root own half top coll mins movd size row plc old w) (hrb : ∀ j, j < 16 → ∀ o, root j = some o → o < made) (hm : made ≤ 2000) (hfl : ∀ o, o < made → fl o ≤ 6) (x f y : Int32) : mC l yX10_set (wsY yX10_set cX10_set 5 (some .int)) { frames := 3, cells := 0, slots := 0, locals := 64 } (dC, dI) vwCl (tyL cI cZ cT) 0 0 w [.ref (q 0), .int (x), .int (f), .int (y)] (fun v w2 => v = some (.int (tgC (tgt fl root x f))) ∧ match tgt fl root x f with | .inl _ => RW cI cZ q 0 kp Wn made adr fl rem num rfs root own half top coll mins movd size row plc old w2 | .inr (o, i) => RW cI cZ q 0 kp Wn made adr fl rem (up2 num o i y) (up2 rfs o i none) root own half top coll mins movd size row plc old w2) := by
  refine mC.on (by decide) (Nat.le_of_ble_eq_true rfl) ?_
  intro p e s m args below meth c ls S hr hlk hnm hK hN hG hl
  have hl : lv_has ls 5 [(0, .ref (q 0)), (1, .int (x)), (2, .int (f)), (3, .int (y))] := hl
  generalize hAe : mA w s.heap.size = A at hG ⊢
  refine lv_aload_n S.1 S.2.1 dX10_set_0 rfl (lv_at hl 0 rfl) ?_
  refine lv_iconst (v := 0) S.1 S.2.1 dX10_set_1 (by decide) ?_
  refine rp_thr S hK hG hR (0) dX10_set_2 (fun w H locs hR hG => ?_)
  refine lv_aload_n S.1 S.2.1 dX10_set_5 rfl (lv_at hl 0 rfl) ?_
  refine lv_iload_n S.1 S.2.1 dX10_set_6 rfl (lv_at hl 1 rfl) ?_
  refine lv_iload_n S.1 S.2.1 dX10_set_7 rfl (lv_at hl 2 rfl) ?_
  refine mCV (As := [.int (x), .int (f)]) (rest := []) S (r_wrong hR hrb hm hfl x f) cal_X10_wrong in_483 in_484 in_485 in_5 hK hN hG hR.obj rfl rfl rfl hl.1 (Nat.le_of_ble_eq_true rfl) ⟨by decide, by decide⟩ ⟨rfl, rfl⟩ ⟨by decide, by decide⟩ dX10_set_8 (fun v w H locs hp hG => ?_)
  obtain ⟨rfl, hw9⟩ := hp
  rw [hw9] at hG
  refine W.eq (g2 := F0 m 11 ls [.int (tgC (tgt fl root x f))]) rfl ?_
  cases ht : tgt fl root x f with
  | inl cd =>
    have hcd := tgC_ne (tgt_inl ht)
    refine W.eq (g2 := F0 m 11 ls [.int cd]) rfl ?_
    refine lv_istore (lv' := [(4, .int (cd)), (0, .ref (q 0)), (1, .int (x)), (2, .int (f)), (3, .int (y))]) S.1 S.2.1 dX10_set_11 hl (by decide) rfl (fun ls hl => ?_)
    refine lv_iload S.1 S.2.1 dX10_set_13 (lv_at hl 0 rfl) ?_
    refine lv_if_ne (tgt := 52) S.1 S.2.1 dX10_set_15 (by decide) (fun c1 => ?_) (fun c1 => ?_)
    · refine lv_iload S.1 S.2.1 dX10_set_52 (lv_at hl 0 rfl) ?_
      exact mw_iret S hr hlk hK hG dX10_set_54 ⟨rfl, hR⟩
    · exact absurd c1 hcd
  | inr oi =>
    obtain ⟨o, i⟩ := oi
    obtain ⟨j, hj, rfl, rfl, hi, hjo, hif⟩ := tgt_inr ht
    have hom := hrb j hj o hjo
    refine W.eq (g2 := F0 m 11 ls [.int 0]) rfl ?_
    refine lv_istore (lv' := [(4, .int (0)), (0, .ref (q 0)), (1, .int (nI (j))), (2, .int (nI (i))), (3, .int (y))]) S.1 S.2.1 dX10_set_11 hl (by decide) rfl (fun ls hl => ?_)
    refine lv_iload S.1 S.2.1 dX10_set_13 (lv_at hl 0 rfl) ?_
    refine lv_if_ne (tgt := 52) S.1 S.2.1 dX10_set_15 (by decide) (fun c1 => ?_) (fun c1 => ?_)
    · exact absurd rfl c1
    · refine lv_aload_n S.1 S.2.1 dX10_set_18 rfl (lv_at hl 1 rfl) ?_
      refine rg_num S hK hG hR dX10_set_19 ?_
      refine lv_bipush (v := nI (6)) S.1 S.2.1 dX10_set_22 (by decide) ?_
      refine lv_aload_n S.1 S.2.1 dX10_set_24 rfl (lv_at hl 1 rfl) ?_
      refine rg_root S hK hG hR dX10_set_25 ?_
      refine lv_iload_n S.1 S.2.1 dX10_set_28 rfl (lv_at hl 2 rfl) ?_
      refine rl_root S hK hG hR (j) (by omega) dX10_set_29 ?_
      refine lv_eqi (y := nI (o)) (by rw [hjo]; rfl) ?_
      refine lv_imul S.1 S.2.1 dX10_set_30 ?_
      refine lv_eqi (pk_mul _ _) ?_
      refine lv_iload_n S.1 S.2.1 dX10_set_31 rfl (lv_at hl 3 rfl) ?_
      refine lv_iadd S.1 S.2.1 dX10_set_32 ?_
      refine lv_eqi (nI_add _ _) ?_
      refine lv_iload_n S.1 S.2.1 dX10_set_33 rfl (lv_at hl 4 rfl) ?_
      refine rs_num S hK hG hR (o) (i) (y) (by omega) (by omega) dX10_set_34 (fun w H locs hR hG => ?_)
      refine lv_aload_n S.1 S.2.1 dX10_set_35 rfl (lv_at hl 1 rfl) ?_
      refine rg_rfs S hK hG hR dX10_set_36 ?_
      refine lv_bipush (v := nI (6)) S.1 S.2.1 dX10_set_39 (by decide) ?_
      refine lv_aload_n S.1 S.2.1 dX10_set_41 rfl (lv_at hl 1 rfl) ?_
      refine rg_root S hK hG hR dX10_set_42 ?_
      refine lv_iload_n S.1 S.2.1 dX10_set_45 rfl (lv_at hl 2 rfl) ?_
      refine rl_root S hK hG hR (j) (by omega) dX10_set_46 ?_
      refine lv_eqi (y := nI (o)) (by rw [hjo]; rfl) ?_
      refine lv_imul S.1 S.2.1 dX10_set_47 ?_
      refine lv_eqi (pk_mul _ _) ?_
      refine lv_iload_n S.1 S.2.1 dX10_set_48 rfl (lv_at hl 3 rfl) ?_
      refine lv_iadd S.1 S.2.1 dX10_set_49 ?_
      refine lv_eqi (nI_add _ _) ?_
      refine lv_iconst (v := -1) S.1 S.2.1 dX10_set_50 (by decide) ?_
      refine rs_rfs S hK hG hR (o) (i) (none) (by omega) (by omega) dX10_set_51 (fun w H locs hR hG => ?_)
      refine lv_iload S.1 S.2.1 dX10_set_52 (lv_at hl 0 rfl) ?_
      exact mw_iret S hr hlk hK hG dX10_set_54 ⟨rfl, hR⟩
theorem cal_X10_refers : mCal yX10_refers cX10_refers 4 2 (some .int) := ⟨in_517, by decide +kernel⟩
set_option maxHeartbeats 4000000 in
set_option maxRecDepth 100000 in
theorem r_refers {l : Launch} {dC : Nat → ClassId} {dI : Nat → Nat → Nat} {cI cZ cT : ClassId} {q : Nat → Nat} {thr : Int32} {kp : Nat} {Wn : Nat} {made : Nat} {adr : (Nat → Option Nat)} {fl : (Nat → Nat)} {rem : (Nat → Bool)} {num : (Nat → Nat → Int32)} {rfs : (Nat → Nat → Option Nat)} {root : (Nat → Option Nat)} {own : (Nat → Option Nat)} {half : Nat} {top : Nat} {coll : Nat} {mins : Nat} {movd : Nat} {size : Nat} {row : (Nat → Nat)} {plc : (Nat → Option Nat)} {old : (Nat → Option Nat)} {w : mM} (hR : RW cI cZ q thr kp Wn made adr fl rem num rfs root own half top coll mins movd size row plc old w) (hrb : ∀ j, j < 16 → ∀ o, root j = some o → o < made) (hm : made ≤ 2000) (hfl : ∀ o, o < made → fl o ≤ 6) (hfb : ∀ o, o < made → ∀ i, i < fl o → ∀ t, rfs o i = some t → t < made) (x f : Int32) : mC l yX10_refers (wsY yX10_refers cX10_refers 4 (some .int)) { frames := 3, cells := 0, slots := 0, locals := 64 } (dC, dI) vwCl (tyL cI cZ cT) 0 0 w [.ref (q 0), .int (x), .int (f)] (fun v w2 => v = some (.int (match tgt fl root x f with | .inl c => c | .inr (o, i) => bI (rfs o i).isSome)) ∧ RW cI cZ q 0 kp Wn made adr fl rem num rfs root own half top coll mins movd size row plc old w2) := by
  refine mC.on (by decide) (Nat.le_of_ble_eq_true rfl) ?_
  intro p e s m args below meth c ls S hr hlk hnm hK hN hG hl
  have hl : lv_has ls 4 [(0, .ref (q 0)), (1, .int (x)), (2, .int (f))] := hl
  generalize hAe : mA w s.heap.size = A at hG ⊢
  refine lv_aload_n S.1 S.2.1 dX10_refers_0 rfl (lv_at hl 0 rfl) ?_
  refine lv_iconst (v := 0) S.1 S.2.1 dX10_refers_1 (by decide) ?_
  refine rp_thr S hK hG hR (0) dX10_refers_2 (fun w H locs hR hG => ?_)
  refine lv_aload_n S.1 S.2.1 dX10_refers_5 rfl (lv_at hl 0 rfl) ?_
  refine lv_iload_n S.1 S.2.1 dX10_refers_6 rfl (lv_at hl 1 rfl) ?_
  refine lv_iload_n S.1 S.2.1 dX10_refers_7 rfl (lv_at hl 2 rfl) ?_
  refine mCV (As := [.int (x), .int (f)]) (rest := []) S (r_wrong hR hrb hm hfl x f) cal_X10_wrong in_483 in_484 in_485 in_5 hK hN hG hR.obj rfl rfl rfl hl.1 (Nat.le_of_ble_eq_true rfl) ⟨by decide, by decide⟩ ⟨rfl, rfl⟩ ⟨by decide, by decide⟩ dX10_refers_8 (fun v w H locs hp hG => ?_)
  obtain ⟨rfl, hw9⟩ := hp
  rw [hw9] at hG
  refine W.eq (g2 := F0 m 11 ls [.int (tgC (tgt fl root x f))]) rfl ?_
  cases ht : tgt fl root x f with
  | inl cd =>
    have hcd := tgC_ne (tgt_inl ht)
    refine W.eq (g2 := F0 m 11 ls [.int cd]) rfl ?_
    refine lv_istore_n (lv' := [(3, .int (cd)), (0, .ref (q 0)), (1, .int (x)), (2, .int (f))]) S.1 S.2.1 dX10_refers_11 rfl hl (by decide) rfl (fun ls hl => ?_)
    refine lv_iload_n S.1 S.2.1 dX10_refers_12 rfl (lv_at hl 0 rfl) ?_
    refine lv_if_eq (tgt := 20) S.1 S.2.1 dX10_refers_13 (by decide) (fun c1 => ?_) (fun c1 => ?_)
    · exact absurd c1 hcd
    · refine lv_iload_n S.1 S.2.1 dX10_refers_16 rfl (lv_at hl 0 rfl) ?_
      refine lv_goto (tgt := 45) S.1 S.2.1 dX10_refers_17 (by decide) ?_
      exact mw_iret S hr hlk hK hG dX10_refers_45 ⟨rfl, hR⟩
  | inr oi =>
    obtain ⟨o, i⟩ := oi
    obtain ⟨j, hj, rfl, rfl, hi, hjo, hif⟩ := tgt_inr ht
    have hom := hrb j hj o hjo
    refine W.eq (g2 := F0 m 11 ls [.int 0]) rfl ?_
    refine lv_istore_n (lv' := [(3, .int (0)), (0, .ref (q 0)), (1, .int (nI (j))), (2, .int (nI (i)))]) S.1 S.2.1 dX10_refers_11 rfl hl (by decide) rfl (fun ls hl => ?_)
    refine lv_iload_n S.1 S.2.1 dX10_refers_12 rfl (lv_at hl 0 rfl) ?_
    refine lv_if_eq (tgt := 20) S.1 S.2.1 dX10_refers_13 (by decide) (fun c1 => ?_) (fun c1 => ?_)
    · refine lv_aload_n S.1 S.2.1 dX10_refers_20 rfl (lv_at hl 1 rfl) ?_
      refine rg_rfs S hK hG hR dX10_refers_21 ?_
      refine lv_bipush (v := nI (6)) S.1 S.2.1 dX10_refers_24 (by decide) ?_
      refine lv_aload_n S.1 S.2.1 dX10_refers_26 rfl (lv_at hl 1 rfl) ?_
      refine rg_root S hK hG hR dX10_refers_27 ?_
      refine lv_iload_n S.1 S.2.1 dX10_refers_30 rfl (lv_at hl 2 rfl) ?_
      refine rl_root S hK hG hR (j) (by omega) dX10_refers_31 ?_
      refine lv_eqi (y := nI (o)) (by rw [hjo]; rfl) ?_
      refine lv_imul S.1 S.2.1 dX10_refers_32 ?_
      refine lv_eqi (pk_mul _ _) ?_
      refine lv_iload_n S.1 S.2.1 dX10_refers_33 rfl (lv_at hl 3 rfl) ?_
      refine lv_iadd S.1 S.2.1 dX10_refers_34 ?_
      refine lv_eqi (nI_add _ _) ?_
      refine rl_rfs S hK hG hR (o) (i) (by omega) (by omega) dX10_refers_35 ?_
      refine lv_iconst (v := -1) S.1 S.2.1 dX10_refers_36 (by decide) ?_
      have htb : ∀ t, rfs o i = some t → t < 2147483648 := fun t ht9 => by have := hfb o hom i hif t ht9; omega
      refine lv_icmp_eq (tgt := 44) S.1 S.2.1 dX10_refers_37 (by decide) (fun c2 => ?_) (fun c2 => ?_)
      · refine lv_iconst (v := nI (0)) S.1 S.2.1 dX10_refers_44 (by decide) ?_
        exact mw_iret S hr hlk hK hG dX10_refers_45 ⟨by simp only [(oI_m1 htb).mp c2]; rfl, hR⟩
      · refine lv_iconst (v := nI (1)) S.1 S.2.1 dX10_refers_40 (by decide) ?_
        refine lv_goto (tgt := 45) S.1 S.2.1 dX10_refers_41 (by decide) ?_
        cases hz : rfs o i with
        | none => exact absurd ((oI_m1 htb).mpr hz) c2
        | some t => exact mw_iret S hr hlk hK hG dX10_refers_45 ⟨by simp only [hz]; rfl, hR⟩
    · exact absurd rfl c1
theorem cal_X10_number : mCal yX10_number cX10_number 3 2 (some .int) := ⟨in_529, by decide +kernel⟩
set_option maxHeartbeats 4000000 in
set_option maxRecDepth 100000 in
theorem r_number {l : Launch} {dC : Nat → ClassId} {dI : Nat → Nat → Nat} {cI cZ cT : ClassId} {q : Nat → Nat} {thr : Int32} {kp : Nat} {Wn : Nat} {made : Nat} {adr : (Nat → Option Nat)} {fl : (Nat → Nat)} {rem : (Nat → Bool)} {num : (Nat → Nat → Int32)} {rfs : (Nat → Nat → Option Nat)} {root : (Nat → Option Nat)} {own : (Nat → Option Nat)} {half : Nat} {top : Nat} {coll : Nat} {mins : Nat} {movd : Nat} {size : Nat} {row : (Nat → Nat)} {plc : (Nat → Option Nat)} {old : (Nat → Option Nat)} {w : mM} (hR : RW cI cZ q thr kp Wn made adr fl rem num rfs root own half top coll mins movd size row plc old w) (hrb : ∀ j, j < 16 → ∀ o, root j = some o → o < made) (hm : made ≤ 2000) (hfl : ∀ o, o < made → fl o ≤ 6) (x f : Int32) : mC l yX10_number (wsY yX10_number cX10_number 3 (some .int)) { frames := 3, cells := 0, slots := 0, locals := 64 } (dC, dI) vwCl (tyL cI cZ cT) 0 0 w [.ref (q 0), .int (x), .int (f)] (fun v w2 => v = some (.int (match tgt fl root x f with | .inl _ => 0 | .inr (o, i) => num o i)) ∧ RW cI cZ q 0 kp Wn made adr fl rem num rfs root own half top coll mins movd size row plc old w2) := by
  refine mC.on (by decide) (Nat.le_of_ble_eq_true rfl) ?_
  intro p e s m args below meth c ls S hr hlk hnm hK hN hG hl
  have hl : lv_has ls 3 [(0, .ref (q 0)), (1, .int (x)), (2, .int (f))] := hl
  generalize hAe : mA w s.heap.size = A at hG ⊢
  refine lv_aload_n S.1 S.2.1 dX10_number_0 rfl (lv_at hl 0 rfl) ?_
  refine lv_iconst (v := 0) S.1 S.2.1 dX10_number_1 (by decide) ?_
  refine rp_thr S hK hG hR (0) dX10_number_2 (fun w H locs hR hG => ?_)
  refine lv_aload_n S.1 S.2.1 dX10_number_5 rfl (lv_at hl 0 rfl) ?_
  refine lv_iload_n S.1 S.2.1 dX10_number_6 rfl (lv_at hl 1 rfl) ?_
  refine lv_iload_n S.1 S.2.1 dX10_number_7 rfl (lv_at hl 2 rfl) ?_
  refine mCV (As := [.int (x), .int (f)]) (rest := []) S (r_wrong hR hrb hm hfl x f) cal_X10_wrong in_483 in_484 in_485 in_5 hK hN hG hR.obj rfl rfl rfl hl.1 (Nat.le_of_ble_eq_true rfl) ⟨by decide, by decide⟩ ⟨rfl, rfl⟩ ⟨by decide, by decide⟩ dX10_number_8 (fun v w H locs hp hG => ?_)
  obtain ⟨rfl, hw9⟩ := hp
  rw [hw9] at hG
  refine W.eq (g2 := F0 m 11 ls [.int (tgC (tgt fl root x f))]) rfl ?_
  cases ht : tgt fl root x f with
  | inl cd =>
    have hcd := tgC_ne (tgt_inl ht)
    refine W.eq (g2 := F0 m 11 ls [.int cd]) rfl ?_
    refine lv_if_eq (tgt := 18) S.1 S.2.1 dX10_number_11 (by decide) (fun c1 => ?_) (fun c1 => ?_)
    · exact absurd c1 hcd
    · refine lv_iconst (v := nI (0)) S.1 S.2.1 dX10_number_14 (by decide) ?_
      refine lv_goto (tgt := 34) S.1 S.2.1 dX10_number_15 (by decide) ?_
      exact mw_iret S hr hlk hK hG dX10_number_34 ⟨rfl, hR⟩
  | inr oi =>
    obtain ⟨o, i⟩ := oi
    obtain ⟨j, hj, rfl, rfl, hi, hjo, hif⟩ := tgt_inr ht
    have hom := hrb j hj o hjo
    refine W.eq (g2 := F0 m 11 ls [.int 0]) rfl ?_
    refine lv_if_eq (tgt := 18) S.1 S.2.1 dX10_number_11 (by decide) (fun c1 => ?_) (fun c1 => ?_)
    · refine lv_aload_n S.1 S.2.1 dX10_number_18 rfl (lv_at hl 0 rfl) ?_
      refine rg_num S hK hG hR dX10_number_19 ?_
      refine lv_bipush (v := nI (6)) S.1 S.2.1 dX10_number_22 (by decide) ?_
      refine lv_aload_n S.1 S.2.1 dX10_number_24 rfl (lv_at hl 0 rfl) ?_
      refine rg_root S hK hG hR dX10_number_25 ?_
      refine lv_iload_n S.1 S.2.1 dX10_number_28 rfl (lv_at hl 1 rfl) ?_
      refine rl_root S hK hG hR (j) (by omega) dX10_number_29 ?_
      refine lv_eqi (y := nI (o)) (by rw [hjo]; rfl) ?_
      refine lv_imul S.1 S.2.1 dX10_number_30 ?_
      refine lv_eqi (pk_mul _ _) ?_
      refine lv_iload_n S.1 S.2.1 dX10_number_31 rfl (lv_at hl 2 rfl) ?_
      refine lv_iadd S.1 S.2.1 dX10_number_32 ?_
      refine lv_eqi (nI_add _ _) ?_
      refine rl_num S hK hG hR (o) (i) (by omega) (by omega) dX10_number_33 ?_
      exact mw_iret S hr hlk hK hG dX10_number_34 ⟨rfl, hR⟩
    · exact absurd rfl c1
