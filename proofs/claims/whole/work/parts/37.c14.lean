/-- how many words, which keeper -/
def Bof (x : Int32) : Nat := if x < nI 16 then 16 else if nI 400 < x then 400 else x.toInt.toNat
def Wof (x : Int32) : Nat := Bof x - Bof x % 4
def Kof (x : Int32) : Nat := if x = 1 then 1 else if x = 2 then 2 else 0
theorem Bof_b (x : Int32) : 16 ≤ Bof x ∧ Bof x ≤ 400 := by
  unfold Bof
  by_cases h1 : x < nI 16
  · rw [if_pos h1]; omega
  · rw [if_neg h1]
    by_cases h2 : nI 400 < x
    · rw [if_pos h2]; omega
    · rw [if_neg h2]
      have h3 := Int.not_lt.mp (mt lt_toInt.mpr h1)
      have h4 := Int.not_lt.mp (mt lt_toInt.mpr h2)
      rw [nI_toInt (by decide)] at h3 h4
      omega
theorem Wof_b (x : Int32) : 16 ≤ Wof x ∧ Wof x ≤ 400 ∧ Wof x % 4 = 0 := by
  have := Bof_b x
  unfold Wof
  omega
theorem Bof_nI {x : Int32} (h1 : ¬ x < nI 16) (h2 : ¬ nI 400 < x) : nI (Bof x) = x := by
  unfold Bof
  rw [if_neg h1, if_neg h2]
  have h3 := Int.not_lt.mp (mt lt_toInt.mpr h1)
  have h4 := Int.not_lt.mp (mt lt_toInt.mpr h2)
  rw [nI_toInt (by decide)] at h3 h4
  apply Int32.toInt_inj.mp
  rw [nI_toInt (by omega)]
  omega
theorem Bof_mm (x : Int32) : (if nI 16 < (if x < nI 400 then x else nI 400) then (if x < nI 400 then x else nI 400) else nI 16) = nI (Bof x) := by
  by_cases h1 : x < nI 16
  · have h3 := lt_toInt.mp h1
    rw [nI_toInt (by decide)] at h3
    have h4 : x < nI 400 := lt_toInt.mpr (by rw [nI_toInt (by decide)]; omega)
    rw [if_pos h4, if_neg (fun z => by have := lt_toInt.mp z; rw [nI_toInt (by decide)] at this; omega)]
    unfold Bof
    rw [if_pos h1]
  · by_cases h2 : nI 400 < x
    · have h3 := lt_toInt.mp h2
      rw [nI_toInt (by decide)] at h3
      have hn : ¬ x < nI 400 := fun z => by have := lt_toInt.mp z; rw [nI_toInt (by decide)] at this; omega
      rw [if_neg hn, if_pos (show nI 16 < nI 400 by decide)]
      unfold Bof
      rw [if_neg h1, if_pos h2]
    · have e := Bof_nI h1 h2
      have hb := Bof_b x
      obtain ⟨bb, hbb⟩ : ∃ z, z = Bof x := ⟨_, rfl⟩
      rw [← hbb] at hb e ⊢
      rw [← e]
      by_cases h4 : bb = 400
      · rw [h4]; decide
      · rw [if_pos ((nI_ltI (by omega) (by decide)).mpr (by omega))]
        by_cases h5 : bb = 16
        · rw [h5]; decide
        · rw [if_pos ((nI_ltI (by decide) (by omega)).mpr (by omega))]
theorem cal_X9_wordsFor : mCal yX9_wordsFor cX9_wordsFor 2 1 (some .int) := ⟨in_28, by decide +kernel⟩
set_option maxHeartbeats 4000000 in
set_option maxRecDepth 100000 in
theorem h_wordsFor {l : Launch} {dC : Nat → ClassId} {dI : Nat → Nat → Nat} {cI cZ cT : ClassId} {w0 : mM}  (x : Int32) : mC l yX9_wordsFor (wsY yX9_wordsFor cX9_wordsFor 2 (some .int)) { frames := 1, cells := 0, slots := 0, locals := 21 } (dC, dI) vwCl (tyL cI cZ cT) 0 0 w0 [.int (x)] (fun v w2 => v = some (.int (nI (Wof x))) ∧ w2 = w0) := by
  refine mC.on (by decide) (Nat.le_of_ble_eq_true rfl) ?_
  intro p e s m args below meth c ls S hr hlk hnm hK hN hG hl
  have hl : lv_has ls 2 [(0, .int (x))] := hl
  generalize hAe : mA w0 s.heap.size = A at hG ⊢
  have hbx := Bof_b x
  refine lv_bipush (v := nI (16)) S.1 S.2.1 dX9_wordsFor_0 (by decide) ?_
  refine lv_sipush (v := nI (400)) S.1 S.2.1 dX9_wordsFor_2 (by decide) ?_
  refine lv_iload_n S.1 S.2.1 dX9_wordsFor_5 rfl (lv_at hl 0 rfl) ?_
  refine va_mmin S.1 S.2.1 (S.2.2.1.trans hl.1.symm) S.2.2.2.1 (S.2.2.2.2 _ in_29) (S.2.2.2.2 _ in_30) (S.2.2.2.2 _ in_31) (S.2.2.2.2 _ in_32) (by decide) (Nat.le_of_ble_eq_true rfl) (by decide) (by decide) dX9_wordsFor_6 ?_
  refine lv_eqi (y := if x < nI 400 then x else nI 400) (rfl) ?_
  refine va_mmax S.1 S.2.1 (S.2.2.1.trans hl.1.symm) S.2.2.2.1 (S.2.2.2.2 _ in_33) (S.2.2.2.2 _ in_34) (S.2.2.2.2 _ in_31) (S.2.2.2.2 _ in_35) (by decide) (Nat.le_of_ble_eq_true rfl) (by decide) (by decide) dX9_wordsFor_9 ?_
  refine lv_eqi (y := nI (Bof x)) (Bof_mm x) ?_
  refine lv_istore_n (lv' := [(1, .int (nI (Bof x))), (0, .int (x))]) S.1 S.2.1 dX9_wordsFor_12 rfl hl (by decide) rfl (fun ls hl => ?_)
  refine lv_iload_n S.1 S.2.1 dX9_wordsFor_13 rfl (lv_at hl 0 rfl) ?_
  refine lv_iload_n S.1 S.2.1 dX9_wordsFor_14 rfl (lv_at hl 0 rfl) ?_
  refine lv_iconst (v := nI (4)) S.1 S.2.1 dX9_wordsFor_15 (by decide) ?_
  refine lv_irem S.1 S.2.1 dX9_wordsFor_16 (by decide) ?_
  refine lv_eqi (pk_rem (by omega) (by omega) (by omega)) ?_
  refine lv_isub S.1 S.2.1 dX9_wordsFor_17 ?_
  refine lv_eqi (pk_sub (by omega)) ?_
  exact mw_iret S hr hlk hK hG dX9_wordsFor_18 ⟨rfl, rfl⟩
theorem cal_X9_keeperFor : mCal yX9_keeperFor cX9_keeperFor 3 3 (some (.object "KeptHeap$Keeper")) := ⟨in_51, by decide +kernel⟩
set_option maxHeartbeats 4000000 in
set_option maxRecDepth 100000 in
theorem h_keeperFor0 {l : Launch} {dC : Nat → ClassId} {dI : Nat → Nat → Nat} {cI cZ cT : ClassId} {w0 : mM}  (x : Int32) (hx1 : ¬ x = 1) (hx2 : ¬ x = 2) (rb : Nat) (wb wa n : Nat) (hn : n ≤ 400) (hwb : w0 wb = some (.inr (7, [.ref wa]))) (hwa : w0 wa = some (.inl (cT, n, .inr (.inr (.inr (.inr (fun _ => none))))))) : mC l yX9_keeperFor (wsY yX9_keeperFor cX9_keeperFor 3 (some (.object "KeptHeap$Keeper"))) { frames := 4, cells := 3, slots := 410, locals := 86 } (dC, dI) vwCl (tyL cI cZ cT) 3 410 w0 [.int (x), .ref (wb), .ref (rb)] (fun v w2 => ∃ kb k1 k2 , v = some (.ref kb) ∧ w0 kb = none ∧ w0 k1 = none ∧ w0 k2 = none ∧ k1 ≠ kb ∧ k2 ≠ kb ∧ k2 ≠ k1 ∧ w2 kb = some (.inr (4, [.ref wb, .ref rb, .ref k1, .int (nI 0), .int (nI 0), .int (nI 0)])) ∧ w2 k1 = some (.inr (6, [.ref k2, .int (nI 0), .int (nI 0), .int (nI 0)])) ∧ w2 k2 = some (.inl (cT, n, .inr (.inr (.inr (.inr (fun _ => none)))))) ∧ ∀ x, x ≠ kb → x ≠ k1 → x ≠ k2 → w2 x = w0 x) := by
  refine mC.on (by decide) (Nat.le_of_ble_eq_true rfl) ?_
  intro p e s m args below meth c ls S hr hlk hnm hK hN hG hl
  have hl : lv_has ls 3 [(0, .int (x)), (1, .ref (wb)), (2, .ref (rb))] := hl
  generalize hAe : mA w0 s.heap.size = A at hG ⊢
  obtain ⟨w, hw0⟩ : ∃ z, z = w0 := ⟨_, rfl⟩
  rw [← hw0] at hG hwb hwa
  have hfr : ∀ x, w x = w0 x := fun x => by rw [hw0]
  have nwa : wb ≠ wa := fun z => by rw [z, hwa] at hwb; cases hwb
  refine lv_iload_n S.1 S.2.1 dX9_keeperFor_0 rfl (lv_at hl 0 rfl) ?_
  refine lv_lookup (tgt := 48) (off := 47) S.1 S.2.1 dX9_keeperFor_1 (by decide) (by rw [lv_osw hx1 (by decide), lv_osw hx2 (by decide)]; rfl) (by decide) ?_
  refine mn_new (fs := [.null, .null, .null, .int 0, .int 0, .int 0]) (C := RX5) (T := TX5) (N := 6) (ci := 4) S inlX5 tyX5 tyX5_ok in_58 in_59 in_60 hK hG rfl (fun j hj => by rcases (show j = 0 ∨ j = 1 ∨ j = 2 ∨ j = 3 ∨ j = 4 ∨ j = 5 by omega) with rfl | rfl | rfl | rfl | rfl | rfl <;> rfl) (by decide) (show 0 + 6 ≤ 410 by decide) dX9_keeperFor_48 (fun o0 w H hq9 ho0 hf9 hG => ?_)
  refine W.widen (k := 1) (n := 6) (by decide) (by decide) ?_
  have ne1 : o0 ≠ wb := fun z => by rw [z, hwb] at hq9; cases hq9
  have ne2 : o0 ≠ wa := fun z => by rw [z, hwa] at hq9; cases hq9
  have fro0 : w0 o0 = none := by rw [← hfr o0 ]; exact hq9
  have hwb : w wb = some (.inr (7, [.ref wa])) := by rw [hf9 wb (Ne.symm ne1)]; exact hwb
  have hwa : w wa = some (.inl (cT, n, .inr (.inr (.inr (.inr (fun _ => none)))))) := by rw [hf9 wa (Ne.symm ne2)]; exact hwa
  have hfr : ∀ x, x ≠ o0 → w x = w0 x := fun x n0 => by rw [hf9 x n0]; exact hfr x
  refine lv_dup S.1 S.2.1 dX9_keeperFor_51 rfl ?_
  refine lv_aload_n S.1 S.2.1 dX9_keeperFor_52 rfl (lv_at hl 1 rfl) ?_
  refine lv_aload_n S.1 S.2.1 dX9_keeperFor_53 rfl (lv_at hl 2 rfl) ?_
  have hold := ho0
  refine mCI (As := [.ref (wb), .ref (rb)]) (rest := [.ref (o0)]) S (i_sweeper o0 rb ho0 wb wa n hn hwb hwa) cal_X5_init rfl in_114 in_115 in_60 hK hN hG rfl rfl hl.1 (Nat.le_of_ble_eq_true rfl) ⟨by decide, by decide⟩ ⟨rfl, rfl⟩ ⟨by decide, by decide⟩ dX9_keeperFor_54 (fun v w H locs hp hG => ?_)
  obtain ⟨rfl, k1, k2, fq_k1, fq_k2, nk21, ho0, hk1, hk2, hf8⟩ := hp
  have ne3 : k1 ≠ wb := fun z => by rw [z, hwb] at fq_k1; cases fq_k1
  have ne4 : k1 ≠ wa := fun z => by rw [z, hwa] at fq_k1; cases fq_k1
  have ne5 : k1 ≠ o0 := fun z => by rw [z, hold] at fq_k1; cases fq_k1
  have ne6 : k2 ≠ wb := fun z => by rw [z, hwb] at fq_k2; cases fq_k2
  have ne7 : k2 ≠ wa := fun z => by rw [z, hwa] at fq_k2; cases fq_k2
  have ne8 : k2 ≠ o0 := fun z => by rw [z, hold] at fq_k2; cases fq_k2
  have hwb : w wb = some (.inr (7, [.ref wa])) := by rw [hf8 wb (Ne.symm ne1) (Ne.symm ne3) (Ne.symm ne6)]; exact hwb
  have hwa : w wa = some (.inl (cT, n, .inr (.inr (.inr (.inr (fun _ => none)))))) := by rw [hf8 wa (Ne.symm ne2) (Ne.symm ne4) (Ne.symm ne7)]; exact hwa
  have frk1 : w0 k1 = none := by rw [← hfr k1 ne5]; exact fq_k1
  have frk2 : w0 k2 = none := by rw [← hfr k2 ne8]; exact fq_k2
  have hfr : ∀ x, x ≠ o0 → x ≠ k1 → x ≠ k2 → w x = w0 x := fun x n0 n1 n2 => by rw [hf8 x n0 n1 n2]; exact hfr x n0
  refine W.eq (g2 := F0 m 57 ls [.ref (o0)]) rfl ?_
  refine W.widen (k := 3) (n := 410) (by decide) (by decide) ?_
  exact mw_aret (r := some o0) S hr hlk hK hG dX9_keeperFor_57 ⟨o0, k1, k2, rfl, fro0, frk1, frk2, ne5, ne8, nk21, ho0, hk1, hk2, fun x n1 n2 n3 => hfr x n1 n2 n3⟩
set_option maxHeartbeats 4000000 in
set_option maxRecDepth 100000 in
theorem h_keeperFor1 {l : Launch} {dC : Nat → ClassId} {dI : Nat → Nat → Nat} {cI cZ cT : ClassId} {w0 : mM}  (x : Int32) (hx : x = 1) (rb : Nat) (wb wa n : Nat) (hn : n ≤ 400) (hwb : w0 wb = some (.inr (7, [.ref wa]))) (hwa : w0 wa = some (.inl (cT, n, .inr (.inr (.inr (.inr (fun _ => none))))))) : mC l yX9_keeperFor (wsY yX9_keeperFor cX9_keeperFor 3 (some (.object "KeptHeap$Keeper"))) { frames := 4, cells := 4, slots := 415, locals := 86 } (dC, dI) vwCl (tyL cI cZ cT) 4 415 w0 [.int (x), .ref (wb), .ref (rb)] (fun v w2 => ∃ kb k1 k2 p1, v = some (.ref kb) ∧ w0 kb = none ∧ w0 k1 = none ∧ w0 k2 = none ∧ w0 p1 = none ∧ k1 ≠ kb ∧ k2 ≠ kb ∧ k2 ≠ k1 ∧ p1 ≠ kb ∧ p1 ≠ k1 ∧ p1 ≠ k2 ∧ w2 kb = some (.inr (1, [.ref wb, .ref rb, .ref k1, .int (nI 0), .int (nI 0), .int (nI 0), .int (nI (n / 2)), .ref p1, .int (nI 0)])) ∧ w2 k1 = some (.inr (6, [.ref k2, .int (nI 0), .int (nI 0), .int (nI 0)])) ∧ w2 k2 = some (.inl (cT, n, .inr (.inr (.inr (.inr (fun _ => none)))))) ∧ w2 p1 = some (.inr (2, [.int (nI 0), .int (nI (0 + n / 2))])) ∧ ∀ x, x ≠ kb → x ≠ k1 → x ≠ k2 → x ≠ p1 → w2 x = w0 x) := by
  refine mC.on (by decide) (Nat.le_of_ble_eq_true rfl) ?_
  intro p e s m args below meth c ls S hr hlk hnm hK hN hG hl
  have hl : lv_has ls 3 [(0, .int (x)), (1, .ref (wb)), (2, .ref (rb))] := hl
  generalize hAe : mA w0 s.heap.size = A at hG ⊢
  obtain ⟨w, hw0⟩ : ∃ z, z = w0 := ⟨_, rfl⟩
  rw [← hw0] at hG hwb hwa
  have hfr : ∀ x, w x = w0 x := fun x => by rw [hw0]
  have nwa : wb ≠ wa := fun z => by rw [z, hwa] at hwb; cases hwb
  refine lv_iload_n S.1 S.2.1 dX9_keeperFor_0 rfl (lv_at hl 0 rfl) ?_
  refine lv_lookup (tgt := 28) (off := 27) S.1 S.2.1 dX9_keeperFor_1 (by decide) (by rw [hx]; decide) (by decide) ?_
  refine mn_new (fs := [.null, .null, .null, .int 0, .int 0, .int 0, .int 0, .null, .int 0]) (C := RX1) (T := TX1) (N := 9) (ci := 1) S inlX1 tyX1 tyX1_ok in_52 in_53 in_54 hK hG rfl (fun j hj => by rcases (show j = 0 ∨ j = 1 ∨ j = 2 ∨ j = 3 ∨ j = 4 ∨ j = 5 ∨ j = 6 ∨ j = 7 ∨ j = 8 by omega) with rfl | rfl | rfl | rfl | rfl | rfl | rfl | rfl | rfl <;> rfl) (by decide) (show 0 + 9 ≤ 415 by decide) dX9_keeperFor_28 (fun o0 w H hq9 ho0 hf9 hG => ?_)
  refine W.widen (k := 1) (n := 9) (by decide) (by decide) ?_
  have ne1 : o0 ≠ wb := fun z => by rw [z, hwb] at hq9; cases hq9
  have ne2 : o0 ≠ wa := fun z => by rw [z, hwa] at hq9; cases hq9
  have fro0 : w0 o0 = none := by rw [← hfr o0 ]; exact hq9
  have hwb : w wb = some (.inr (7, [.ref wa])) := by rw [hf9 wb (Ne.symm ne1)]; exact hwb
  have hwa : w wa = some (.inl (cT, n, .inr (.inr (.inr (.inr (fun _ => none)))))) := by rw [hf9 wa (Ne.symm ne2)]; exact hwa
  have hfr : ∀ x, x ≠ o0 → w x = w0 x := fun x n0 => by rw [hf9 x n0]; exact hfr x
  refine lv_dup S.1 S.2.1 dX9_keeperFor_31 rfl ?_
  refine lv_aload_n S.1 S.2.1 dX9_keeperFor_32 rfl (lv_at hl 1 rfl) ?_
  refine lv_aload_n S.1 S.2.1 dX9_keeperFor_33 rfl (lv_at hl 2 rfl) ?_
  have hold := ho0
  refine mCI (As := [.ref (wb), .ref (rb)]) (rest := [.ref (o0)]) S (i_copier o0 rb ho0 wb wa n hn hwb hwa) cal_X1_init rfl in_61 in_62 in_54 hK hN hG rfl rfl hl.1 (Nat.le_of_ble_eq_true rfl) ⟨by decide, by decide⟩ ⟨rfl, rfl⟩ ⟨by decide, by decide⟩ dX9_keeperFor_34 (fun v w H locs hp hG => ?_)
  obtain ⟨rfl, k1, k2, p1, fq_k1, fq_k2, fq_p1, nk21, np1, np2, ho0, hk1, hk2, hp1, hf8⟩ := hp
  have ne3 : k1 ≠ wb := fun z => by rw [z, hwb] at fq_k1; cases fq_k1
  have ne4 : k1 ≠ wa := fun z => by rw [z, hwa] at fq_k1; cases fq_k1
  have ne5 : k1 ≠ o0 := fun z => by rw [z, hold] at fq_k1; cases fq_k1
  have ne6 : k2 ≠ wb := fun z => by rw [z, hwb] at fq_k2; cases fq_k2
  have ne7 : k2 ≠ wa := fun z => by rw [z, hwa] at fq_k2; cases fq_k2
  have ne8 : k2 ≠ o0 := fun z => by rw [z, hold] at fq_k2; cases fq_k2
  have ne9 : p1 ≠ wb := fun z => by rw [z, hwb] at fq_p1; cases fq_p1
  have ne10 : p1 ≠ wa := fun z => by rw [z, hwa] at fq_p1; cases fq_p1
  have ne11 : p1 ≠ o0 := fun z => by rw [z, hold] at fq_p1; cases fq_p1
  have hwb : w wb = some (.inr (7, [.ref wa])) := by rw [hf8 wb (Ne.symm ne1) (Ne.symm ne3) (Ne.symm ne6) (Ne.symm ne9)]; exact hwb
  have hwa : w wa = some (.inl (cT, n, .inr (.inr (.inr (.inr (fun _ => none)))))) := by rw [hf8 wa (Ne.symm ne2) (Ne.symm ne4) (Ne.symm ne7) (Ne.symm ne10)]; exact hwa
  have frk1 : w0 k1 = none := by rw [← hfr k1 ne5]; exact fq_k1
  have frk2 : w0 k2 = none := by rw [← hfr k2 ne8]; exact fq_k2
  have frp1 : w0 p1 = none := by rw [← hfr p1 ne11]; exact fq_p1
  have hfr : ∀ x, x ≠ o0 → x ≠ k1 → x ≠ k2 → x ≠ p1 → w x = w0 x := fun x n0 n1 n2 n3 => by rw [hf8 x n0 n1 n2 n3]; exact hfr x n0
  refine W.eq (g2 := F0 m 37 ls [.ref (o0)]) rfl ?_
  refine W.widen (k := 4) (n := 415) (by decide) (by decide) ?_
  exact mw_aret (r := some o0) S hr hlk hK hG dX9_keeperFor_37 ⟨o0, k1, k2, p1, rfl, fro0, frk1, frk2, frp1, ne5, ne8, nk21, ne11, np1, np2, ho0, hk1, hk2, hp1, fun x n1 n2 n3 n4 => hfr x n1 n2 n3 n4⟩
set_option maxHeartbeats 4000000 in
set_option maxRecDepth 100000 in
theorem h_keeperFor2 {l : Launch} {dC : Nat → ClassId} {dI : Nat → Nat → Nat} {cI cZ cT : ClassId} {w0 : mM}  (x : Int32) (hx : x = 2) (rb : Nat) (wb wa n : Nat) (hn : n ≤ 400) (hwb : w0 wb = some (.inr (7, [.ref wa]))) (hwa : w0 wa = some (.inl (cT, n, .inr (.inr (.inr (.inr (fun _ => none))))))) : mC l yX9_keeperFor (wsY yX9_keeperFor cX9_keeperFor 3 (some (.object "KeptHeap$Keeper"))) { frames := 4, cells := 4, slots := 414, locals := 86 } (dC, dI) vwCl (tyL cI cZ cT) 4 414 w0 [.int (x), .ref (wb), .ref (rb)] (fun v w2 => ∃ kb k1 k2 p1, v = some (.ref kb) ∧ w0 kb = none ∧ w0 k1 = none ∧ w0 k2 = none ∧ w0 p1 = none ∧ k1 ≠ kb ∧ k2 ≠ kb ∧ k2 ≠ k1 ∧ p1 ≠ kb ∧ p1 ≠ k1 ∧ p1 ≠ k2 ∧ w2 kb = some (.inr (0, [.ref wb, .ref rb, .ref k1, .int (nI 0), .int (nI 0), .int (nI 0), .int (nI (n / 4)), .ref p1])) ∧ w2 k1 = some (.inr (6, [.ref k2, .int (nI 0), .int (nI 0), .int (nI 0)])) ∧ w2 k2 = some (.inl (cT, n, .inr (.inr (.inr (.inr (fun _ => none)))))) ∧ w2 p1 = some (.inr (2, [.int (nI 0), .int (nI (0 + n / 4))])) ∧ ∀ x, x ≠ kb → x ≠ k1 → x ≠ k2 → x ≠ p1 → w2 x = w0 x) := by
  refine mC.on (by decide) (Nat.le_of_ble_eq_true rfl) ?_
  intro p e s m args below meth c ls S hr hlk hnm hK hN hG hl
  have hl : lv_has ls 3 [(0, .int (x)), (1, .ref (wb)), (2, .ref (rb))] := hl
  generalize hAe : mA w0 s.heap.size = A at hG ⊢
  obtain ⟨w, hw0⟩ : ∃ z, z = w0 := ⟨_, rfl⟩
  rw [← hw0] at hG hwb hwa
  have hfr : ∀ x, w x = w0 x := fun x => by rw [hw0]
  have nwa : wb ≠ wa := fun z => by rw [z, hwa] at hwb; cases hwb
  refine lv_iload_n S.1 S.2.1 dX9_keeperFor_0 rfl (lv_at hl 0 rfl) ?_
  refine lv_lookup (tgt := 38) (off := 37) S.1 S.2.1 dX9_keeperFor_1 (by decide) (by rw [hx]; decide) (by decide) ?_
  refine mn_new (fs := [.null, .null, .null, .int 0, .int 0, .int 0, .int 0, .null]) (C := RX0) (T := TX0) (N := 8) (ci := 0) S inlX0 tyX0 tyX0_ok in_55 in_56 in_57 hK hG rfl (fun j hj => by rcases (show j = 0 ∨ j = 1 ∨ j = 2 ∨ j = 3 ∨ j = 4 ∨ j = 5 ∨ j = 6 ∨ j = 7 by omega) with rfl | rfl | rfl | rfl | rfl | rfl | rfl | rfl <;> rfl) (by decide) (show 0 + 8 ≤ 414 by decide) dX9_keeperFor_38 (fun o0 w H hq9 ho0 hf9 hG => ?_)
  refine W.widen (k := 1) (n := 8) (by decide) (by decide) ?_
  have ne1 : o0 ≠ wb := fun z => by rw [z, hwb] at hq9; cases hq9
  have ne2 : o0 ≠ wa := fun z => by rw [z, hwa] at hq9; cases hq9
  have fro0 : w0 o0 = none := by rw [← hfr o0 ]; exact hq9
  have hwb : w wb = some (.inr (7, [.ref wa])) := by rw [hf9 wb (Ne.symm ne1)]; exact hwb
  have hwa : w wa = some (.inl (cT, n, .inr (.inr (.inr (.inr (fun _ => none)))))) := by rw [hf9 wa (Ne.symm ne2)]; exact hwa
  have hfr : ∀ x, x ≠ o0 → w x = w0 x := fun x n0 => by rw [hf9 x n0]; exact hfr x
  refine lv_dup S.1 S.2.1 dX9_keeperFor_41 rfl ?_
  refine lv_aload_n S.1 S.2.1 dX9_keeperFor_42 rfl (lv_at hl 1 rfl) ?_
  refine lv_aload_n S.1 S.2.1 dX9_keeperFor_43 rfl (lv_at hl 2 rfl) ?_
  have hold := ho0
  refine mCI (As := [.ref (wb), .ref (rb)]) (rest := [.ref (o0)]) S (i_ager o0 rb ho0 wb wa n hn hwb hwa) cal_X0_init rfl in_105 in_106 in_57 hK hN hG rfl rfl hl.1 (Nat.le_of_ble_eq_true rfl) ⟨by decide, by decide⟩ ⟨rfl, rfl⟩ ⟨by decide, by decide⟩ dX9_keeperFor_44 (fun v w H locs hp hG => ?_)
  obtain ⟨rfl, k1, k2, p1, fq_k1, fq_k2, fq_p1, nk21, np1, np2, ho0, hk1, hk2, hp1, hf8⟩ := hp
  have ne3 : k1 ≠ wb := fun z => by rw [z, hwb] at fq_k1; cases fq_k1
  have ne4 : k1 ≠ wa := fun z => by rw [z, hwa] at fq_k1; cases fq_k1
  have ne5 : k1 ≠ o0 := fun z => by rw [z, hold] at fq_k1; cases fq_k1
  have ne6 : k2 ≠ wb := fun z => by rw [z, hwb] at fq_k2; cases fq_k2
  have ne7 : k2 ≠ wa := fun z => by rw [z, hwa] at fq_k2; cases fq_k2
  have ne8 : k2 ≠ o0 := fun z => by rw [z, hold] at fq_k2; cases fq_k2
  have ne9 : p1 ≠ wb := fun z => by rw [z, hwb] at fq_p1; cases fq_p1
  have ne10 : p1 ≠ wa := fun z => by rw [z, hwa] at fq_p1; cases fq_p1
  have ne11 : p1 ≠ o0 := fun z => by rw [z, hold] at fq_p1; cases fq_p1
  have hwb : w wb = some (.inr (7, [.ref wa])) := by rw [hf8 wb (Ne.symm ne1) (Ne.symm ne3) (Ne.symm ne6) (Ne.symm ne9)]; exact hwb
  have hwa : w wa = some (.inl (cT, n, .inr (.inr (.inr (.inr (fun _ => none)))))) := by rw [hf8 wa (Ne.symm ne2) (Ne.symm ne4) (Ne.symm ne7) (Ne.symm ne10)]; exact hwa
  have frk1 : w0 k1 = none := by rw [← hfr k1 ne5]; exact fq_k1
  have frk2 : w0 k2 = none := by rw [← hfr k2 ne8]; exact fq_k2
  have frp1 : w0 p1 = none := by rw [← hfr p1 ne11]; exact fq_p1
  have hfr : ∀ x, x ≠ o0 → x ≠ k1 → x ≠ k2 → x ≠ p1 → w x = w0 x := fun x n0 n1 n2 n3 => by rw [hf8 x n0 n1 n2 n3]; exact hfr x n0
  refine W.eq (g2 := F0 m 47 ls [.ref (o0)]) rfl ?_
  refine W.widen (k := 4) (n := 414) (by decide) (by decide) ?_
  exact mw_aret (r := some o0) S hr hlk hK hG dX9_keeperFor_47 ⟨o0, k1, k2, p1, rfl, fro0, frk1, frk2, frp1, ne5, ne8, nk21, ne11, np1, np2, ho0, hk1, hk2, hp1, fun x n1 n2 n3 n4 => hfr x n1 n2 n3 n4⟩
theorem cal_X9_init : mCal yX9_init cX9_init 5 2 none := ⟨in_12, by decide +kernel⟩
set_option maxHeartbeats 4000000 in
set_option maxRecDepth 100000 in
theorem h_init0 {l : Launch} {dC : Nat → ClassId} {dI : Nat → Nat → Nat} {cI cZ cT : ClassId} {w0 : mM}  {fl : Nat → Nat} {num : Nat → Nat → Int32} {rfs : Nat → Nat → Option Nat} {tad : Nat → Nat} {trm : Nat → Bool} {tpl wlk ord : Nat → Nat} (b : Nat) (x y : Int32) (hx1 : ¬ x = 1) (hx2 : ¬ x = 2) (hb : w0 b = some (.inr (8, [.null, .null, .null, .int 0]))) : mC l yX9_init (wsY yX9_init cX9_init 5 none) { frames := 5, cells := 7, slots := 828, locals := 108 } (dC, dI) vwCl (tyL cI cZ cT) 7 828 w0 [.ref (b), .int (x), .int (y)] (fun v w2 => v = none ∧ ∃ qq : Nat → Nat, qq 0 = b ∧ (∀ i, domC 0 0 i → 0 < i → w0 (qq i) = none) ∧ CW cI cT qq 0 ((Wof y)) 0 fl num rfs ((fun _ => none)) ((fun _ => none)) tad trm tpl wlk ord ((fun _ => none)) 0 0 0 0 0 0 0 0 0 w2 ∧ ∀ x, (∀ i, domC 0 0 i → x ≠ qq i) → w2 x = w0 x) := by
  refine mC.on (by decide) (Nat.le_of_ble_eq_true rfl) ?_
  intro p e s m args below meth c ls S hr hlk hnm hK hN hG hl
  have hl : lv_has ls 5 [(0, .ref (b)), (1, .int (x)), (2, .int (y))] := hl
  generalize hAe : mA w0 s.heap.size = A at hG ⊢
  obtain ⟨w, hw0⟩ : ∃ z, z = w0 := ⟨_, rfl⟩
  rw [← hw0] at hG hb
  have hfr : ∀ x, w x = w0 x := fun x => by rw [hw0]
  have hwf := Wof_b y
  refine lv_aload_n S.1 S.2.1 dX9_init_0 rfl (lv_at hl 0 rfl) ?_
  refine W.objInit S.1 S.2.1 S.2.2.2.1 (S.2.2.2.2 _ in_13) (S.2.2.2.2 _ in_14) (S.2.2.2.2 _ in_15) rfl (by rw [S.2.2.1]; exact hl.1) rfl dX9_init_1 (Nat.le_of_ble_eq_true rfl) (Nat.le_of_ble_eq_true rfl) ?_
  refine W.eq (g2 := F0 m 4 ls []) rfl ?_
  refine mn_new (fs := [.null]) (C := RX8) (T := TX8) (N := 1) (ci := 7) S inlX8 tyX8 tyX8_ok in_16 in_17 in_18 hK hG rfl (fun j hj => by rcases (show j = 0 by omega) with rfl <;> rfl) (by decide) (show 0 + 1 ≤ 828 by decide) dX9_init_4 (fun o0 w H hq9 ho0 hf9 hG => ?_)
  refine W.widen (k := 1) (n := 1) (by decide) (by decide) ?_
  have ne1 : o0 ≠ b := fun z => by rw [z, hb] at hq9; cases hq9
  have fro0 : w0 o0 = none := by rw [← hfr o0 ]; exact hq9
  have hb : w b = some (.inr (8, [.null, .null, .null, .int 0])) := by rw [hf9 b (Ne.symm ne1)]; exact hb
  have hfr : ∀ x, x ≠ o0 → w x = w0 x := fun x n0 => by rw [hf9 x n0]; exact hfr x
  refine lv_dup S.1 S.2.1 dX9_init_7 rfl ?_
  refine lv_iload_n S.1 S.2.1 dX9_init_8 rfl (lv_at hl 2 rfl) ?_
  refine mCS (As := [.int (y)]) (rest := [.ref (o0), .ref (o0)]) S (h_wordsFor y) cal_X9_wordsFor rfl in_26 in_27 in_2 hK hN hG rfl rfl hl.1 (Nat.le_of_ble_eq_true rfl) ⟨by decide, by decide⟩ ⟨rfl, rfl⟩ ⟨by decide, by decide⟩ dX9_init_9 (fun v w H locs hp hG => ?_)
  obtain ⟨rfl, hw9⟩ := hp
  have hw9 := hw9.symm
  subst hw9
  refine W.eq (g2 := F0 m 12 ls [.int (nI (Wof y)), .ref (o0), .ref (o0)]) rfl ?_
  have hold := ho0
  refine mCI (As := [.int (nI (Wof y))]) (rest := [.ref (o0)]) S (i_words o0 (Wof y) hwf.2.1 ho0) cal_X8_init rfl in_36 in_37 in_18 hK hN hG rfl rfl hl.1 (Nat.le_of_ble_eq_true rfl) ⟨by decide, by decide⟩ ⟨rfl, rfl⟩ ⟨by decide, by decide⟩ dX9_init_12 (fun v w H locs hp hG => ?_)
  obtain ⟨rfl, wa, fq_wa, ho0, hwa, hf8⟩ := hp
  have ne2 : wa ≠ b := fun z => by rw [z, hb] at fq_wa; cases fq_wa
  have ne3 : wa ≠ o0 := fun z => by rw [z, hold] at fq_wa; cases fq_wa
  have hb : w b = some (.inr (8, [.null, .null, .null, .int 0])) := by rw [hf8 b (Ne.symm ne2) (Ne.symm ne1)]; exact hb
  have frwa : w0 wa = none := by rw [← hfr wa ne3]; exact fq_wa
  have hfr : ∀ x, x ≠ o0 → x ≠ wa → w x = w0 x := fun x n0 n1 => by rw [hf8 x n1 n0]; exact hfr x n0
  refine W.eq (g2 := F0 m 15 ls [.ref (o0)]) rfl ?_
  refine W.widen (k := 2) (n := 401) (by decide) (by decide) ?_
  refine lv_astore_n (lv' := [(3, .ref (o0)), (0, .ref (b)), (1, .int (x)), (2, .int (y))]) S.1 S.2.1 dX9_init_15 rfl hl (by decide) rfl (fun ls hl => ?_)
  refine mn_new (fs := [.null]) (C := RX4) (T := TX4) (N := 1) (ci := 3) S inlX4 tyX4 tyX4_ok in_19 in_20 in_21 hK hG rfl (fun j hj => by rcases (show j = 0 by omega) with rfl <;> rfl) (by decide) (show 401 + 1 ≤ 828 by decide) dX9_init_16 (fun o4 w H hq9 ho4 hf9 hG => ?_)
  refine W.widen (k := 3) (n := 402) (by decide) (by decide) ?_
  have ne5 : o4 ≠ b := fun z => by rw [z, hb] at hq9; cases hq9
  have ne6 : o4 ≠ o0 := fun z => by rw [z, ho0] at hq9; cases hq9
  have ne7 : o4 ≠ wa := fun z => by rw [z, hwa] at hq9; cases hq9
  have fro4 : w0 o4 = none := by rw [← hfr o4 ne6 ne7]; exact hq9
  have hb : w b = some (.inr (8, [.null, .null, .null, .int 0])) := by rw [hf9 b (Ne.symm ne5)]; exact hb
  have ho0 : w o0 = some (.inr (7, [.ref wa])) := by rw [hf9 o0 (Ne.symm ne6)]; exact ho0
  have hwa : w wa = some (.inl (cT, Wof y, .inr (.inr (.inr (.inr (fun _ => none)))))) := by rw [hf9 wa (Ne.symm ne7)]; exact hwa
  have hfr : ∀ x, x ≠ o0 → x ≠ wa → x ≠ o4 → w x = w0 x := fun x n0 n1 n2 => by rw [hf9 x n2]; exact hfr x n0 n1
  refine lv_dup S.1 S.2.1 dX9_init_19 rfl ?_
  have hold := ho4
  refine mCI (As := []) (rest := [.ref (o4)]) S (i_roots o4 ho4) cal_X4_init rfl in_43 in_44 in_21 hK hN hG rfl rfl hl.1 (Nat.le_of_ble_eq_true rfl) ⟨by decide, by decide⟩ ⟨rfl, rfl⟩ ⟨by decide, by decide⟩ dX9_init_20 (fun v w H locs hp hG => ?_)
  obtain ⟨rfl, ra, fq_ra, ho4, hra, hf8⟩ := hp
  have ne8 : ra ≠ b := fun z => by rw [z, hb] at fq_ra; cases fq_ra
  have ne9 : ra ≠ o0 := fun z => by rw [z, ho0] at fq_ra; cases fq_ra
  have ne10 : ra ≠ wa := fun z => by rw [z, hwa] at fq_ra; cases fq_ra
  have ne11 : ra ≠ o4 := fun z => by rw [z, hold] at fq_ra; cases fq_ra
  have hb : w b = some (.inr (8, [.null, .null, .null, .int 0])) := by rw [hf8 b (Ne.symm ne8) (Ne.symm ne5)]; exact hb
  have ho0 : w o0 = some (.inr (7, [.ref wa])) := by rw [hf8 o0 (Ne.symm ne9) (Ne.symm ne6)]; exact ho0
  have hwa : w wa = some (.inl (cT, Wof y, .inr (.inr (.inr (.inr (fun _ => none)))))) := by rw [hf8 wa (Ne.symm ne10) (Ne.symm ne7)]; exact hwa
  have frra : w0 ra = none := by rw [← hfr ra ne9 ne10 ne11]; exact fq_ra
  have hfr : ∀ x, x ≠ o0 → x ≠ wa → x ≠ o4 → x ≠ ra → w x = w0 x := fun x n0 n1 n2 n3 => by rw [hf8 x n3 n2]; exact hfr x n0 n1 n2
  refine W.eq (g2 := F0 m 23 ls [.ref (o4)]) rfl ?_
  refine W.widen (k := 4) (n := 418) (by decide) (by decide) ?_
  refine lv_astore (lv' := [(4, .ref (o4)), (3, .ref (o0)), (0, .ref (b)), (1, .int (x)), (2, .int (y))]) S.1 S.2.1 dX9_init_23 hl (by decide) rfl (fun ls hl => ?_)
  refine lv_aload_n S.1 S.2.1 dX9_init_25 rfl (lv_at hl 2 rfl) ?_
  refine lv_aload_n S.1 S.2.1 dX9_init_26 rfl (lv_at hl 1 rfl) ?_
  refine mn_putF (v := .ref (o0)) S inlX9 tyX9 tyX9_ok nmX9 hK hG hb rfl 0 (by decide) in_22 (fun _ h9 => h9) rfl hnm rfl (ty := .object "KeptHeap$Words") (by decide +kernel) rfl rfl (Nat.le_of_ble_eq_true rfl) dX9_init_27 (fun w H locs hb hf9 hG => ?_)
  have hb : w b = some (.inr (8, [.ref (o0), .null, .null, .int 0])) := hb
  have ho0 : w o0 = some (.inr (7, [.ref wa])) := by rw [hf9 o0 ne1]; exact ho0
  have hwa : w wa = some (.inl (cT, Wof y, .inr (.inr (.inr (.inr (fun _ => none)))))) := by rw [hf9 wa ne2]; exact hwa
  have ho4 : w o4 = some (.inr (3, [.ref ra])) := by rw [hf9 o4 ne5]; exact ho4
  have hra : w ra = some (.inl (cT, 16, .inr (.inr (.inr (.inr (fun _ => none)))))) := by rw [hf9 ra ne8]; exact hra
  have hfr : ∀ x, x ≠ o0 → x ≠ wa → x ≠ o4 → x ≠ ra → x ≠ b → w x = w0 x := fun x n0 n1 n2 n3 n4 => by rw [hf9 x n4]; exact hfr x n0 n1 n2 n3
  refine lv_aload_n S.1 S.2.1 dX9_init_30 rfl (lv_at hl 2 rfl) ?_
  refine lv_aload S.1 S.2.1 dX9_init_31 (lv_at hl 0 rfl) ?_
  refine mn_putF (v := .ref (o4)) S inlX9 tyX9 tyX9_ok nmX9 hK hG hb rfl 1 (by decide) in_23 (fun _ h9 => h9) rfl hnm rfl (ty := .object "KeptHeap$Roots") (by decide +kernel) rfl rfl (Nat.le_of_ble_eq_true rfl) dX9_init_33 (fun w H locs hb hf9 hG => ?_)
  have hb : w b = some (.inr (8, [.ref (o0), .ref (o4), .null, .int 0])) := hb
  have ho0 : w o0 = some (.inr (7, [.ref wa])) := by rw [hf9 o0 ne1]; exact ho0
  have hwa : w wa = some (.inl (cT, Wof y, .inr (.inr (.inr (.inr (fun _ => none)))))) := by rw [hf9 wa ne2]; exact hwa
  have ho4 : w o4 = some (.inr (3, [.ref ra])) := by rw [hf9 o4 ne5]; exact ho4
  have hra : w ra = some (.inl (cT, 16, .inr (.inr (.inr (.inr (fun _ => none)))))) := by rw [hf9 ra ne8]; exact hra
  have hfr : ∀ x, x ≠ o0 → x ≠ wa → x ≠ o4 → x ≠ ra → x ≠ b → w x = w0 x := fun x n0 n1 n2 n3 n4 => by rw [hf9 x n4]; exact hfr x n0 n1 n2 n3 n4
  refine lv_aload_n S.1 S.2.1 dX9_init_36 rfl (lv_at hl 2 rfl) ?_
  refine lv_iload_n S.1 S.2.1 dX9_init_37 rfl (lv_at hl 3 rfl) ?_
  refine lv_aload_n S.1 S.2.1 dX9_init_38 rfl (lv_at hl 1 rfl) ?_
  refine lv_aload S.1 S.2.1 dX9_init_39 (lv_at hl 0 rfl) ?_
  refine mCS (As := [.int (x), .ref (o0), .ref (o4)]) (rest := [.ref (b)]) S (h_keeperFor0 x hx1 hx2 o4 o0 wa (Wof y) hwf.2.1 ho0 hwa) cal_X9_keeperFor rfl in_49 in_50 in_2 hK hN hG rfl rfl hl.1 (Nat.le_of_ble_eq_true rfl) ⟨by decide, by decide⟩ ⟨rfl, rfl⟩ ⟨by decide, by decide⟩ dX9_init_41 (fun v w H locs hp hG => ?_)
  obtain ⟨kb, k1, k2, rfl, fq_kb, fq_k1, fq_k2, nk1b, nk2b, nk21, hkb, hk1, hk2, hf8⟩ := hp
  have ne12 : kb ≠ b := fun z => by rw [z, hb] at fq_kb; cases fq_kb
  have ne13 : kb ≠ o0 := fun z => by rw [z, ho0] at fq_kb; cases fq_kb
  have ne14 : kb ≠ wa := fun z => by rw [z, hwa] at fq_kb; cases fq_kb
  have ne15 : kb ≠ o4 := fun z => by rw [z, ho4] at fq_kb; cases fq_kb
  have ne16 : kb ≠ ra := fun z => by rw [z, hra] at fq_kb; cases fq_kb
  have ne17 : k1 ≠ b := fun z => by rw [z, hb] at fq_k1; cases fq_k1
  have ne18 : k1 ≠ o0 := fun z => by rw [z, ho0] at fq_k1; cases fq_k1
  have ne19 : k1 ≠ wa := fun z => by rw [z, hwa] at fq_k1; cases fq_k1
  have ne20 : k1 ≠ o4 := fun z => by rw [z, ho4] at fq_k1; cases fq_k1
  have ne21 : k1 ≠ ra := fun z => by rw [z, hra] at fq_k1; cases fq_k1
  have ne22 : k2 ≠ b := fun z => by rw [z, hb] at fq_k2; cases fq_k2
  have ne23 : k2 ≠ o0 := fun z => by rw [z, ho0] at fq_k2; cases fq_k2
  have ne24 : k2 ≠ wa := fun z => by rw [z, hwa] at fq_k2; cases fq_k2
  have ne25 : k2 ≠ o4 := fun z => by rw [z, ho4] at fq_k2; cases fq_k2
  have ne26 : k2 ≠ ra := fun z => by rw [z, hra] at fq_k2; cases fq_k2
  have hb : w b = some (.inr (8, [.ref (o0), .ref (o4), .null, .int 0])) := by rw [hf8 b (Ne.symm ne12) (Ne.symm ne17) (Ne.symm ne22)]; exact hb
  have ho0 : w o0 = some (.inr (7, [.ref wa])) := by rw [hf8 o0 (Ne.symm ne13) (Ne.symm ne18) (Ne.symm ne23)]; exact ho0
  have hwa : w wa = some (.inl (cT, Wof y, .inr (.inr (.inr (.inr (fun _ => none)))))) := by rw [hf8 wa (Ne.symm ne14) (Ne.symm ne19) (Ne.symm ne24)]; exact hwa
  have ho4 : w o4 = some (.inr (3, [.ref ra])) := by rw [hf8 o4 (Ne.symm ne15) (Ne.symm ne20) (Ne.symm ne25)]; exact ho4
  have hra : w ra = some (.inl (cT, 16, .inr (.inr (.inr (.inr (fun _ => none)))))) := by rw [hf8 ra (Ne.symm ne16) (Ne.symm ne21) (Ne.symm ne26)]; exact hra
  have frkb : w0 kb = none := by rw [← hfr kb ne13 ne14 ne15 ne16 ne12]; exact fq_kb
  have frk1 : w0 k1 = none := by rw [← hfr k1 ne18 ne19 ne20 ne21 ne17]; exact fq_k1
  have frk2 : w0 k2 = none := by rw [← hfr k2 ne23 ne24 ne25 ne26 ne22]; exact fq_k2
  have hfr : ∀ x, x ≠ o0 → x ≠ wa → x ≠ o4 → x ≠ ra → x ≠ b → x ≠ kb → x ≠ k1 → x ≠ k2 → w x = w0 x := fun x n0 n1 n2 n3 n4 n5 n6 n7 => by rw [hf8 x n5 n6 n7]; exact hfr x n0 n1 n2 n3 n4
  refine W.eq (g2 := F0 m 44 ls [.ref (kb), .ref (b)]) rfl ?_
  refine W.widen (k := 7) (n := 828) (by decide) (by decide) ?_
  refine mn_putF (v := .ref (kb)) S inlX9 tyX9 tyX9_ok nmX9 hK hG hb rfl 2 (by decide) in_24 (fun _ h9 => h9) rfl hnm rfl (ty := .object "KeptHeap$Keeper") (by decide +kernel) rfl rfl (Nat.le_of_ble_eq_true rfl) dX9_init_44 (fun w H locs hb hf9 hG => ?_)
  have hb : w b = some (.inr (8, [.ref (o0), .ref (o4), .ref (kb), .int 0])) := hb
  have ho0 : w o0 = some (.inr (7, [.ref wa])) := by rw [hf9 o0 ne1]; exact ho0
  have hwa : w wa = some (.inl (cT, Wof y, .inr (.inr (.inr (.inr (fun _ => none)))))) := by rw [hf9 wa ne2]; exact hwa
  have ho4 : w o4 = some (.inr (3, [.ref ra])) := by rw [hf9 o4 ne5]; exact ho4
  have hra : w ra = some (.inl (cT, 16, .inr (.inr (.inr (.inr (fun _ => none)))))) := by rw [hf9 ra ne8]; exact hra
  have hkb : w kb = some (.inr (4, [.ref o0, .ref o4, .ref k1, .int (nI 0), .int (nI 0), .int (nI 0)])) := by rw [hf9 kb ne12]; exact hkb
  have hk1 : w k1 = some (.inr (6, [.ref k2, .int (nI 0), .int (nI 0), .int (nI 0)])) := by rw [hf9 k1 ne17]; exact hk1
  have hk2 : w k2 = some (.inl (cT, Wof y, .inr (.inr (.inr (.inr (fun _ => none)))))) := by rw [hf9 k2 ne22]; exact hk2
  have hfr : ∀ x, x ≠ o0 → x ≠ wa → x ≠ o4 → x ≠ ra → x ≠ b → x ≠ kb → x ≠ k1 → x ≠ k2 → w x = w0 x := fun x n0 n1 n2 n3 n4 n5 n6 n7 => by rw [hf9 x n4]; exact hfr x n0 n1 n2 n3 n4 n5 n6 n7
  refine lv_aload_n S.1 S.2.1 dX9_init_47 rfl (lv_at hl 2 rfl) ?_
  refine lv_iconst (v := nI (0)) S.1 S.2.1 dX9_init_48 (by decide) ?_
  refine mn_put (v := .int (nI (0))) S inlX9 tyX9 tyX9_ok nmX9 hK hG hb rfl 3 (by decide) in_25 (fun _ h9 => h9) rfl (ty := .int) (by decide +kernel) rfl rfl (Nat.le_of_ble_eq_true rfl) dX9_init_49 (fun w H locs hb hf9 hG => ?_)
  have hb : w b = some (.inr (8, [.ref (o0), .ref (o4), .ref (kb), .int (nI (0))])) := hb
  have ho0 : w o0 = some (.inr (7, [.ref wa])) := by rw [hf9 o0 ne1]; exact ho0
  have hwa : w wa = some (.inl (cT, Wof y, .inr (.inr (.inr (.inr (fun _ => none)))))) := by rw [hf9 wa ne2]; exact hwa
  have ho4 : w o4 = some (.inr (3, [.ref ra])) := by rw [hf9 o4 ne5]; exact ho4
  have hra : w ra = some (.inl (cT, 16, .inr (.inr (.inr (.inr (fun _ => none)))))) := by rw [hf9 ra ne8]; exact hra
  have hkb : w kb = some (.inr (4, [.ref o0, .ref o4, .ref k1, .int (nI 0), .int (nI 0), .int (nI 0)])) := by rw [hf9 kb ne12]; exact hkb
  have hk1 : w k1 = some (.inr (6, [.ref k2, .int (nI 0), .int (nI 0), .int (nI 0)])) := by rw [hf9 k1 ne17]; exact hk1
  have hk2 : w k2 = some (.inl (cT, Wof y, .inr (.inr (.inr (.inr (fun _ => none)))))) := by rw [hf9 k2 ne22]; exact hk2
  have hfr : ∀ x, x ≠ o0 → x ≠ wa → x ≠ o4 → x ≠ ra → x ≠ b → x ≠ kb → x ≠ k1 → x ≠ k2 → w x = w0 x := fun x n0 n1 n2 n3 n4 n5 n6 n7 => by rw [hf9 x n4]; exact hfr x n0 n1 n2 n3 n4 n5 n6 n7
  obtain ⟨qq, hqq⟩ : ∃ z : Nat → Nat, z = (fun i => match i with | 0 => b | 1 => o0 | 2 => wa | 3 => o4 | 4 => ra | 5 => kb | 6 => k1 | _ => k2) := ⟨_, rfl⟩
  have q0 : qq 0 = b := by subst hqq; rfl
  have q1 : qq 1 = o0 := by subst hqq; rfl
  have q2 : qq 2 = wa := by subst hqq; rfl
  have q3 : qq 3 = o4 := by subst hqq; rfl
  have q4 : qq 4 = ra := by subst hqq; rfl
  have q5 : qq 5 = kb := by subst hqq; rfl
  have q6 : qq 6 = k1 := by subst hqq; rfl
  have q7 : qq 7 = k2 := by subst hqq; rfl
  have n_1_0 : qq 1 ≠ qq 0 := by rw [q1, q0]; exact ne1
  have n_2_0 : qq 2 ≠ qq 0 := by rw [q2, q0]; exact ne2
  have n_2_1 : qq 2 ≠ qq 1 := by rw [q2, q1]; exact ne3
  have n_3_0 : qq 3 ≠ qq 0 := by rw [q3, q0]; exact ne5
  have n_3_1 : qq 3 ≠ qq 1 := by rw [q3, q1]; exact ne6
  have n_3_2 : qq 3 ≠ qq 2 := by rw [q3, q2]; exact ne7
  have n_4_0 : qq 4 ≠ qq 0 := by rw [q4, q0]; exact ne8
  have n_4_1 : qq 4 ≠ qq 1 := by rw [q4, q1]; exact ne9
  have n_4_2 : qq 4 ≠ qq 2 := by rw [q4, q2]; exact ne10
  have n_4_3 : qq 4 ≠ qq 3 := by rw [q4, q3]; exact ne11
  have n_5_0 : qq 5 ≠ qq 0 := by rw [q5, q0]; exact ne12
  have n_5_1 : qq 5 ≠ qq 1 := by rw [q5, q1]; exact ne13
  have n_5_2 : qq 5 ≠ qq 2 := by rw [q5, q2]; exact ne14
  have n_5_3 : qq 5 ≠ qq 3 := by rw [q5, q3]; exact ne15
  have n_5_4 : qq 5 ≠ qq 4 := by rw [q5, q4]; exact ne16
  have n_6_0 : qq 6 ≠ qq 0 := by rw [q6, q0]; exact ne17
  have n_6_1 : qq 6 ≠ qq 1 := by rw [q6, q1]; exact ne18
  have n_6_2 : qq 6 ≠ qq 2 := by rw [q6, q2]; exact ne19
  have n_6_3 : qq 6 ≠ qq 3 := by rw [q6, q3]; exact ne20
  have n_6_4 : qq 6 ≠ qq 4 := by rw [q6, q4]; exact ne21
  have n_6_5 : qq 6 ≠ qq 5 := by rw [q6, q5]; exact nk1b
  have n_7_0 : qq 7 ≠ qq 0 := by rw [q7, q0]; exact ne22
  have n_7_1 : qq 7 ≠ qq 1 := by rw [q7, q1]; exact ne23
  have n_7_2 : qq 7 ≠ qq 2 := by rw [q7, q2]; exact ne24
  have n_7_3 : qq 7 ≠ qq 3 := by rw [q7, q3]; exact ne25
  have n_7_4 : qq 7 ≠ qq 4 := by rw [q7, q4]; exact ne26
  have n_7_5 : qq 7 ≠ qq 5 := by rw [q7, q5]; exact nk2b
  have n_7_6 : qq 7 ≠ qq 6 := by rw [q7, q6]; exact nk21
  have hdom : ∀ i, domC 0 0 i → i < 8 := fun i hi => by unfold domC at hi; omega
  have hinj : ∀ i j, domC 0 0 i → domC 0 0 j → qq i = qq j → i = j := by
    intro i j hi hj h
    have h1 := hdom i hi
    have h2 := hdom j hj
    rcases (show i = 0 ∨ i = 1 ∨ i = 2 ∨ i = 3 ∨ i = 4 ∨ i = 5 ∨ i = 6 ∨ i = 7 by omega) with rfl | rfl | rfl | rfl | rfl | rfl | rfl | rfl <;> rcases (show j = 0 ∨ j = 1 ∨ j = 2 ∨ j = 3 ∨ j = 4 ∨ j = 5 ∨ j = 6 ∨ j = 7 by omega) with rfl | rfl | rfl | rfl | rfl | rfl | rfl | rfl <;> first | rfl | exact absurd h n_1_0 | exact absurd h.symm n_1_0 | exact absurd h n_2_0 | exact absurd h.symm n_2_0 | exact absurd h n_2_1 | exact absurd h.symm n_2_1 | exact absurd h n_3_0 | exact absurd h.symm n_3_0 | exact absurd h n_3_1 | exact absurd h.symm n_3_1 | exact absurd h n_3_2 | exact absurd h.symm n_3_2 | exact absurd h n_4_0 | exact absurd h.symm n_4_0 | exact absurd h n_4_1 | exact absurd h.symm n_4_1 | exact absurd h n_4_2 | exact absurd h.symm n_4_2 | exact absurd h n_4_3 | exact absurd h.symm n_4_3 | exact absurd h n_5_0 | exact absurd h.symm n_5_0 | exact absurd h n_5_1 | exact absurd h.symm n_5_1 | exact absurd h n_5_2 | exact absurd h.symm n_5_2 | exact absurd h n_5_3 | exact absurd h.symm n_5_3 | exact absurd h n_5_4 | exact absurd h.symm n_5_4 | exact absurd h n_6_0 | exact absurd h.symm n_6_0 | exact absurd h n_6_1 | exact absurd h.symm n_6_1 | exact absurd h n_6_2 | exact absurd h.symm n_6_2 | exact absurd h n_6_3 | exact absurd h.symm n_6_3 | exact absurd h n_6_4 | exact absurd h.symm n_6_4 | exact absurd h n_6_5 | exact absurd h.symm n_6_5 | exact absurd h n_7_0 | exact absurd h.symm n_7_0 | exact absurd h n_7_1 | exact absurd h.symm n_7_1 | exact absurd h n_7_2 | exact absurd h.symm n_7_2 | exact absurd h n_7_3 | exact absurd h.symm n_7_3 | exact absurd h n_7_4 | exact absurd h.symm n_7_4 | exact absurd h n_7_5 | exact absurd h.symm n_7_5 | exact absurd h n_7_6 | exact absurd h.symm n_7_6
  have hcw : CW cI cT qq 0 ((Wof y)) 0 fl num rfs ((fun _ => none)) ((fun _ => none)) tad trm tpl wlk ord ((fun _ => none)) 0 0 0 0 0 0 0 0 0 w := by
    refine ⟨fun i hi => ?_, hinj⟩
    have h1 := hdom i hi
    rcases (show i = 0 ∨ i = 1 ∨ i = 2 ∨ i = 3 ∨ i = 4 ∨ i = 5 ∨ i = 6 ∨ i = 7 by omega) with rfl | rfl | rfl | rfl | rfl | rfl | rfl | rfl
    · rw [q0, hb]; apply congrArg; simp [cellC, kpC, q0, q1, q2, q3, q4, q5, q6, q7]
    · rw [q1, ho0]; apply congrArg; simp [cellC, kpC, q0, q1, q2, q3, q4, q5, q6, q7]
    · rw [q2, hwa]; apply congrArg; simp [cellC, kpC, q0, q1, q2, q3, q4, q5, q6, q7]
    · rw [q3, ho4]; apply congrArg; simp [cellC, kpC, q0, q1, q2, q3, q4, q5, q6, q7]
    · rw [q4, hra]; apply congrArg; simp [cellC, kpC, q0, q1, q2, q3, q4, q5, q6, q7]
    · rw [q5, hkb]; apply congrArg; simp [cellC, kpC, q0, q1, q2, q3, q4, q5, q6, q7]
    · rw [q6, hk1]; apply congrArg; simp [cellC, kpC, q0, q1, q2, q3, q4, q5, q6, q7]
    · rw [q7, hk2]; apply congrArg; simp [cellC, kpC, q0, q1, q2, q3, q4, q5, q6, q7]
  have hnew : ∀ i, domC 0 0 i → 0 < i → w0 (qq i) = none := by
    intro i hi h0
    have h1 := hdom i hi
    rcases (show i = 1 ∨ i = 2 ∨ i = 3 ∨ i = 4 ∨ i = 5 ∨ i = 6 ∨ i = 7 by omega) with rfl | rfl | rfl | rfl | rfl | rfl | rfl
    · rw [q1]; exact fro0
    · rw [q2]; exact frwa
    · rw [q3]; exact fro4
    · rw [q4]; exact frra
    · rw [q5]; exact frkb
    · rw [q6]; exact frk1
    · rw [q7]; exact frk2
  exact mw_vret S hr hlk hK hG dX9_init_52 ⟨rfl, qq, q0, hnew, hcw, fun x hx => hfr x (fun z => hx 1 (Or.inl (by decide)) (by rw [q1]; exact z)) (fun z => hx 2 (Or.inl (by decide)) (by rw [q2]; exact z)) (fun z => hx 3 (Or.inl (by decide)) (by rw [q3]; exact z)) (fun z => hx 4 (Or.inl (by decide)) (by rw [q4]; exact z)) (fun z => hx 0 (Or.inl (by decide)) (by rw [q0]; exact z)) (fun z => hx 5 (Or.inl (by decide)) (by rw [q5]; exact z)) (fun z => hx 6 (Or.inl (by decide)) (by rw [q6]; exact z)) (fun z => hx 7 (Or.inl (by decide)) (by rw [q7]; exact z))⟩
set_option maxHeartbeats 4000000 in
set_option maxRecDepth 100000 in
theorem h_init1 {l : Launch} {dC : Nat → ClassId} {dI : Nat → Nat → Nat} {cI cZ cT : ClassId} {w0 : mM}  {fl : Nat → Nat} {num : Nat → Nat → Int32} {rfs : Nat → Nat → Option Nat} {tad : Nat → Nat} {trm : Nat → Bool} {tpl wlk ord : Nat → Nat} (b : Nat) (x y : Int32) (hx : x = 1) (hb : w0 b = some (.inr (8, [.null, .null, .null, .int 0]))) : mC l yX9_init (wsY yX9_init cX9_init 5 none) { frames := 5, cells := 8, slots := 833, locals := 108 } (dC, dI) vwCl (tyL cI cZ cT) 8 833 w0 [.ref (b), .int (x), .int (y)] (fun v w2 => v = none ∧ ∃ qq : Nat → Nat, qq 0 = b ∧ (∀ i, domC 1 0 i → 0 < i → w0 (qq i) = none) ∧ CW cI cT qq 1 ((Wof y)) 0 fl num rfs ((fun _ => none)) ((fun _ => none)) tad trm tpl wlk ord ((fun _ => none)) 0 0 0 0 ((Wof y / 2)) 0 0 0 0 w2 ∧ ∀ x, (∀ i, domC 1 0 i → x ≠ qq i) → w2 x = w0 x) := by
  refine mC.on (by decide) (Nat.le_of_ble_eq_true rfl) ?_
  intro p e s m args below meth c ls S hr hlk hnm hK hN hG hl
  have hl : lv_has ls 5 [(0, .ref (b)), (1, .int (x)), (2, .int (y))] := hl
  generalize hAe : mA w0 s.heap.size = A at hG ⊢
  obtain ⟨w, hw0⟩ : ∃ z, z = w0 := ⟨_, rfl⟩
  rw [← hw0] at hG hb
  have hfr : ∀ x, w x = w0 x := fun x => by rw [hw0]
  have hwf := Wof_b y
  refine lv_aload_n S.1 S.2.1 dX9_init_0 rfl (lv_at hl 0 rfl) ?_
  refine W.objInit S.1 S.2.1 S.2.2.2.1 (S.2.2.2.2 _ in_13) (S.2.2.2.2 _ in_14) (S.2.2.2.2 _ in_15) rfl (by rw [S.2.2.1]; exact hl.1) rfl dX9_init_1 (Nat.le_of_ble_eq_true rfl) (Nat.le_of_ble_eq_true rfl) ?_
  refine W.eq (g2 := F0 m 4 ls []) rfl ?_
  refine mn_new (fs := [.null]) (C := RX8) (T := TX8) (N := 1) (ci := 7) S inlX8 tyX8 tyX8_ok in_16 in_17 in_18 hK hG rfl (fun j hj => by rcases (show j = 0 by omega) with rfl <;> rfl) (by decide) (show 0 + 1 ≤ 833 by decide) dX9_init_4 (fun o0 w H hq9 ho0 hf9 hG => ?_)
  refine W.widen (k := 1) (n := 1) (by decide) (by decide) ?_
  have ne1 : o0 ≠ b := fun z => by rw [z, hb] at hq9; cases hq9
  have fro0 : w0 o0 = none := by rw [← hfr o0 ]; exact hq9
  have hb : w b = some (.inr (8, [.null, .null, .null, .int 0])) := by rw [hf9 b (Ne.symm ne1)]; exact hb
  have hfr : ∀ x, x ≠ o0 → w x = w0 x := fun x n0 => by rw [hf9 x n0]; exact hfr x
  refine lv_dup S.1 S.2.1 dX9_init_7 rfl ?_
  refine lv_iload_n S.1 S.2.1 dX9_init_8 rfl (lv_at hl 2 rfl) ?_
  refine mCS (As := [.int (y)]) (rest := [.ref (o0), .ref (o0)]) S (h_wordsFor y) cal_X9_wordsFor rfl in_26 in_27 in_2 hK hN hG rfl rfl hl.1 (Nat.le_of_ble_eq_true rfl) ⟨by decide, by decide⟩ ⟨rfl, rfl⟩ ⟨by decide, by decide⟩ dX9_init_9 (fun v w H locs hp hG => ?_)
  obtain ⟨rfl, hw9⟩ := hp
  have hw9 := hw9.symm
  subst hw9
  refine W.eq (g2 := F0 m 12 ls [.int (nI (Wof y)), .ref (o0), .ref (o0)]) rfl ?_
  have hold := ho0
  refine mCI (As := [.int (nI (Wof y))]) (rest := [.ref (o0)]) S (i_words o0 (Wof y) hwf.2.1 ho0) cal_X8_init rfl in_36 in_37 in_18 hK hN hG rfl rfl hl.1 (Nat.le_of_ble_eq_true rfl) ⟨by decide, by decide⟩ ⟨rfl, rfl⟩ ⟨by decide, by decide⟩ dX9_init_12 (fun v w H locs hp hG => ?_)
  obtain ⟨rfl, wa, fq_wa, ho0, hwa, hf8⟩ := hp
  have ne2 : wa ≠ b := fun z => by rw [z, hb] at fq_wa; cases fq_wa
  have ne3 : wa ≠ o0 := fun z => by rw [z, hold] at fq_wa; cases fq_wa
  have hb : w b = some (.inr (8, [.null, .null, .null, .int 0])) := by rw [hf8 b (Ne.symm ne2) (Ne.symm ne1)]; exact hb
  have frwa : w0 wa = none := by rw [← hfr wa ne3]; exact fq_wa
  have hfr : ∀ x, x ≠ o0 → x ≠ wa → w x = w0 x := fun x n0 n1 => by rw [hf8 x n1 n0]; exact hfr x n0
  refine W.eq (g2 := F0 m 15 ls [.ref (o0)]) rfl ?_
  refine W.widen (k := 2) (n := 401) (by decide) (by decide) ?_
  refine lv_astore_n (lv' := [(3, .ref (o0)), (0, .ref (b)), (1, .int (x)), (2, .int (y))]) S.1 S.2.1 dX9_init_15 rfl hl (by decide) rfl (fun ls hl => ?_)
  refine mn_new (fs := [.null]) (C := RX4) (T := TX4) (N := 1) (ci := 3) S inlX4 tyX4 tyX4_ok in_19 in_20 in_21 hK hG rfl (fun j hj => by rcases (show j = 0 by omega) with rfl <;> rfl) (by decide) (show 401 + 1 ≤ 833 by decide) dX9_init_16 (fun o4 w H hq9 ho4 hf9 hG => ?_)
  refine W.widen (k := 3) (n := 402) (by decide) (by decide) ?_
  have ne5 : o4 ≠ b := fun z => by rw [z, hb] at hq9; cases hq9
  have ne6 : o4 ≠ o0 := fun z => by rw [z, ho0] at hq9; cases hq9
  have ne7 : o4 ≠ wa := fun z => by rw [z, hwa] at hq9; cases hq9
  have fro4 : w0 o4 = none := by rw [← hfr o4 ne6 ne7]; exact hq9
  have hb : w b = some (.inr (8, [.null, .null, .null, .int 0])) := by rw [hf9 b (Ne.symm ne5)]; exact hb
  have ho0 : w o0 = some (.inr (7, [.ref wa])) := by rw [hf9 o0 (Ne.symm ne6)]; exact ho0
  have hwa : w wa = some (.inl (cT, Wof y, .inr (.inr (.inr (.inr (fun _ => none)))))) := by rw [hf9 wa (Ne.symm ne7)]; exact hwa
  have hfr : ∀ x, x ≠ o0 → x ≠ wa → x ≠ o4 → w x = w0 x := fun x n0 n1 n2 => by rw [hf9 x n2]; exact hfr x n0 n1
  refine lv_dup S.1 S.2.1 dX9_init_19 rfl ?_
  have hold := ho4
  refine mCI (As := []) (rest := [.ref (o4)]) S (i_roots o4 ho4) cal_X4_init rfl in_43 in_44 in_21 hK hN hG rfl rfl hl.1 (Nat.le_of_ble_eq_true rfl) ⟨by decide, by decide⟩ ⟨rfl, rfl⟩ ⟨by decide, by decide⟩ dX9_init_20 (fun v w H locs hp hG => ?_)
  obtain ⟨rfl, ra, fq_ra, ho4, hra, hf8⟩ := hp
  have ne8 : ra ≠ b := fun z => by rw [z, hb] at fq_ra; cases fq_ra
  have ne9 : ra ≠ o0 := fun z => by rw [z, ho0] at fq_ra; cases fq_ra
  have ne10 : ra ≠ wa := fun z => by rw [z, hwa] at fq_ra; cases fq_ra
  have ne11 : ra ≠ o4 := fun z => by rw [z, hold] at fq_ra; cases fq_ra
  have hb : w b = some (.inr (8, [.null, .null, .null, .int 0])) := by rw [hf8 b (Ne.symm ne8) (Ne.symm ne5)]; exact hb
  have ho0 : w o0 = some (.inr (7, [.ref wa])) := by rw [hf8 o0 (Ne.symm ne9) (Ne.symm ne6)]; exact ho0
  have hwa : w wa = some (.inl (cT, Wof y, .inr (.inr (.inr (.inr (fun _ => none)))))) := by rw [hf8 wa (Ne.symm ne10) (Ne.symm ne7)]; exact hwa
  have frra : w0 ra = none := by rw [← hfr ra ne9 ne10 ne11]; exact fq_ra
  have hfr : ∀ x, x ≠ o0 → x ≠ wa → x ≠ o4 → x ≠ ra → w x = w0 x := fun x n0 n1 n2 n3 => by rw [hf8 x n3 n2]; exact hfr x n0 n1 n2
  refine W.eq (g2 := F0 m 23 ls [.ref (o4)]) rfl ?_
  refine W.widen (k := 4) (n := 418) (by decide) (by decide) ?_
  refine lv_astore (lv' := [(4, .ref (o4)), (3, .ref (o0)), (0, .ref (b)), (1, .int (x)), (2, .int (y))]) S.1 S.2.1 dX9_init_23 hl (by decide) rfl (fun ls hl => ?_)
  refine lv_aload_n S.1 S.2.1 dX9_init_25 rfl (lv_at hl 2 rfl) ?_
  refine lv_aload_n S.1 S.2.1 dX9_init_26 rfl (lv_at hl 1 rfl) ?_
  refine mn_putF (v := .ref (o0)) S inlX9 tyX9 tyX9_ok nmX9 hK hG hb rfl 0 (by decide) in_22 (fun _ h9 => h9) rfl hnm rfl (ty := .object "KeptHeap$Words") (by decide +kernel) rfl rfl (Nat.le_of_ble_eq_true rfl) dX9_init_27 (fun w H locs hb hf9 hG => ?_)
  have hb : w b = some (.inr (8, [.ref (o0), .null, .null, .int 0])) := hb
  have ho0 : w o0 = some (.inr (7, [.ref wa])) := by rw [hf9 o0 ne1]; exact ho0
  have hwa : w wa = some (.inl (cT, Wof y, .inr (.inr (.inr (.inr (fun _ => none)))))) := by rw [hf9 wa ne2]; exact hwa
  have ho4 : w o4 = some (.inr (3, [.ref ra])) := by rw [hf9 o4 ne5]; exact ho4
  have hra : w ra = some (.inl (cT, 16, .inr (.inr (.inr (.inr (fun _ => none)))))) := by rw [hf9 ra ne8]; exact hra
  have hfr : ∀ x, x ≠ o0 → x ≠ wa → x ≠ o4 → x ≠ ra → x ≠ b → w x = w0 x := fun x n0 n1 n2 n3 n4 => by rw [hf9 x n4]; exact hfr x n0 n1 n2 n3
  refine lv_aload_n S.1 S.2.1 dX9_init_30 rfl (lv_at hl 2 rfl) ?_
  refine lv_aload S.1 S.2.1 dX9_init_31 (lv_at hl 0 rfl) ?_
  refine mn_putF (v := .ref (o4)) S inlX9 tyX9 tyX9_ok nmX9 hK hG hb rfl 1 (by decide) in_23 (fun _ h9 => h9) rfl hnm rfl (ty := .object "KeptHeap$Roots") (by decide +kernel) rfl rfl (Nat.le_of_ble_eq_true rfl) dX9_init_33 (fun w H locs hb hf9 hG => ?_)
  have hb : w b = some (.inr (8, [.ref (o0), .ref (o4), .null, .int 0])) := hb
  have ho0 : w o0 = some (.inr (7, [.ref wa])) := by rw [hf9 o0 ne1]; exact ho0
  have hwa : w wa = some (.inl (cT, Wof y, .inr (.inr (.inr (.inr (fun _ => none)))))) := by rw [hf9 wa ne2]; exact hwa
  have ho4 : w o4 = some (.inr (3, [.ref ra])) := by rw [hf9 o4 ne5]; exact ho4
  have hra : w ra = some (.inl (cT, 16, .inr (.inr (.inr (.inr (fun _ => none)))))) := by rw [hf9 ra ne8]; exact hra
  have hfr : ∀ x, x ≠ o0 → x ≠ wa → x ≠ o4 → x ≠ ra → x ≠ b → w x = w0 x := fun x n0 n1 n2 n3 n4 => by rw [hf9 x n4]; exact hfr x n0 n1 n2 n3 n4
  refine lv_aload_n S.1 S.2.1 dX9_init_36 rfl (lv_at hl 2 rfl) ?_
  refine lv_iload_n S.1 S.2.1 dX9_init_37 rfl (lv_at hl 3 rfl) ?_
  refine lv_aload_n S.1 S.2.1 dX9_init_38 rfl (lv_at hl 1 rfl) ?_
  refine lv_aload S.1 S.2.1 dX9_init_39 (lv_at hl 0 rfl) ?_
  refine mCS (As := [.int (x), .ref (o0), .ref (o4)]) (rest := [.ref (b)]) S (h_keeperFor1 x hx o4 o0 wa (Wof y) hwf.2.1 ho0 hwa) cal_X9_keeperFor rfl in_49 in_50 in_2 hK hN hG rfl rfl hl.1 (Nat.le_of_ble_eq_true rfl) ⟨by decide, by decide⟩ ⟨rfl, rfl⟩ ⟨by decide, by decide⟩ dX9_init_41 (fun v w H locs hp hG => ?_)
  obtain ⟨kb, k1, k2, p1, rfl, fq_kb, fq_k1, fq_k2, fq_p1, nk1b, nk2b, nk21, npb, np1, np2, hkb, hk1, hk2, hp1, hf8⟩ := hp
  have ne12 : kb ≠ b := fun z => by rw [z, hb] at fq_kb; cases fq_kb
  have ne13 : kb ≠ o0 := fun z => by rw [z, ho0] at fq_kb; cases fq_kb
  have ne14 : kb ≠ wa := fun z => by rw [z, hwa] at fq_kb; cases fq_kb
  have ne15 : kb ≠ o4 := fun z => by rw [z, ho4] at fq_kb; cases fq_kb
  have ne16 : kb ≠ ra := fun z => by rw [z, hra] at fq_kb; cases fq_kb
  have ne17 : k1 ≠ b := fun z => by rw [z, hb] at fq_k1; cases fq_k1
  have ne18 : k1 ≠ o0 := fun z => by rw [z, ho0] at fq_k1; cases fq_k1
  have ne19 : k1 ≠ wa := fun z => by rw [z, hwa] at fq_k1; cases fq_k1
  have ne20 : k1 ≠ o4 := fun z => by rw [z, ho4] at fq_k1; cases fq_k1
  have ne21 : k1 ≠ ra := fun z => by rw [z, hra] at fq_k1; cases fq_k1
  have ne22 : k2 ≠ b := fun z => by rw [z, hb] at fq_k2; cases fq_k2
  have ne23 : k2 ≠ o0 := fun z => by rw [z, ho0] at fq_k2; cases fq_k2
  have ne24 : k2 ≠ wa := fun z => by rw [z, hwa] at fq_k2; cases fq_k2
  have ne25 : k2 ≠ o4 := fun z => by rw [z, ho4] at fq_k2; cases fq_k2
  have ne26 : k2 ≠ ra := fun z => by rw [z, hra] at fq_k2; cases fq_k2
  have ne27 : p1 ≠ b := fun z => by rw [z, hb] at fq_p1; cases fq_p1
  have ne28 : p1 ≠ o0 := fun z => by rw [z, ho0] at fq_p1; cases fq_p1
  have ne29 : p1 ≠ wa := fun z => by rw [z, hwa] at fq_p1; cases fq_p1
  have ne30 : p1 ≠ o4 := fun z => by rw [z, ho4] at fq_p1; cases fq_p1
  have ne31 : p1 ≠ ra := fun z => by rw [z, hra] at fq_p1; cases fq_p1
  have hb : w b = some (.inr (8, [.ref (o0), .ref (o4), .null, .int 0])) := by rw [hf8 b (Ne.symm ne12) (Ne.symm ne17) (Ne.symm ne22) (Ne.symm ne27)]; exact hb
  have ho0 : w o0 = some (.inr (7, [.ref wa])) := by rw [hf8 o0 (Ne.symm ne13) (Ne.symm ne18) (Ne.symm ne23) (Ne.symm ne28)]; exact ho0
  have hwa : w wa = some (.inl (cT, Wof y, .inr (.inr (.inr (.inr (fun _ => none)))))) := by rw [hf8 wa (Ne.symm ne14) (Ne.symm ne19) (Ne.symm ne24) (Ne.symm ne29)]; exact hwa
  have ho4 : w o4 = some (.inr (3, [.ref ra])) := by rw [hf8 o4 (Ne.symm ne15) (Ne.symm ne20) (Ne.symm ne25) (Ne.symm ne30)]; exact ho4
  have hra : w ra = some (.inl (cT, 16, .inr (.inr (.inr (.inr (fun _ => none)))))) := by rw [hf8 ra (Ne.symm ne16) (Ne.symm ne21) (Ne.symm ne26) (Ne.symm ne31)]; exact hra
  have frkb : w0 kb = none := by rw [← hfr kb ne13 ne14 ne15 ne16 ne12]; exact fq_kb
  have frk1 : w0 k1 = none := by rw [← hfr k1 ne18 ne19 ne20 ne21 ne17]; exact fq_k1
  have frk2 : w0 k2 = none := by rw [← hfr k2 ne23 ne24 ne25 ne26 ne22]; exact fq_k2
  have frp1 : w0 p1 = none := by rw [← hfr p1 ne28 ne29 ne30 ne31 ne27]; exact fq_p1
  have hfr : ∀ x, x ≠ o0 → x ≠ wa → x ≠ o4 → x ≠ ra → x ≠ b → x ≠ kb → x ≠ k1 → x ≠ k2 → x ≠ p1 → w x = w0 x := fun x n0 n1 n2 n3 n4 n5 n6 n7 n8 => by rw [hf8 x n5 n6 n7 n8]; exact hfr x n0 n1 n2 n3 n4
  refine W.eq (g2 := F0 m 44 ls [.ref (kb), .ref (b)]) rfl ?_
  refine W.widen (k := 8) (n := 833) (by decide) (by decide) ?_
  refine mn_putF (v := .ref (kb)) S inlX9 tyX9 tyX9_ok nmX9 hK hG hb rfl 2 (by decide) in_24 (fun _ h9 => h9) rfl hnm rfl (ty := .object "KeptHeap$Keeper") (by decide +kernel) rfl rfl (Nat.le_of_ble_eq_true rfl) dX9_init_44 (fun w H locs hb hf9 hG => ?_)
  have hb : w b = some (.inr (8, [.ref (o0), .ref (o4), .ref (kb), .int 0])) := hb
  have ho0 : w o0 = some (.inr (7, [.ref wa])) := by rw [hf9 o0 ne1]; exact ho0
  have hwa : w wa = some (.inl (cT, Wof y, .inr (.inr (.inr (.inr (fun _ => none)))))) := by rw [hf9 wa ne2]; exact hwa
  have ho4 : w o4 = some (.inr (3, [.ref ra])) := by rw [hf9 o4 ne5]; exact ho4
  have hra : w ra = some (.inl (cT, 16, .inr (.inr (.inr (.inr (fun _ => none)))))) := by rw [hf9 ra ne8]; exact hra
  have hkb : w kb = some (.inr (1, [.ref o0, .ref o4, .ref k1, .int (nI 0), .int (nI 0), .int (nI 0), .int (nI (Wof y / 2)), .ref p1, .int (nI 0)])) := by rw [hf9 kb ne12]; exact hkb
  have hk1 : w k1 = some (.inr (6, [.ref k2, .int (nI 0), .int (nI 0), .int (nI 0)])) := by rw [hf9 k1 ne17]; exact hk1
  have hk2 : w k2 = some (.inl (cT, Wof y, .inr (.inr (.inr (.inr (fun _ => none)))))) := by rw [hf9 k2 ne22]; exact hk2
  have hp1 : w p1 = some (.inr (2, [.int (nI 0), .int (nI (0 + Wof y / 2))])) := by rw [hf9 p1 ne27]; exact hp1
  have hfr : ∀ x, x ≠ o0 → x ≠ wa → x ≠ o4 → x ≠ ra → x ≠ b → x ≠ kb → x ≠ k1 → x ≠ k2 → x ≠ p1 → w x = w0 x := fun x n0 n1 n2 n3 n4 n5 n6 n7 n8 => by rw [hf9 x n4]; exact hfr x n0 n1 n2 n3 n4 n5 n6 n7 n8
  refine lv_aload_n S.1 S.2.1 dX9_init_47 rfl (lv_at hl 2 rfl) ?_
  refine lv_iconst (v := nI (0)) S.1 S.2.1 dX9_init_48 (by decide) ?_
  refine mn_put (v := .int (nI (0))) S inlX9 tyX9 tyX9_ok nmX9 hK hG hb rfl 3 (by decide) in_25 (fun _ h9 => h9) rfl (ty := .int) (by decide +kernel) rfl rfl (Nat.le_of_ble_eq_true rfl) dX9_init_49 (fun w H locs hb hf9 hG => ?_)
  have hb : w b = some (.inr (8, [.ref (o0), .ref (o4), .ref (kb), .int (nI (0))])) := hb
  have ho0 : w o0 = some (.inr (7, [.ref wa])) := by rw [hf9 o0 ne1]; exact ho0
  have hwa : w wa = some (.inl (cT, Wof y, .inr (.inr (.inr (.inr (fun _ => none)))))) := by rw [hf9 wa ne2]; exact hwa
  have ho4 : w o4 = some (.inr (3, [.ref ra])) := by rw [hf9 o4 ne5]; exact ho4
  have hra : w ra = some (.inl (cT, 16, .inr (.inr (.inr (.inr (fun _ => none)))))) := by rw [hf9 ra ne8]; exact hra
  have hkb : w kb = some (.inr (1, [.ref o0, .ref o4, .ref k1, .int (nI 0), .int (nI 0), .int (nI 0), .int (nI (Wof y / 2)), .ref p1, .int (nI 0)])) := by rw [hf9 kb ne12]; exact hkb
  have hk1 : w k1 = some (.inr (6, [.ref k2, .int (nI 0), .int (nI 0), .int (nI 0)])) := by rw [hf9 k1 ne17]; exact hk1
  have hk2 : w k2 = some (.inl (cT, Wof y, .inr (.inr (.inr (.inr (fun _ => none)))))) := by rw [hf9 k2 ne22]; exact hk2
  have hp1 : w p1 = some (.inr (2, [.int (nI 0), .int (nI (0 + Wof y / 2))])) := by rw [hf9 p1 ne27]; exact hp1
  have hfr : ∀ x, x ≠ o0 → x ≠ wa → x ≠ o4 → x ≠ ra → x ≠ b → x ≠ kb → x ≠ k1 → x ≠ k2 → x ≠ p1 → w x = w0 x := fun x n0 n1 n2 n3 n4 n5 n6 n7 n8 => by rw [hf9 x n4]; exact hfr x n0 n1 n2 n3 n4 n5 n6 n7 n8
  obtain ⟨qq, hqq⟩ : ∃ z : Nat → Nat, z = (fun i => match i with | 0 => b | 1 => o0 | 2 => wa | 3 => o4 | 4 => ra | 5 => kb | 6 => k1 | 7 => k2 | _ => p1) := ⟨_, rfl⟩
  have q0 : qq 0 = b := by subst hqq; rfl
  have q1 : qq 1 = o0 := by subst hqq; rfl
  have q2 : qq 2 = wa := by subst hqq; rfl
  have q3 : qq 3 = o4 := by subst hqq; rfl
  have q4 : qq 4 = ra := by subst hqq; rfl
  have q5 : qq 5 = kb := by subst hqq; rfl
  have q6 : qq 6 = k1 := by subst hqq; rfl
  have q7 : qq 7 = k2 := by subst hqq; rfl
  have q8 : qq 8 = p1 := by subst hqq; rfl
  have n_1_0 : qq 1 ≠ qq 0 := by rw [q1, q0]; exact ne1
  have n_2_0 : qq 2 ≠ qq 0 := by rw [q2, q0]; exact ne2
  have n_2_1 : qq 2 ≠ qq 1 := by rw [q2, q1]; exact ne3
  have n_3_0 : qq 3 ≠ qq 0 := by rw [q3, q0]; exact ne5
  have n_3_1 : qq 3 ≠ qq 1 := by rw [q3, q1]; exact ne6
  have n_3_2 : qq 3 ≠ qq 2 := by rw [q3, q2]; exact ne7
  have n_4_0 : qq 4 ≠ qq 0 := by rw [q4, q0]; exact ne8
  have n_4_1 : qq 4 ≠ qq 1 := by rw [q4, q1]; exact ne9
  have n_4_2 : qq 4 ≠ qq 2 := by rw [q4, q2]; exact ne10
  have n_4_3 : qq 4 ≠ qq 3 := by rw [q4, q3]; exact ne11
  have n_5_0 : qq 5 ≠ qq 0 := by rw [q5, q0]; exact ne12
  have n_5_1 : qq 5 ≠ qq 1 := by rw [q5, q1]; exact ne13
  have n_5_2 : qq 5 ≠ qq 2 := by rw [q5, q2]; exact ne14
  have n_5_3 : qq 5 ≠ qq 3 := by rw [q5, q3]; exact ne15
  have n_5_4 : qq 5 ≠ qq 4 := by rw [q5, q4]; exact ne16
  have n_6_0 : qq 6 ≠ qq 0 := by rw [q6, q0]; exact ne17
  have n_6_1 : qq 6 ≠ qq 1 := by rw [q6, q1]; exact ne18
  have n_6_2 : qq 6 ≠ qq 2 := by rw [q6, q2]; exact ne19
  have n_6_3 : qq 6 ≠ qq 3 := by rw [q6, q3]; exact ne20
  have n_6_4 : qq 6 ≠ qq 4 := by rw [q6, q4]; exact ne21
  have n_6_5 : qq 6 ≠ qq 5 := by rw [q6, q5]; exact nk1b
  have n_7_0 : qq 7 ≠ qq 0 := by rw [q7, q0]; exact ne22
  have n_7_1 : qq 7 ≠ qq 1 := by rw [q7, q1]; exact ne23
  have n_7_2 : qq 7 ≠ qq 2 := by rw [q7, q2]; exact ne24
  have n_7_3 : qq 7 ≠ qq 3 := by rw [q7, q3]; exact ne25
  have n_7_4 : qq 7 ≠ qq 4 := by rw [q7, q4]; exact ne26
  have n_7_5 : qq 7 ≠ qq 5 := by rw [q7, q5]; exact nk2b
  have n_7_6 : qq 7 ≠ qq 6 := by rw [q7, q6]; exact nk21
  have n_8_0 : qq 8 ≠ qq 0 := by rw [q8, q0]; exact ne27
  have n_8_1 : qq 8 ≠ qq 1 := by rw [q8, q1]; exact ne28
  have n_8_2 : qq 8 ≠ qq 2 := by rw [q8, q2]; exact ne29
  have n_8_3 : qq 8 ≠ qq 3 := by rw [q8, q3]; exact ne30
  have n_8_4 : qq 8 ≠ qq 4 := by rw [q8, q4]; exact ne31
  have n_8_5 : qq 8 ≠ qq 5 := by rw [q8, q5]; exact npb
  have n_8_6 : qq 8 ≠ qq 6 := by rw [q8, q6]; exact np1
  have n_8_7 : qq 8 ≠ qq 7 := by rw [q8, q7]; exact np2
  have hdom : ∀ i, domC 1 0 i → i < 9 := fun i hi => by unfold domC at hi; omega
  have hinj : ∀ i j, domC 1 0 i → domC 1 0 j → qq i = qq j → i = j := by
    intro i j hi hj h
    have h1 := hdom i hi
    have h2 := hdom j hj
    rcases (show i = 0 ∨ i = 1 ∨ i = 2 ∨ i = 3 ∨ i = 4 ∨ i = 5 ∨ i = 6 ∨ i = 7 ∨ i = 8 by omega) with rfl | rfl | rfl | rfl | rfl | rfl | rfl | rfl | rfl <;> rcases (show j = 0 ∨ j = 1 ∨ j = 2 ∨ j = 3 ∨ j = 4 ∨ j = 5 ∨ j = 6 ∨ j = 7 ∨ j = 8 by omega) with rfl | rfl | rfl | rfl | rfl | rfl | rfl | rfl | rfl <;> first | rfl | exact absurd h n_1_0 | exact absurd h.symm n_1_0 | exact absurd h n_2_0 | exact absurd h.symm n_2_0 | exact absurd h n_2_1 | exact absurd h.symm n_2_1 | exact absurd h n_3_0 | exact absurd h.symm n_3_0 | exact absurd h n_3_1 | exact absurd h.symm n_3_1 | exact absurd h n_3_2 | exact absurd h.symm n_3_2 | exact absurd h n_4_0 | exact absurd h.symm n_4_0 | exact absurd h n_4_1 | exact absurd h.symm n_4_1 | exact absurd h n_4_2 | exact absurd h.symm n_4_2 | exact absurd h n_4_3 | exact absurd h.symm n_4_3 | exact absurd h n_5_0 | exact absurd h.symm n_5_0 | exact absurd h n_5_1 | exact absurd h.symm n_5_1 | exact absurd h n_5_2 | exact absurd h.symm n_5_2 | exact absurd h n_5_3 | exact absurd h.symm n_5_3 | exact absurd h n_5_4 | exact absurd h.symm n_5_4 | exact absurd h n_6_0 | exact absurd h.symm n_6_0 | exact absurd h n_6_1 | exact absurd h.symm n_6_1 | exact absurd h n_6_2 | exact absurd h.symm n_6_2 | exact absurd h n_6_3 | exact absurd h.symm n_6_3 | exact absurd h n_6_4 | exact absurd h.symm n_6_4 | exact absurd h n_6_5 | exact absurd h.symm n_6_5 | exact absurd h n_7_0 | exact absurd h.symm n_7_0 | exact absurd h n_7_1 | exact absurd h.symm n_7_1 | exact absurd h n_7_2 | exact absurd h.symm n_7_2 | exact absurd h n_7_3 | exact absurd h.symm n_7_3 | exact absurd h n_7_4 | exact absurd h.symm n_7_4 | exact absurd h n_7_5 | exact absurd h.symm n_7_5 | exact absurd h n_7_6 | exact absurd h.symm n_7_6 | exact absurd h n_8_0 | exact absurd h.symm n_8_0 | exact absurd h n_8_1 | exact absurd h.symm n_8_1 | exact absurd h n_8_2 | exact absurd h.symm n_8_2 | exact absurd h n_8_3 | exact absurd h.symm n_8_3 | exact absurd h n_8_4 | exact absurd h.symm n_8_4 | exact absurd h n_8_5 | exact absurd h.symm n_8_5 | exact absurd h n_8_6 | exact absurd h.symm n_8_6 | exact absurd h n_8_7 | exact absurd h.symm n_8_7
  have hcw : CW cI cT qq 1 ((Wof y)) 0 fl num rfs ((fun _ => none)) ((fun _ => none)) tad trm tpl wlk ord ((fun _ => none)) 0 0 0 0 ((Wof y / 2)) 0 0 0 0 w := by
    refine ⟨fun i hi => ?_, hinj⟩
    have h1 := hdom i hi
    rcases (show i = 0 ∨ i = 1 ∨ i = 2 ∨ i = 3 ∨ i = 4 ∨ i = 5 ∨ i = 6 ∨ i = 7 ∨ i = 8 by omega) with rfl | rfl | rfl | rfl | rfl | rfl | rfl | rfl | rfl
    · rw [q0, hb]; apply congrArg; simp [cellC, kpC, q0, q1, q2, q3, q4, q5, q6, q7, q8]
    · rw [q1, ho0]; apply congrArg; simp [cellC, kpC, q0, q1, q2, q3, q4, q5, q6, q7, q8]
    · rw [q2, hwa]; apply congrArg; simp [cellC, kpC, q0, q1, q2, q3, q4, q5, q6, q7, q8]
    · rw [q3, ho4]; apply congrArg; simp [cellC, kpC, q0, q1, q2, q3, q4, q5, q6, q7, q8]
    · rw [q4, hra]; apply congrArg; simp [cellC, kpC, q0, q1, q2, q3, q4, q5, q6, q7, q8]
    · rw [q5, hkb]; apply congrArg; simp [cellC, kpC, q0, q1, q2, q3, q4, q5, q6, q7, q8]
    · rw [q6, hk1]; apply congrArg; simp [cellC, kpC, q0, q1, q2, q3, q4, q5, q6, q7, q8]
    · rw [q7, hk2]; apply congrArg; simp [cellC, kpC, q0, q1, q2, q3, q4, q5, q6, q7, q8]
    · rw [q8, hp1]; apply congrArg; simp [cellC, kpC, q0, q1, q2, q3, q4, q5, q6, q7, q8]
  have hnew : ∀ i, domC 1 0 i → 0 < i → w0 (qq i) = none := by
    intro i hi h0
    have h1 := hdom i hi
    rcases (show i = 1 ∨ i = 2 ∨ i = 3 ∨ i = 4 ∨ i = 5 ∨ i = 6 ∨ i = 7 ∨ i = 8 by omega) with rfl | rfl | rfl | rfl | rfl | rfl | rfl | rfl
    · rw [q1]; exact fro0
    · rw [q2]; exact frwa
    · rw [q3]; exact fro4
    · rw [q4]; exact frra
    · rw [q5]; exact frkb
    · rw [q6]; exact frk1
    · rw [q7]; exact frk2
    · rw [q8]; exact frp1
  exact mw_vret S hr hlk hK hG dX9_init_52 ⟨rfl, qq, q0, hnew, hcw, fun x hx => hfr x (fun z => hx 1 (Or.inl (by decide)) (by rw [q1]; exact z)) (fun z => hx 2 (Or.inl (by decide)) (by rw [q2]; exact z)) (fun z => hx 3 (Or.inl (by decide)) (by rw [q3]; exact z)) (fun z => hx 4 (Or.inl (by decide)) (by rw [q4]; exact z)) (fun z => hx 0 (Or.inl (by decide)) (by rw [q0]; exact z)) (fun z => hx 5 (Or.inl (by decide)) (by rw [q5]; exact z)) (fun z => hx 6 (Or.inl (by decide)) (by rw [q6]; exact z)) (fun z => hx 7 (Or.inl (by decide)) (by rw [q7]; exact z)) (fun z => hx 8 (Or.inr (Or.inl ⟨rfl, by decide⟩)) (by rw [q8]; exact z))⟩
set_option maxHeartbeats 4000000 in
set_option maxRecDepth 100000 in
theorem h_init2 {l : Launch} {dC : Nat → ClassId} {dI : Nat → Nat → Nat} {cI cZ cT : ClassId} {w0 : mM}  {fl : Nat → Nat} {num : Nat → Nat → Int32} {rfs : Nat → Nat → Option Nat} {tad : Nat → Nat} {trm : Nat → Bool} {tpl wlk ord : Nat → Nat} (b : Nat) (x y : Int32) (hx : x = 2) (hb : w0 b = some (.inr (8, [.null, .null, .null, .int 0]))) : mC l yX9_init (wsY yX9_init cX9_init 5 none) { frames := 5, cells := 8, slots := 832, locals := 108 } (dC, dI) vwCl (tyL cI cZ cT) 8 832 w0 [.ref (b), .int (x), .int (y)] (fun v w2 => v = none ∧ ∃ qq : Nat → Nat, qq 0 = b ∧ (∀ i, domC 2 0 i → 0 < i → w0 (qq i) = none) ∧ CW cI cT qq 2 ((Wof y)) 0 fl num rfs ((fun _ => none)) ((fun _ => none)) tad trm tpl wlk ord ((fun _ => none)) 0 0 0 0 ((Wof y / 4)) 0 0 0 0 w2 ∧ ∀ x, (∀ i, domC 2 0 i → x ≠ qq i) → w2 x = w0 x) := by
  refine mC.on (by decide) (Nat.le_of_ble_eq_true rfl) ?_
  intro p e s m args below meth c ls S hr hlk hnm hK hN hG hl
  have hl : lv_has ls 5 [(0, .ref (b)), (1, .int (x)), (2, .int (y))] := hl
  generalize hAe : mA w0 s.heap.size = A at hG ⊢
  obtain ⟨w, hw0⟩ : ∃ z, z = w0 := ⟨_, rfl⟩
  rw [← hw0] at hG hb
  have hfr : ∀ x, w x = w0 x := fun x => by rw [hw0]
  have hwf := Wof_b y
  refine lv_aload_n S.1 S.2.1 dX9_init_0 rfl (lv_at hl 0 rfl) ?_
  refine W.objInit S.1 S.2.1 S.2.2.2.1 (S.2.2.2.2 _ in_13) (S.2.2.2.2 _ in_14) (S.2.2.2.2 _ in_15) rfl (by rw [S.2.2.1]; exact hl.1) rfl dX9_init_1 (Nat.le_of_ble_eq_true rfl) (Nat.le_of_ble_eq_true rfl) ?_
  refine W.eq (g2 := F0 m 4 ls []) rfl ?_
  refine mn_new (fs := [.null]) (C := RX8) (T := TX8) (N := 1) (ci := 7) S inlX8 tyX8 tyX8_ok in_16 in_17 in_18 hK hG rfl (fun j hj => by rcases (show j = 0 by omega) with rfl <;> rfl) (by decide) (show 0 + 1 ≤ 832 by decide) dX9_init_4 (fun o0 w H hq9 ho0 hf9 hG => ?_)
  refine W.widen (k := 1) (n := 1) (by decide) (by decide) ?_
  have ne1 : o0 ≠ b := fun z => by rw [z, hb] at hq9; cases hq9
  have fro0 : w0 o0 = none := by rw [← hfr o0 ]; exact hq9
  have hb : w b = some (.inr (8, [.null, .null, .null, .int 0])) := by rw [hf9 b (Ne.symm ne1)]; exact hb
  have hfr : ∀ x, x ≠ o0 → w x = w0 x := fun x n0 => by rw [hf9 x n0]; exact hfr x
  refine lv_dup S.1 S.2.1 dX9_init_7 rfl ?_
  refine lv_iload_n S.1 S.2.1 dX9_init_8 rfl (lv_at hl 2 rfl) ?_
  refine mCS (As := [.int (y)]) (rest := [.ref (o0), .ref (o0)]) S (h_wordsFor y) cal_X9_wordsFor rfl in_26 in_27 in_2 hK hN hG rfl rfl hl.1 (Nat.le_of_ble_eq_true rfl) ⟨by decide, by decide⟩ ⟨rfl, rfl⟩ ⟨by decide, by decide⟩ dX9_init_9 (fun v w H locs hp hG => ?_)
  obtain ⟨rfl, hw9⟩ := hp
  have hw9 := hw9.symm
  subst hw9
  refine W.eq (g2 := F0 m 12 ls [.int (nI (Wof y)), .ref (o0), .ref (o0)]) rfl ?_
  have hold := ho0
  refine mCI (As := [.int (nI (Wof y))]) (rest := [.ref (o0)]) S (i_words o0 (Wof y) hwf.2.1 ho0) cal_X8_init rfl in_36 in_37 in_18 hK hN hG rfl rfl hl.1 (Nat.le_of_ble_eq_true rfl) ⟨by decide, by decide⟩ ⟨rfl, rfl⟩ ⟨by decide, by decide⟩ dX9_init_12 (fun v w H locs hp hG => ?_)
  obtain ⟨rfl, wa, fq_wa, ho0, hwa, hf8⟩ := hp
  have ne2 : wa ≠ b := fun z => by rw [z, hb] at fq_wa; cases fq_wa
  have ne3 : wa ≠ o0 := fun z => by rw [z, hold] at fq_wa; cases fq_wa
  have hb : w b = some (.inr (8, [.null, .null, .null, .int 0])) := by rw [hf8 b (Ne.symm ne2) (Ne.symm ne1)]; exact hb
  have frwa : w0 wa = none := by rw [← hfr wa ne3]; exact fq_wa
  have hfr : ∀ x, x ≠ o0 → x ≠ wa → w x = w0 x := fun x n0 n1 => by rw [hf8 x n1 n0]; exact hfr x n0
  refine W.eq (g2 := F0 m 15 ls [.ref (o0)]) rfl ?_
  refine W.widen (k := 2) (n := 401) (by decide) (by decide) ?_
  refine lv_astore_n (lv' := [(3, .ref (o0)), (0, .ref (b)), (1, .int (x)), (2, .int (y))]) S.1 S.2.1 dX9_init_15 rfl hl (by decide) rfl (fun ls hl => ?_)
  refine mn_new (fs := [.null]) (C := RX4) (T := TX4) (N := 1) (ci := 3) S inlX4 tyX4 tyX4_ok in_19 in_20 in_21 hK hG rfl (fun j hj => by rcases (show j = 0 by omega) with rfl <;> rfl) (by decide) (show 401 + 1 ≤ 832 by decide) dX9_init_16 (fun o4 w H hq9 ho4 hf9 hG => ?_)
  refine W.widen (k := 3) (n := 402) (by decide) (by decide) ?_
  have ne5 : o4 ≠ b := fun z => by rw [z, hb] at hq9; cases hq9
  have ne6 : o4 ≠ o0 := fun z => by rw [z, ho0] at hq9; cases hq9
  have ne7 : o4 ≠ wa := fun z => by rw [z, hwa] at hq9; cases hq9
  have fro4 : w0 o4 = none := by rw [← hfr o4 ne6 ne7]; exact hq9
  have hb : w b = some (.inr (8, [.null, .null, .null, .int 0])) := by rw [hf9 b (Ne.symm ne5)]; exact hb
  have ho0 : w o0 = some (.inr (7, [.ref wa])) := by rw [hf9 o0 (Ne.symm ne6)]; exact ho0
  have hwa : w wa = some (.inl (cT, Wof y, .inr (.inr (.inr (.inr (fun _ => none)))))) := by rw [hf9 wa (Ne.symm ne7)]; exact hwa
  have hfr : ∀ x, x ≠ o0 → x ≠ wa → x ≠ o4 → w x = w0 x := fun x n0 n1 n2 => by rw [hf9 x n2]; exact hfr x n0 n1
  refine lv_dup S.1 S.2.1 dX9_init_19 rfl ?_
  have hold := ho4
  refine mCI (As := []) (rest := [.ref (o4)]) S (i_roots o4 ho4) cal_X4_init rfl in_43 in_44 in_21 hK hN hG rfl rfl hl.1 (Nat.le_of_ble_eq_true rfl) ⟨by decide, by decide⟩ ⟨rfl, rfl⟩ ⟨by decide, by decide⟩ dX9_init_20 (fun v w H locs hp hG => ?_)
  obtain ⟨rfl, ra, fq_ra, ho4, hra, hf8⟩ := hp
  have ne8 : ra ≠ b := fun z => by rw [z, hb] at fq_ra; cases fq_ra
  have ne9 : ra ≠ o0 := fun z => by rw [z, ho0] at fq_ra; cases fq_ra
  have ne10 : ra ≠ wa := fun z => by rw [z, hwa] at fq_ra; cases fq_ra
  have ne11 : ra ≠ o4 := fun z => by rw [z, hold] at fq_ra; cases fq_ra
  have hb : w b = some (.inr (8, [.null, .null, .null, .int 0])) := by rw [hf8 b (Ne.symm ne8) (Ne.symm ne5)]; exact hb
  have ho0 : w o0 = some (.inr (7, [.ref wa])) := by rw [hf8 o0 (Ne.symm ne9) (Ne.symm ne6)]; exact ho0
  have hwa : w wa = some (.inl (cT, Wof y, .inr (.inr (.inr (.inr (fun _ => none)))))) := by rw [hf8 wa (Ne.symm ne10) (Ne.symm ne7)]; exact hwa
  have frra : w0 ra = none := by rw [← hfr ra ne9 ne10 ne11]; exact fq_ra
  have hfr : ∀ x, x ≠ o0 → x ≠ wa → x ≠ o4 → x ≠ ra → w x = w0 x := fun x n0 n1 n2 n3 => by rw [hf8 x n3 n2]; exact hfr x n0 n1 n2
  refine W.eq (g2 := F0 m 23 ls [.ref (o4)]) rfl ?_
  refine W.widen (k := 4) (n := 418) (by decide) (by decide) ?_
  refine lv_astore (lv' := [(4, .ref (o4)), (3, .ref (o0)), (0, .ref (b)), (1, .int (x)), (2, .int (y))]) S.1 S.2.1 dX9_init_23 hl (by decide) rfl (fun ls hl => ?_)
  refine lv_aload_n S.1 S.2.1 dX9_init_25 rfl (lv_at hl 2 rfl) ?_
  refine lv_aload_n S.1 S.2.1 dX9_init_26 rfl (lv_at hl 1 rfl) ?_
  refine mn_putF (v := .ref (o0)) S inlX9 tyX9 tyX9_ok nmX9 hK hG hb rfl 0 (by decide) in_22 (fun _ h9 => h9) rfl hnm rfl (ty := .object "KeptHeap$Words") (by decide +kernel) rfl rfl (Nat.le_of_ble_eq_true rfl) dX9_init_27 (fun w H locs hb hf9 hG => ?_)
  have hb : w b = some (.inr (8, [.ref (o0), .null, .null, .int 0])) := hb
  have ho0 : w o0 = some (.inr (7, [.ref wa])) := by rw [hf9 o0 ne1]; exact ho0
  have hwa : w wa = some (.inl (cT, Wof y, .inr (.inr (.inr (.inr (fun _ => none)))))) := by rw [hf9 wa ne2]; exact hwa
  have ho4 : w o4 = some (.inr (3, [.ref ra])) := by rw [hf9 o4 ne5]; exact ho4
  have hra : w ra = some (.inl (cT, 16, .inr (.inr (.inr (.inr (fun _ => none)))))) := by rw [hf9 ra ne8]; exact hra
  have hfr : ∀ x, x ≠ o0 → x ≠ wa → x ≠ o4 → x ≠ ra → x ≠ b → w x = w0 x := fun x n0 n1 n2 n3 n4 => by rw [hf9 x n4]; exact hfr x n0 n1 n2 n3
  refine lv_aload_n S.1 S.2.1 dX9_init_30 rfl (lv_at hl 2 rfl) ?_
  refine lv_aload S.1 S.2.1 dX9_init_31 (lv_at hl 0 rfl) ?_
  refine mn_putF (v := .ref (o4)) S inlX9 tyX9 tyX9_ok nmX9 hK hG hb rfl 1 (by decide) in_23 (fun _ h9 => h9) rfl hnm rfl (ty := .object "KeptHeap$Roots") (by decide +kernel) rfl rfl (Nat.le_of_ble_eq_true rfl) dX9_init_33 (fun w H locs hb hf9 hG => ?_)
  have hb : w b = some (.inr (8, [.ref (o0), .ref (o4), .null, .int 0])) := hb
  have ho0 : w o0 = some (.inr (7, [.ref wa])) := by rw [hf9 o0 ne1]; exact ho0
  have hwa : w wa = some (.inl (cT, Wof y, .inr (.inr (.inr (.inr (fun _ => none)))))) := by rw [hf9 wa ne2]; exact hwa
  have ho4 : w o4 = some (.inr (3, [.ref ra])) := by rw [hf9 o4 ne5]; exact ho4
  have hra : w ra = some (.inl (cT, 16, .inr (.inr (.inr (.inr (fun _ => none)))))) := by rw [hf9 ra ne8]; exact hra
  have hfr : ∀ x, x ≠ o0 → x ≠ wa → x ≠ o4 → x ≠ ra → x ≠ b → w x = w0 x := fun x n0 n1 n2 n3 n4 => by rw [hf9 x n4]; exact hfr x n0 n1 n2 n3 n4
  refine lv_aload_n S.1 S.2.1 dX9_init_36 rfl (lv_at hl 2 rfl) ?_
  refine lv_iload_n S.1 S.2.1 dX9_init_37 rfl (lv_at hl 3 rfl) ?_
  refine lv_aload_n S.1 S.2.1 dX9_init_38 rfl (lv_at hl 1 rfl) ?_
  refine lv_aload S.1 S.2.1 dX9_init_39 (lv_at hl 0 rfl) ?_
  refine mCS (As := [.int (x), .ref (o0), .ref (o4)]) (rest := [.ref (b)]) S (h_keeperFor2 x hx o4 o0 wa (Wof y) hwf.2.1 ho0 hwa) cal_X9_keeperFor rfl in_49 in_50 in_2 hK hN hG rfl rfl hl.1 (Nat.le_of_ble_eq_true rfl) ⟨by decide, by decide⟩ ⟨rfl, rfl⟩ ⟨by decide, by decide⟩ dX9_init_41 (fun v w H locs hp hG => ?_)
  obtain ⟨kb, k1, k2, p1, rfl, fq_kb, fq_k1, fq_k2, fq_p1, nk1b, nk2b, nk21, npb, np1, np2, hkb, hk1, hk2, hp1, hf8⟩ := hp
  have ne12 : kb ≠ b := fun z => by rw [z, hb] at fq_kb; cases fq_kb
  have ne13 : kb ≠ o0 := fun z => by rw [z, ho0] at fq_kb; cases fq_kb
  have ne14 : kb ≠ wa := fun z => by rw [z, hwa] at fq_kb; cases fq_kb
  have ne15 : kb ≠ o4 := fun z => by rw [z, ho4] at fq_kb; cases fq_kb
  have ne16 : kb ≠ ra := fun z => by rw [z, hra] at fq_kb; cases fq_kb
  have ne17 : k1 ≠ b := fun z => by rw [z, hb] at fq_k1; cases fq_k1
  have ne18 : k1 ≠ o0 := fun z => by rw [z, ho0] at fq_k1; cases fq_k1
  have ne19 : k1 ≠ wa := fun z => by rw [z, hwa] at fq_k1; cases fq_k1
  have ne20 : k1 ≠ o4 := fun z => by rw [z, ho4] at fq_k1; cases fq_k1
  have ne21 : k1 ≠ ra := fun z => by rw [z, hra] at fq_k1; cases fq_k1
  have ne22 : k2 ≠ b := fun z => by rw [z, hb] at fq_k2; cases fq_k2
  have ne23 : k2 ≠ o0 := fun z => by rw [z, ho0] at fq_k2; cases fq_k2
  have ne24 : k2 ≠ wa := fun z => by rw [z, hwa] at fq_k2; cases fq_k2
  have ne25 : k2 ≠ o4 := fun z => by rw [z, ho4] at fq_k2; cases fq_k2
  have ne26 : k2 ≠ ra := fun z => by rw [z, hra] at fq_k2; cases fq_k2
  have ne27 : p1 ≠ b := fun z => by rw [z, hb] at fq_p1; cases fq_p1
  have ne28 : p1 ≠ o0 := fun z => by rw [z, ho0] at fq_p1; cases fq_p1
  have ne29 : p1 ≠ wa := fun z => by rw [z, hwa] at fq_p1; cases fq_p1
  have ne30 : p1 ≠ o4 := fun z => by rw [z, ho4] at fq_p1; cases fq_p1
  have ne31 : p1 ≠ ra := fun z => by rw [z, hra] at fq_p1; cases fq_p1
  have hb : w b = some (.inr (8, [.ref (o0), .ref (o4), .null, .int 0])) := by rw [hf8 b (Ne.symm ne12) (Ne.symm ne17) (Ne.symm ne22) (Ne.symm ne27)]; exact hb
  have ho0 : w o0 = some (.inr (7, [.ref wa])) := by rw [hf8 o0 (Ne.symm ne13) (Ne.symm ne18) (Ne.symm ne23) (Ne.symm ne28)]; exact ho0
  have hwa : w wa = some (.inl (cT, Wof y, .inr (.inr (.inr (.inr (fun _ => none)))))) := by rw [hf8 wa (Ne.symm ne14) (Ne.symm ne19) (Ne.symm ne24) (Ne.symm ne29)]; exact hwa
  have ho4 : w o4 = some (.inr (3, [.ref ra])) := by rw [hf8 o4 (Ne.symm ne15) (Ne.symm ne20) (Ne.symm ne25) (Ne.symm ne30)]; exact ho4
  have hra : w ra = some (.inl (cT, 16, .inr (.inr (.inr (.inr (fun _ => none)))))) := by rw [hf8 ra (Ne.symm ne16) (Ne.symm ne21) (Ne.symm ne26) (Ne.symm ne31)]; exact hra
  have frkb : w0 kb = none := by rw [← hfr kb ne13 ne14 ne15 ne16 ne12]; exact fq_kb
  have frk1 : w0 k1 = none := by rw [← hfr k1 ne18 ne19 ne20 ne21 ne17]; exact fq_k1
  have frk2 : w0 k2 = none := by rw [← hfr k2 ne23 ne24 ne25 ne26 ne22]; exact fq_k2
  have frp1 : w0 p1 = none := by rw [← hfr p1 ne28 ne29 ne30 ne31 ne27]; exact fq_p1
  have hfr : ∀ x, x ≠ o0 → x ≠ wa → x ≠ o4 → x ≠ ra → x ≠ b → x ≠ kb → x ≠ k1 → x ≠ k2 → x ≠ p1 → w x = w0 x := fun x n0 n1 n2 n3 n4 n5 n6 n7 n8 => by rw [hf8 x n5 n6 n7 n8]; exact hfr x n0 n1 n2 n3 n4
  refine W.eq (g2 := F0 m 44 ls [.ref (kb), .ref (b)]) rfl ?_
  refine W.widen (k := 8) (n := 832) (by decide) (by decide) ?_
  refine mn_putF (v := .ref (kb)) S inlX9 tyX9 tyX9_ok nmX9 hK hG hb rfl 2 (by decide) in_24 (fun _ h9 => h9) rfl hnm rfl (ty := .object "KeptHeap$Keeper") (by decide +kernel) rfl rfl (Nat.le_of_ble_eq_true rfl) dX9_init_44 (fun w H locs hb hf9 hG => ?_)
  have hb : w b = some (.inr (8, [.ref (o0), .ref (o4), .ref (kb), .int 0])) := hb
  have ho0 : w o0 = some (.inr (7, [.ref wa])) := by rw [hf9 o0 ne1]; exact ho0
  have hwa : w wa = some (.inl (cT, Wof y, .inr (.inr (.inr (.inr (fun _ => none)))))) := by rw [hf9 wa ne2]; exact hwa
  have ho4 : w o4 = some (.inr (3, [.ref ra])) := by rw [hf9 o4 ne5]; exact ho4
  have hra : w ra = some (.inl (cT, 16, .inr (.inr (.inr (.inr (fun _ => none)))))) := by rw [hf9 ra ne8]; exact hra
  have hkb : w kb = some (.inr (0, [.ref o0, .ref o4, .ref k1, .int (nI 0), .int (nI 0), .int (nI 0), .int (nI (Wof y / 4)), .ref p1])) := by rw [hf9 kb ne12]; exact hkb
  have hk1 : w k1 = some (.inr (6, [.ref k2, .int (nI 0), .int (nI 0), .int (nI 0)])) := by rw [hf9 k1 ne17]; exact hk1
  have hk2 : w k2 = some (.inl (cT, Wof y, .inr (.inr (.inr (.inr (fun _ => none)))))) := by rw [hf9 k2 ne22]; exact hk2
  have hp1 : w p1 = some (.inr (2, [.int (nI 0), .int (nI (0 + Wof y / 4))])) := by rw [hf9 p1 ne27]; exact hp1
  have hfr : ∀ x, x ≠ o0 → x ≠ wa → x ≠ o4 → x ≠ ra → x ≠ b → x ≠ kb → x ≠ k1 → x ≠ k2 → x ≠ p1 → w x = w0 x := fun x n0 n1 n2 n3 n4 n5 n6 n7 n8 => by rw [hf9 x n4]; exact hfr x n0 n1 n2 n3 n4 n5 n6 n7 n8
  refine lv_aload_n S.1 S.2.1 dX9_init_47 rfl (lv_at hl 2 rfl) ?_
  refine lv_iconst (v := nI (0)) S.1 S.2.1 dX9_init_48 (by decide) ?_
  refine mn_put (v := .int (nI (0))) S inlX9 tyX9 tyX9_ok nmX9 hK hG hb rfl 3 (by decide) in_25 (fun _ h9 => h9) rfl (ty := .int) (by decide +kernel) rfl rfl (Nat.le_of_ble_eq_true rfl) dX9_init_49 (fun w H locs hb hf9 hG => ?_)
  have hb : w b = some (.inr (8, [.ref (o0), .ref (o4), .ref (kb), .int (nI (0))])) := hb
  have ho0 : w o0 = some (.inr (7, [.ref wa])) := by rw [hf9 o0 ne1]; exact ho0
  have hwa : w wa = some (.inl (cT, Wof y, .inr (.inr (.inr (.inr (fun _ => none)))))) := by rw [hf9 wa ne2]; exact hwa
  have ho4 : w o4 = some (.inr (3, [.ref ra])) := by rw [hf9 o4 ne5]; exact ho4
  have hra : w ra = some (.inl (cT, 16, .inr (.inr (.inr (.inr (fun _ => none)))))) := by rw [hf9 ra ne8]; exact hra
  have hkb : w kb = some (.inr (0, [.ref o0, .ref o4, .ref k1, .int (nI 0), .int (nI 0), .int (nI 0), .int (nI (Wof y / 4)), .ref p1])) := by rw [hf9 kb ne12]; exact hkb
  have hk1 : w k1 = some (.inr (6, [.ref k2, .int (nI 0), .int (nI 0), .int (nI 0)])) := by rw [hf9 k1 ne17]; exact hk1
  have hk2 : w k2 = some (.inl (cT, Wof y, .inr (.inr (.inr (.inr (fun _ => none)))))) := by rw [hf9 k2 ne22]; exact hk2
  have hp1 : w p1 = some (.inr (2, [.int (nI 0), .int (nI (0 + Wof y / 4))])) := by rw [hf9 p1 ne27]; exact hp1
  have hfr : ∀ x, x ≠ o0 → x ≠ wa → x ≠ o4 → x ≠ ra → x ≠ b → x ≠ kb → x ≠ k1 → x ≠ k2 → x ≠ p1 → w x = w0 x := fun x n0 n1 n2 n3 n4 n5 n6 n7 n8 => by rw [hf9 x n4]; exact hfr x n0 n1 n2 n3 n4 n5 n6 n7 n8
  obtain ⟨qq, hqq⟩ : ∃ z : Nat → Nat, z = (fun i => match i with | 0 => b | 1 => o0 | 2 => wa | 3 => o4 | 4 => ra | 5 => kb | 6 => k1 | 7 => k2 | _ => p1) := ⟨_, rfl⟩
  have q0 : qq 0 = b := by subst hqq; rfl
  have q1 : qq 1 = o0 := by subst hqq; rfl
  have q2 : qq 2 = wa := by subst hqq; rfl
  have q3 : qq 3 = o4 := by subst hqq; rfl
  have q4 : qq 4 = ra := by subst hqq; rfl
  have q5 : qq 5 = kb := by subst hqq; rfl
  have q6 : qq 6 = k1 := by subst hqq; rfl
  have q7 : qq 7 = k2 := by subst hqq; rfl
  have q8 : qq 8 = p1 := by subst hqq; rfl
  have n_1_0 : qq 1 ≠ qq 0 := by rw [q1, q0]; exact ne1
  have n_2_0 : qq 2 ≠ qq 0 := by rw [q2, q0]; exact ne2
  have n_2_1 : qq 2 ≠ qq 1 := by rw [q2, q1]; exact ne3
  have n_3_0 : qq 3 ≠ qq 0 := by rw [q3, q0]; exact ne5
  have n_3_1 : qq 3 ≠ qq 1 := by rw [q3, q1]; exact ne6
  have n_3_2 : qq 3 ≠ qq 2 := by rw [q3, q2]; exact ne7
  have n_4_0 : qq 4 ≠ qq 0 := by rw [q4, q0]; exact ne8
  have n_4_1 : qq 4 ≠ qq 1 := by rw [q4, q1]; exact ne9
  have n_4_2 : qq 4 ≠ qq 2 := by rw [q4, q2]; exact ne10
  have n_4_3 : qq 4 ≠ qq 3 := by rw [q4, q3]; exact ne11
  have n_5_0 : qq 5 ≠ qq 0 := by rw [q5, q0]; exact ne12
  have n_5_1 : qq 5 ≠ qq 1 := by rw [q5, q1]; exact ne13
  have n_5_2 : qq 5 ≠ qq 2 := by rw [q5, q2]; exact ne14
  have n_5_3 : qq 5 ≠ qq 3 := by rw [q5, q3]; exact ne15
  have n_5_4 : qq 5 ≠ qq 4 := by rw [q5, q4]; exact ne16
  have n_6_0 : qq 6 ≠ qq 0 := by rw [q6, q0]; exact ne17
  have n_6_1 : qq 6 ≠ qq 1 := by rw [q6, q1]; exact ne18
  have n_6_2 : qq 6 ≠ qq 2 := by rw [q6, q2]; exact ne19
  have n_6_3 : qq 6 ≠ qq 3 := by rw [q6, q3]; exact ne20
  have n_6_4 : qq 6 ≠ qq 4 := by rw [q6, q4]; exact ne21
  have n_6_5 : qq 6 ≠ qq 5 := by rw [q6, q5]; exact nk1b
  have n_7_0 : qq 7 ≠ qq 0 := by rw [q7, q0]; exact ne22
  have n_7_1 : qq 7 ≠ qq 1 := by rw [q7, q1]; exact ne23
  have n_7_2 : qq 7 ≠ qq 2 := by rw [q7, q2]; exact ne24
  have n_7_3 : qq 7 ≠ qq 3 := by rw [q7, q3]; exact ne25
  have n_7_4 : qq 7 ≠ qq 4 := by rw [q7, q4]; exact ne26
  have n_7_5 : qq 7 ≠ qq 5 := by rw [q7, q5]; exact nk2b
  have n_7_6 : qq 7 ≠ qq 6 := by rw [q7, q6]; exact nk21
  have n_8_0 : qq 8 ≠ qq 0 := by rw [q8, q0]; exact ne27
  have n_8_1 : qq 8 ≠ qq 1 := by rw [q8, q1]; exact ne28
  have n_8_2 : qq 8 ≠ qq 2 := by rw [q8, q2]; exact ne29
  have n_8_3 : qq 8 ≠ qq 3 := by rw [q8, q3]; exact ne30
  have n_8_4 : qq 8 ≠ qq 4 := by rw [q8, q4]; exact ne31
  have n_8_5 : qq 8 ≠ qq 5 := by rw [q8, q5]; exact npb
  have n_8_6 : qq 8 ≠ qq 6 := by rw [q8, q6]; exact np1
  have n_8_7 : qq 8 ≠ qq 7 := by rw [q8, q7]; exact np2
  have hdom : ∀ i, domC 2 0 i → i < 9 := fun i hi => by unfold domC at hi; omega
  have hinj : ∀ i j, domC 2 0 i → domC 2 0 j → qq i = qq j → i = j := by
    intro i j hi hj h
    have h1 := hdom i hi
    have h2 := hdom j hj
    rcases (show i = 0 ∨ i = 1 ∨ i = 2 ∨ i = 3 ∨ i = 4 ∨ i = 5 ∨ i = 6 ∨ i = 7 ∨ i = 8 by omega) with rfl | rfl | rfl | rfl | rfl | rfl | rfl | rfl | rfl <;> rcases (show j = 0 ∨ j = 1 ∨ j = 2 ∨ j = 3 ∨ j = 4 ∨ j = 5 ∨ j = 6 ∨ j = 7 ∨ j = 8 by omega) with rfl | rfl | rfl | rfl | rfl | rfl | rfl | rfl | rfl <;> first | rfl | exact absurd h n_1_0 | exact absurd h.symm n_1_0 | exact absurd h n_2_0 | exact absurd h.symm n_2_0 | exact absurd h n_2_1 | exact absurd h.symm n_2_1 | exact absurd h n_3_0 | exact absurd h.symm n_3_0 | exact absurd h n_3_1 | exact absurd h.symm n_3_1 | exact absurd h n_3_2 | exact absurd h.symm n_3_2 | exact absurd h n_4_0 | exact absurd h.symm n_4_0 | exact absurd h n_4_1 | exact absurd h.symm n_4_1 | exact absurd h n_4_2 | exact absurd h.symm n_4_2 | exact absurd h n_4_3 | exact absurd h.symm n_4_3 | exact absurd h n_5_0 | exact absurd h.symm n_5_0 | exact absurd h n_5_1 | exact absurd h.symm n_5_1 | exact absurd h n_5_2 | exact absurd h.symm n_5_2 | exact absurd h n_5_3 | exact absurd h.symm n_5_3 | exact absurd h n_5_4 | exact absurd h.symm n_5_4 | exact absurd h n_6_0 | exact absurd h.symm n_6_0 | exact absurd h n_6_1 | exact absurd h.symm n_6_1 | exact absurd h n_6_2 | exact absurd h.symm n_6_2 | exact absurd h n_6_3 | exact absurd h.symm n_6_3 | exact absurd h n_6_4 | exact absurd h.symm n_6_4 | exact absurd h n_6_5 | exact absurd h.symm n_6_5 | exact absurd h n_7_0 | exact absurd h.symm n_7_0 | exact absurd h n_7_1 | exact absurd h.symm n_7_1 | exact absurd h n_7_2 | exact absurd h.symm n_7_2 | exact absurd h n_7_3 | exact absurd h.symm n_7_3 | exact absurd h n_7_4 | exact absurd h.symm n_7_4 | exact absurd h n_7_5 | exact absurd h.symm n_7_5 | exact absurd h n_7_6 | exact absurd h.symm n_7_6 | exact absurd h n_8_0 | exact absurd h.symm n_8_0 | exact absurd h n_8_1 | exact absurd h.symm n_8_1 | exact absurd h n_8_2 | exact absurd h.symm n_8_2 | exact absurd h n_8_3 | exact absurd h.symm n_8_3 | exact absurd h n_8_4 | exact absurd h.symm n_8_4 | exact absurd h n_8_5 | exact absurd h.symm n_8_5 | exact absurd h n_8_6 | exact absurd h.symm n_8_6 | exact absurd h n_8_7 | exact absurd h.symm n_8_7
  have hcw : CW cI cT qq 2 ((Wof y)) 0 fl num rfs ((fun _ => none)) ((fun _ => none)) tad trm tpl wlk ord ((fun _ => none)) 0 0 0 0 ((Wof y / 4)) 0 0 0 0 w := by
    refine ⟨fun i hi => ?_, hinj⟩
    have h1 := hdom i hi
    rcases (show i = 0 ∨ i = 1 ∨ i = 2 ∨ i = 3 ∨ i = 4 ∨ i = 5 ∨ i = 6 ∨ i = 7 ∨ i = 8 by omega) with rfl | rfl | rfl | rfl | rfl | rfl | rfl | rfl | rfl
    · rw [q0, hb]; apply congrArg; simp [cellC, kpC, q0, q1, q2, q3, q4, q5, q6, q7, q8]
    · rw [q1, ho0]; apply congrArg; simp [cellC, kpC, q0, q1, q2, q3, q4, q5, q6, q7, q8]
    · rw [q2, hwa]; apply congrArg; simp [cellC, kpC, q0, q1, q2, q3, q4, q5, q6, q7, q8]
    · rw [q3, ho4]; apply congrArg; simp [cellC, kpC, q0, q1, q2, q3, q4, q5, q6, q7, q8]
    · rw [q4, hra]; apply congrArg; simp [cellC, kpC, q0, q1, q2, q3, q4, q5, q6, q7, q8]
    · rw [q5, hkb]; apply congrArg; simp [cellC, kpC, q0, q1, q2, q3, q4, q5, q6, q7, q8]
    · rw [q6, hk1]; apply congrArg; simp [cellC, kpC, q0, q1, q2, q3, q4, q5, q6, q7, q8]
    · rw [q7, hk2]; apply congrArg; simp [cellC, kpC, q0, q1, q2, q3, q4, q5, q6, q7, q8]
    · rw [q8, hp1]; apply congrArg; simp [cellC, kpC, q0, q1, q2, q3, q4, q5, q6, q7, q8]
  have hnew : ∀ i, domC 2 0 i → 0 < i → w0 (qq i) = none := by
    intro i hi h0
    have h1 := hdom i hi
    rcases (show i = 1 ∨ i = 2 ∨ i = 3 ∨ i = 4 ∨ i = 5 ∨ i = 6 ∨ i = 7 ∨ i = 8 by omega) with rfl | rfl | rfl | rfl | rfl | rfl | rfl | rfl
    · rw [q1]; exact fro0
    · rw [q2]; exact frwa
    · rw [q3]; exact fro4
    · rw [q4]; exact frra
    · rw [q5]; exact frkb
    · rw [q6]; exact frk1
    · rw [q7]; exact frk2
    · rw [q8]; exact frp1
  exact mw_vret S hr hlk hK hG dX9_init_52 ⟨rfl, qq, q0, hnew, hcw, fun x hx => hfr x (fun z => hx 1 (Or.inl (by decide)) (by rw [q1]; exact z)) (fun z => hx 2 (Or.inl (by decide)) (by rw [q2]; exact z)) (fun z => hx 3 (Or.inl (by decide)) (by rw [q3]; exact z)) (fun z => hx 4 (Or.inl (by decide)) (by rw [q4]; exact z)) (fun z => hx 0 (Or.inl (by decide)) (by rw [q0]; exact z)) (fun z => hx 5 (Or.inl (by decide)) (by rw [q5]; exact z)) (fun z => hx 6 (Or.inl (by decide)) (by rw [q6]; exact z)) (fun z => hx 7 (Or.inl (by decide)) (by rw [q7]; exact z)) (fun z => hx 8 (Or.inr (Or.inl ⟨rfl, by decide⟩)) (by rw [q8]; exact z))⟩
