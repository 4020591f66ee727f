theorem cal_X3_init : mCal yX3_init cX3_init 3 2 none := ⟨in_101, by decide +kernel⟩
set_option maxHeartbeats 4000000 in
set_option maxRecDepth 100000 in
theorem i_part {l : Launch} {dC : Nat → ClassId} {dI : Nat → Nat → Nat} {cI cZ cT : ClassId} {w0 : mM}  (b a n : Nat) (hb : w0 b = some (.inr (2, [.int 0, .int 0]))) : mC l yX3_init (wsY yX3_init cX3_init 3 none) { frames := 1, cells := 0, slots := 0, locals := 12 } (dC, dI) vwCl (tyL cI cZ cT) 0 0 w0 [.ref (b), .int (nI (a)), .int (nI (n))] (fun v w2 => v = none ∧ w2 b = some (.inr (2, [.int (nI a), .int (nI (a + n))])) ∧ ∀ x, x ≠ b → w2 x = w0 x) := by
  refine mC.on (by decide) (Nat.le_of_ble_eq_true rfl) ?_
  intro p e s m args below meth c ls S hr hlk hnm hK hN hG hl
  have hl : lv_has ls 3 [(0, .ref (b)), (1, .int (nI (a))), (2, .int (nI (n)))] := hl
  generalize hAe : mA w0 s.heap.size = A at hG ⊢
  obtain ⟨w, hw0⟩ : ∃ z, z = w0 := ⟨_, rfl⟩
  rw [← hw0] at hG hb
  have hfr : ∀ x, w x = w0 x := fun x => by rw [hw0]
  refine lv_aload_n S.1 S.2.1 dX3_init_0 rfl (lv_at hl 0 rfl) ?_
  refine W.objInit S.1 S.2.1 S.2.2.2.1 (S.2.2.2.2 _ in_102) (S.2.2.2.2 _ in_14) (S.2.2.2.2 _ in_15) rfl (by rw [S.2.2.1]; exact hl.1) rfl dX3_init_1 (Nat.le_of_ble_eq_true rfl) (Nat.le_of_ble_eq_true rfl) ?_
  refine W.eq (g2 := F0 m 4 ls []) rfl ?_
  refine lv_aload_n S.1 S.2.1 dX3_init_4 rfl (lv_at hl 0 rfl) ?_
  refine lv_iload_n S.1 S.2.1 dX3_init_5 rfl (lv_at hl 1 rfl) ?_
  refine mn_put (v := .int (nI (a))) S inlX3 tyX3 tyX3_ok nmX3 hK hG hb rfl 0 (by decide) in_103 (fun _ h9 => h9) rfl (ty := .int) (by decide +kernel) rfl rfl (Nat.le_of_ble_eq_true rfl) dX3_init_6 (fun w H locs hb hf9 hG => ?_)
  have hb : w b = some (.inr (2, [.int (nI (a)), .int 0])) := hb
  have hfr : ∀ x, x ≠ b → w x = w0 x := fun x n0 => by rw [hf9 x n0]; exact hfr x
  refine lv_aload_n S.1 S.2.1 dX3_init_9 rfl (lv_at hl 0 rfl) ?_
  refine lv_iload_n S.1 S.2.1 dX3_init_10 rfl (lv_at hl 1 rfl) ?_
  refine lv_iload_n S.1 S.2.1 dX3_init_11 rfl (lv_at hl 2 rfl) ?_
  refine lv_iadd S.1 S.2.1 dX3_init_12 ?_
  refine lv_eqi (nI_add _ _) ?_
  refine mn_put (v := .int (nI (a + n))) S inlX3 tyX3 tyX3_ok nmX3 hK hG hb rfl 1 (by decide) in_104 (fun _ h9 => h9) rfl (ty := .int) (by decide +kernel) rfl rfl (Nat.le_of_ble_eq_true rfl) dX3_init_13 (fun w H locs hb hf9 hG => ?_)
  have hb : w b = some (.inr (2, [.int (nI (a)), .int (nI (a + n))])) := hb
  have hfr : ∀ x, x ≠ b → w x = w0 x := fun x n0 => by rw [hf9 x n0]; exact hfr x n0
  exact mw_vret S hr hlk hK hG dX3_init_16 ⟨rfl, hb, hfr⟩
theorem cal_X4_init : mCal yX4_init cX4_init 1 0 none := ⟨in_45, by decide +kernel⟩
set_option maxHeartbeats 4000000 in
set_option maxRecDepth 100000 in
theorem i_roots {l : Launch} {dC : Nat → ClassId} {dI : Nat → Nat → Nat} {cI cZ cT : ClassId} {w0 : mM}  (b : Nat) (hb : w0 b = some (.inr (3, [.null]))) : mC l yX4_init (wsY yX4_init cX4_init 1 none) { frames := 1, cells := 1, slots := 16, locals := 12 } (dC, dI) vwCl (tyL cI cZ cT) 1 16 w0 [.ref (b)] (fun v w2 => v = none ∧ ∃ a, w0 a = none ∧ w2 b = some (.inr (3, [.ref a])) ∧ w2 a = some (.inl (cT, 16, .inr (.inr (.inr (.inr (fun _ => none)))))) ∧ ∀ x, x ≠ a → x ≠ b → w2 x = w0 x) := by
  refine mC.on (by decide) (Nat.le_of_ble_eq_true rfl) ?_
  intro p e s m args below meth c ls S hr hlk hnm hK hN hG hl
  have hl : lv_has ls 1 [(0, .ref (b))] := hl
  generalize hAe : mA w0 s.heap.size = A at hG ⊢
  obtain ⟨w, hw0⟩ : ∃ z, z = w0 := ⟨_, rfl⟩
  rw [← hw0] at hG hb
  have hfr : ∀ x, w x = w0 x := fun x => by rw [hw0]
  refine lv_aload_n S.1 S.2.1 dX4_init_0 rfl (lv_at hl 0 rfl) ?_
  refine W.objInit S.1 S.2.1 S.2.2.2.1 (S.2.2.2.2 _ in_46) (S.2.2.2.2 _ in_14) (S.2.2.2.2 _ in_15) rfl (by rw [S.2.2.1]; exact hl.1) rfl dX4_init_1 (Nat.le_of_ble_eq_true rfl) (Nat.le_of_ble_eq_true rfl) ?_
  refine W.eq (g2 := F0 m 4 ls []) rfl ?_
  refine lv_aload_n S.1 S.2.1 dX4_init_4 rfl (lv_at hl 0 rfl) ?_
  refine lv_bipush (v := nI (16)) S.1 S.2.1 dX4_init_5 (by decide) ?_
  refine mn_newq S in_47 hN.1 hK hG 2 rfl (16) (nI_pos (by omega)) (nI_clamp (by omega)) (by omega) (by decide) (show 0 + 16 ≤ 16 by omega) dX4_init_7 (fun a0 w H hq9 ha0 hf9 hG => ?_)
  refine W.widen (k := 1) (n := 16) (by omega) (by omega) ?_
  have ne1 : a0 ≠ b := fun z => by rw [z, hb] at hq9; cases hq9
  have fra0 : w0 a0 = none := by rw [← hfr a0 ]; exact hq9
  have hb : w b = some (.inr (3, [.null])) := by rw [hf9 b (Ne.symm ne1)]; exact hb
  have hfr : ∀ x, x ≠ a0 → w x = w0 x := fun x n0 => by rw [hf9 x n0]; exact hfr x
  refine mn_putF (v := .ref (a0)) S inlX4 tyX4 tyX4_ok nmX4 hK hG hb rfl 0 (by decide) in_48 (fun _ h9 => h9) rfl hnm rfl (ty := .array (.object "KeptHeap$Thing")) (by decide +kernel) rfl rfl (Nat.le_of_ble_eq_true rfl) dX4_init_10 (fun w H locs hb hf9 hG => ?_)
  have hb : w b = some (.inr (3, [.ref (a0)])) := hb
  have ha0 : w a0 = some (.inl (cT, 16, .inr (.inr (.inr (.inr (fun _ => none)))))) := by rw [hf9 a0 ne1]; exact ha0
  have hfr : ∀ x, x ≠ a0 → x ≠ b → w x = w0 x := fun x n0 n1 => by rw [hf9 x n1]; exact hfr x n0
  refine W.widen (k := 1) (n := 16) (by decide) (by decide) ?_
  exact mw_vret S hr hlk hK hG dX4_init_13 ⟨rfl, a0, fra0, hb, ha0, hfr⟩
theorem cal_X8_init : mCal yX8_init cX8_init 2 1 none := ⟨in_38, by decide +kernel⟩
set_option maxHeartbeats 4000000 in
set_option maxRecDepth 100000 in
theorem i_words {l : Launch} {dC : Nat → ClassId} {dI : Nat → Nat → Nat} {cI cZ cT : ClassId} {w0 : mM}  (b n : Nat) (hn : n ≤ 400) (hb : w0 b = some (.inr (7, [.null]))) : mC l yX8_init (wsY yX8_init cX8_init 2 none) { frames := 1, cells := 1, slots := 400, locals := 21 } (dC, dI) vwCl (tyL cI cZ cT) 1 400 w0 [.ref (b), .int (nI (n))] (fun v w2 => v = none ∧ ∃ a, w0 a = none ∧ w2 b = some (.inr (7, [.ref a])) ∧ w2 a = some (.inl (cT, n, .inr (.inr (.inr (.inr (fun _ => none)))))) ∧ ∀ x, x ≠ a → x ≠ b → w2 x = w0 x) := by
  refine mC.on (by decide) (Nat.le_of_ble_eq_true rfl) ?_
  intro p e s m args below meth c ls S hr hlk hnm hK hN hG hl
  have hl : lv_has ls 2 [(0, .ref (b)), (1, .int (nI (n)))] := hl
  generalize hAe : mA w0 s.heap.size = A at hG ⊢
  obtain ⟨w, hw0⟩ : ∃ z, z = w0 := ⟨_, rfl⟩
  rw [← hw0] at hG hb
  have hfr : ∀ x, w x = w0 x := fun x => by rw [hw0]
  refine lv_aload_n S.1 S.2.1 dX8_init_0 rfl (lv_at hl 0 rfl) ?_
  refine W.objInit S.1 S.2.1 S.2.2.2.1 (S.2.2.2.2 _ in_39) (S.2.2.2.2 _ in_14) (S.2.2.2.2 _ in_15) rfl (by rw [S.2.2.1]; exact hl.1) rfl dX8_init_1 (Nat.le_of_ble_eq_true rfl) (Nat.le_of_ble_eq_true rfl) ?_
  refine W.eq (g2 := F0 m 4 ls []) rfl ?_
  refine lv_aload_n S.1 S.2.1 dX8_init_4 rfl (lv_at hl 0 rfl) ?_
  refine lv_iconst (v := nI (0)) S.1 S.2.1 dX8_init_5 (by decide) ?_
  refine lv_iload_n S.1 S.2.1 dX8_init_6 rfl (lv_at hl 1 rfl) ?_
  refine va_mmax S.1 S.2.1 (S.2.2.1.trans hl.1.symm) S.2.2.2.1 (S.2.2.2.2 _ in_40) (S.2.2.2.2 _ in_34) (S.2.2.2.2 _ in_31) (S.2.2.2.2 _ in_35) (by decide) (Nat.le_of_ble_eq_true rfl) (by decide) (by decide) dX8_init_7 ?_
  refine lv_eqi (y := nI (n)) (max0 (by omega)) ?_
  refine mn_newq S in_41 hN.1 hK hG 2 rfl (n) (nI_pos (by omega)) (nI_clamp (by omega)) (by omega) (by decide) (show 0 + n ≤ 400 by omega) dX8_init_10 (fun a0 w H hq9 ha0 hf9 hG => ?_)
  refine W.widen (k := 1) (n := 400) (by omega) (by omega) ?_
  have ne1 : a0 ≠ b := fun z => by rw [z, hb] at hq9; cases hq9
  have fra0 : w0 a0 = none := by rw [← hfr a0 ]; exact hq9
  have hb : w b = some (.inr (7, [.null])) := by rw [hf9 b (Ne.symm ne1)]; exact hb
  have hfr : ∀ x, x ≠ a0 → w x = w0 x := fun x n0 => by rw [hf9 x n0]; exact hfr x
  refine mn_putF (v := .ref (a0)) S inlX8 tyX8 tyX8_ok nmX8 hK hG hb rfl 0 (by decide) in_42 (fun _ h9 => h9) rfl hnm rfl (ty := .array (.object "KeptHeap$Thing")) (by decide +kernel) rfl rfl (Nat.le_of_ble_eq_true rfl) dX8_init_13 (fun w H locs hb hf9 hG => ?_)
  have hb : w b = some (.inr (7, [.ref (a0)])) := hb
  have ha0 : w a0 = some (.inl (cT, n, .inr (.inr (.inr (.inr (fun _ => none)))))) := by rw [hf9 a0 ne1]; exact ha0
  have hfr : ∀ x, x ≠ a0 → x ≠ b → w x = w0 x := fun x n0 n1 => by rw [hf9 x n1]; exact hfr x n0
  refine W.widen (k := 1) (n := 400) (by decide) (by decide) ?_
  exact mw_vret S hr hlk hK hG dX8_init_16 ⟨rfl, a0, fra0, hb, ha0, hfr⟩
theorem cal_X7_init : mCal yX7_init cX7_init 2 1 none := ⟨in_90, by decide +kernel⟩
set_option maxHeartbeats 4000000 in
set_option maxRecDepth 100000 in
theorem i_walk {l : Launch} {dC : Nat → ClassId} {dI : Nat → Nat → Nat} {cI cZ cT : ClassId} {w0 : mM}  (b n : Nat) (hn : n ≤ 400) (hb : w0 b = some (.inr (6, [.null, .int 0, .int 0, .int 0]))) : mC l yX7_init (wsY yX7_init cX7_init 2 none) { frames := 1, cells := 1, slots := 400, locals := 21 } (dC, dI) vwCl (tyL cI cZ cT) 1 400 w0 [.ref (b), .int (nI (n))] (fun v w2 => v = none ∧ ∃ a, w0 a = none ∧ w2 b = some (.inr (6, [.ref a, .int (nI 0), .int (nI 0), .int (nI 0)])) ∧ w2 a = some (.inl (cT, n, .inr (.inr (.inr (.inr (fun _ => none)))))) ∧ ∀ x, x ≠ a → x ≠ b → w2 x = w0 x) := by
  refine mC.on (by decide) (Nat.le_of_ble_eq_true rfl) ?_
  intro p e s m args below meth c ls S hr hlk hnm hK hN hG hl
  have hl : lv_has ls 2 [(0, .ref (b)), (1, .int (nI (n)))] := hl
  generalize hAe : mA w0 s.heap.size = A at hG ⊢
  obtain ⟨w, hw0⟩ : ∃ z, z = w0 := ⟨_, rfl⟩
  rw [← hw0] at hG hb
  have hfr : ∀ x, w x = w0 x := fun x => by rw [hw0]
  refine lv_aload_n S.1 S.2.1 dX7_init_0 rfl (lv_at hl 0 rfl) ?_
  refine W.objInit S.1 S.2.1 S.2.2.2.1 (S.2.2.2.2 _ in_91) (S.2.2.2.2 _ in_14) (S.2.2.2.2 _ in_15) rfl (by rw [S.2.2.1]; exact hl.1) rfl dX7_init_1 (Nat.le_of_ble_eq_true rfl) (Nat.le_of_ble_eq_true rfl) ?_
  refine W.eq (g2 := F0 m 4 ls []) rfl ?_
  refine lv_aload_n S.1 S.2.1 dX7_init_4 rfl (lv_at hl 0 rfl) ?_
  refine lv_iconst (v := nI (0)) S.1 S.2.1 dX7_init_5 (by decide) ?_
  refine lv_iload_n S.1 S.2.1 dX7_init_6 rfl (lv_at hl 1 rfl) ?_
  refine va_mmax S.1 S.2.1 (S.2.2.1.trans hl.1.symm) S.2.2.2.1 (S.2.2.2.2 _ in_92) (S.2.2.2.2 _ in_34) (S.2.2.2.2 _ in_31) (S.2.2.2.2 _ in_35) (by decide) (Nat.le_of_ble_eq_true rfl) (by decide) (by decide) dX7_init_7 ?_
  refine lv_eqi (y := nI (n)) (max0 (by omega)) ?_
  refine mn_newq S in_93 hN.1 hK hG 2 rfl (n) (nI_pos (by omega)) (nI_clamp (by omega)) (by omega) (by decide) (show 0 + n ≤ 400 by omega) dX7_init_10 (fun a0 w H hq9 ha0 hf9 hG => ?_)
  refine W.widen (k := 1) (n := 400) (by omega) (by omega) ?_
  have ne1 : a0 ≠ b := fun z => by rw [z, hb] at hq9; cases hq9
  have fra0 : w0 a0 = none := by rw [← hfr a0 ]; exact hq9
  have hb : w b = some (.inr (6, [.null, .int 0, .int 0, .int 0])) := by rw [hf9 b (Ne.symm ne1)]; exact hb
  have hfr : ∀ x, x ≠ a0 → w x = w0 x := fun x n0 => by rw [hf9 x n0]; exact hfr x
  refine mn_putF (v := .ref (a0)) S inlX7 tyX7 tyX7_ok nmX7 hK hG hb rfl 0 (by decide) in_94 (fun _ h9 => h9) rfl hnm rfl (ty := .array (.object "KeptHeap$Thing")) (by decide +kernel) rfl rfl (Nat.le_of_ble_eq_true rfl) dX7_init_13 (fun w H locs hb hf9 hG => ?_)
  have hb : w b = some (.inr (6, [.ref (a0), .int 0, .int 0, .int 0])) := hb
  have ha0 : w a0 = some (.inl (cT, n, .inr (.inr (.inr (.inr (fun _ => none)))))) := by rw [hf9 a0 ne1]; exact ha0
  have hfr : ∀ x, x ≠ a0 → x ≠ b → w x = w0 x := fun x n0 n1 => by rw [hf9 x n1]; exact hfr x n0
  refine lv_aload_n S.1 S.2.1 dX7_init_16 rfl (lv_at hl 0 rfl) ?_
  refine lv_iconst (v := nI (0)) S.1 S.2.1 dX7_init_17 (by decide) ?_
  refine mn_put (v := .int (nI (0))) S inlX7 tyX7 tyX7_ok nmX7 hK hG hb rfl 1 (by decide) in_95 (fun _ h9 => h9) rfl (ty := .int) (by decide +kernel) rfl rfl (Nat.le_of_ble_eq_true rfl) dX7_init_18 (fun w H locs hb hf9 hG => ?_)
  have hb : w b = some (.inr (6, [.ref (a0), .int (nI (0)), .int 0, .int 0])) := hb
  have ha0 : w a0 = some (.inl (cT, n, .inr (.inr (.inr (.inr (fun _ => none)))))) := by rw [hf9 a0 ne1]; exact ha0
  have hfr : ∀ x, x ≠ a0 → x ≠ b → w x = w0 x := fun x n0 n1 => by rw [hf9 x n1]; exact hfr x n0 n1
  refine lv_aload_n S.1 S.2.1 dX7_init_21 rfl (lv_at hl 0 rfl) ?_
  refine lv_iconst (v := nI (0)) S.1 S.2.1 dX7_init_22 (by decide) ?_
  refine mn_put (v := .int (nI (0))) S inlX7 tyX7 tyX7_ok nmX7 hK hG hb rfl 2 (by decide) in_96 (fun _ h9 => h9) rfl (ty := .int) (by decide +kernel) rfl rfl (Nat.le_of_ble_eq_true rfl) dX7_init_23 (fun w H locs hb hf9 hG => ?_)
  have hb : w b = some (.inr (6, [.ref (a0), .int (nI (0)), .int (nI (0)), .int 0])) := hb
  have ha0 : w a0 = some (.inl (cT, n, .inr (.inr (.inr (.inr (fun _ => none)))))) := by rw [hf9 a0 ne1]; exact ha0
  have hfr : ∀ x, x ≠ a0 → x ≠ b → w x = w0 x := fun x n0 n1 => by rw [hf9 x n1]; exact hfr x n0 n1
  refine lv_aload_n S.1 S.2.1 dX7_init_26 rfl (lv_at hl 0 rfl) ?_
  refine lv_iconst (v := nI (0)) S.1 S.2.1 dX7_init_27 (by decide) ?_
  refine mn_put (v := .int (nI (0))) S inlX7 tyX7 tyX7_ok nmX7 hK hG hb rfl 3 (by decide) in_97 (fun _ h9 => h9) rfl (ty := .int) (by decide +kernel) rfl rfl (Nat.le_of_ble_eq_true rfl) dX7_init_28 (fun w H locs hb hf9 hG => ?_)
  have hb : w b = some (.inr (6, [.ref (a0), .int (nI (0)), .int (nI (0)), .int (nI (0))])) := hb
  have ha0 : w a0 = some (.inl (cT, n, .inr (.inr (.inr (.inr (fun _ => none)))))) := by rw [hf9 a0 ne1]; exact ha0
  have hfr : ∀ x, x ≠ a0 → x ≠ b → w x = w0 x := fun x n0 n1 => by rw [hf9 x n1]; exact hfr x n0 n1
  refine W.widen (k := 1) (n := 400) (by decide) (by decide) ?_
  exact mw_vret S hr hlk hK hG dX7_init_31 ⟨rfl, a0, fra0, hb, ha0, hfr⟩
theorem cal_X6_init : mCal yX6_init cX6_init 4 2 none := ⟨in_360, by decide +kernel⟩
set_option maxHeartbeats 4000000 in
set_option maxRecDepth 100000 in
theorem i_thing {l : Launch} {dC : Nat → ClassId} {dI : Nat → Nat → Nat} {cI cZ cT : ClassId} {w0 : mM}  (b k n : Nat) (hn : n ≤ 6) (hb : w0 b = some (.inr (5, [.int 0, .null, .null, .int 0, .int 0, .int 0, .int 0, .int 0]))) : mC l yX6_init (wsY yX6_init cX6_init 4 none) { frames := 1, cells := 2, slots := 12, locals := 21 } (dC, dI) vwCl (tyL cI cZ cT) 2 12 w0 [.ref (b), .int (nI (k)), .int (nI (n))] (fun v w2 => v = none ∧ ∃ a1 a2, w0 a1 = none ∧ w0 a2 = none ∧ a2 ≠ a1 ∧ w2 b = some (.inr (5, [.int (nI k), .ref a1, .ref a2, .int (nI 0), .int (bI false), .int (nI 0), .int (nI 0), .int (nI 0)])) ∧ w2 a1 = some (.inl (cI, n, .inl (fun _ => 0))) ∧ w2 a2 = some (.inl (cT, n, .inr (.inr (.inr (.inr (fun _ => none)))))) ∧ ∀ x, x ≠ b → x ≠ a1 → x ≠ a2 → w2 x = w0 x) := by
  refine mC.on (by decide) (Nat.le_of_ble_eq_true rfl) ?_
  intro p e s m args below meth c ls S hr hlk hnm hK hN hG hl
  have hl : lv_has ls 4 [(0, .ref (b)), (1, .int (nI (k))), (2, .int (nI (n)))] := hl
  generalize hAe : mA w0 s.heap.size = A at hG ⊢
  obtain ⟨w, hw0⟩ : ∃ z, z = w0 := ⟨_, rfl⟩
  rw [← hw0] at hG hb
  have hfr : ∀ x, w x = w0 x := fun x => by rw [hw0]
  refine lv_aload_n S.1 S.2.1 dX6_init_0 rfl (lv_at hl 0 rfl) ?_
  refine W.objInit S.1 S.2.1 S.2.2.2.1 (S.2.2.2.2 _ in_361) (S.2.2.2.2 _ in_14) (S.2.2.2.2 _ in_15) rfl (by rw [S.2.2.1]; exact hl.1) rfl dX6_init_1 (Nat.le_of_ble_eq_true rfl) (Nat.le_of_ble_eq_true rfl) ?_
  refine W.eq (g2 := F0 m 4 ls []) rfl ?_
  refine lv_iconst (v := nI (0)) S.1 S.2.1 dX6_init_4 (by decide) ?_
  refine lv_iload_n S.1 S.2.1 dX6_init_5 rfl (lv_at hl 2 rfl) ?_
  refine va_mmax S.1 S.2.1 (S.2.2.1.trans hl.1.symm) S.2.2.2.1 (S.2.2.2.2 _ in_362) (S.2.2.2.2 _ in_34) (S.2.2.2.2 _ in_31) (S.2.2.2.2 _ in_35) (by decide) (Nat.le_of_ble_eq_true rfl) (by decide) (by decide) dX6_init_6 ?_
  refine lv_eqi (y := nI (n)) (max0 (by omega)) ?_
  refine lv_istore_n (lv' := [(3, .int (nI (n))), (0, .ref (b)), (1, .int (nI (k))), (2, .int (nI (n)))]) S.1 S.2.1 dX6_init_9 rfl hl (by decide) rfl (fun ls hl => ?_)
  refine lv_aload_n S.1 S.2.1 dX6_init_10 rfl (lv_at hl 1 rfl) ?_
  refine lv_iload_n S.1 S.2.1 dX6_init_11 rfl (lv_at hl 2 rfl) ?_
  refine mn_putF (v := .int (nI (k))) S inlX6 tyX6 tyX6_ok nmX6 hK hG hb rfl 0 (by decide) in_363 (fun _ h9 => h9) rfl hnm rfl (ty := .int) (by decide +kernel) rfl rfl (Nat.le_of_ble_eq_true rfl) dX6_init_12 (fun w H locs hb hf9 hG => ?_)
  have hb : w b = some (.inr (5, [.int (nI (k)), .null, .null, .int 0, .int 0, .int 0, .int 0, .int 0])) := hb
  have hfr : ∀ x, x ≠ b → w x = w0 x := fun x n0 => by rw [hf9 x n0]; exact hfr x
  refine lv_aload_n S.1 S.2.1 dX6_init_15 rfl (lv_at hl 1 rfl) ?_
  refine lv_iload_n S.1 S.2.1 dX6_init_16 rfl (lv_at hl 0 rfl) ?_
  refine mn_newi S in_122 hK hG 0 rfl (n) (nI_pos (by omega)) (nI_clamp (by omega)) (by omega) (by decide) (show 0 + n ≤ 12 by omega) dX6_init_17 (fun a0 w H hq9 ha0 hf9 hG => ?_)
  refine W.widen (k := 1) (n := 6) (by omega) (by omega) ?_
  have ne1 : a0 ≠ b := fun z => by rw [z, hb] at hq9; cases hq9
  have fra0 : w0 a0 = none := by rw [← hfr a0 ne1]; exact hq9
  have hb : w b = some (.inr (5, [.int (nI (k)), .null, .null, .int 0, .int 0, .int 0, .int 0, .int 0])) := by rw [hf9 b (Ne.symm ne1)]; exact hb
  have hfr : ∀ x, x ≠ b → x ≠ a0 → w x = w0 x := fun x n0 n1 => by rw [hf9 x n1]; exact hfr x n0
  refine mn_putF (v := .ref (a0)) S inlX6 tyX6 tyX6_ok nmX6 hK hG hb rfl 1 (by decide) in_229 (fun _ h9 => h9) rfl hnm rfl (ty := .array (.int)) (by decide +kernel) rfl rfl (Nat.le_of_ble_eq_true rfl) dX6_init_19 (fun w H locs hb hf9 hG => ?_)
  have hb : w b = some (.inr (5, [.int (nI (k)), .ref (a0), .null, .int 0, .int 0, .int 0, .int 0, .int 0])) := hb
  have ha0 : w a0 = some (.inl (cI, n, .inl (fun _ => 0))) := by rw [hf9 a0 ne1]; exact ha0
  have hfr : ∀ x, x ≠ b → x ≠ a0 → w x = w0 x := fun x n0 n1 => by rw [hf9 x n0]; exact hfr x n0 n1
  refine lv_aload_n S.1 S.2.1 dX6_init_22 rfl (lv_at hl 1 rfl) ?_
  refine lv_iload_n S.1 S.2.1 dX6_init_23 rfl (lv_at hl 0 rfl) ?_
  refine mn_newq S in_364 hN.1 hK hG 2 rfl (n) (nI_pos (by omega)) (nI_clamp (by omega)) (by omega) (by decide) (show 6 + n ≤ 12 by omega) dX6_init_24 (fun a2 w H hq9 ha2 hf9 hG => ?_)
  refine W.widen (k := 2) (n := 12) (by omega) (by omega) ?_
  have ne3 : a2 ≠ b := fun z => by rw [z, hb] at hq9; cases hq9
  have ne4 : a2 ≠ a0 := fun z => by rw [z, ha0] at hq9; cases hq9
  have fra2 : w0 a2 = none := by rw [← hfr a2 ne3 ne4]; exact hq9
  have hb : w b = some (.inr (5, [.int (nI (k)), .ref (a0), .null, .int 0, .int 0, .int 0, .int 0, .int 0])) := by rw [hf9 b (Ne.symm ne3)]; exact hb
  have ha0 : w a0 = some (.inl (cI, n, .inl (fun _ => 0))) := by rw [hf9 a0 (Ne.symm ne4)]; exact ha0
  have hfr : ∀ x, x ≠ b → x ≠ a0 → x ≠ a2 → w x = w0 x := fun x n0 n1 n2 => by rw [hf9 x n2]; exact hfr x n0 n1
  refine mn_putF (v := .ref (a2)) S inlX6 tyX6 tyX6_ok nmX6 hK hG hb rfl 2 (by decide) in_234 (fun _ h9 => h9) rfl hnm rfl (ty := .array (.object "KeptHeap$Thing")) (by decide +kernel) rfl rfl (Nat.le_of_ble_eq_true rfl) dX6_init_27 (fun w H locs hb hf9 hG => ?_)
  have hb : w b = some (.inr (5, [.int (nI (k)), .ref (a0), .ref (a2), .int 0, .int 0, .int 0, .int 0, .int 0])) := hb
  have ha0 : w a0 = some (.inl (cI, n, .inl (fun _ => 0))) := by rw [hf9 a0 ne1]; exact ha0
  have ha2 : w a2 = some (.inl (cT, n, .inr (.inr (.inr (.inr (fun _ => none)))))) := by rw [hf9 a2 ne3]; exact ha2
  have hfr : ∀ x, x ≠ b → x ≠ a0 → x ≠ a2 → w x = w0 x := fun x n0 n1 n2 => by rw [hf9 x n0]; exact hfr x n0 n1 n2
  refine lv_aload_n S.1 S.2.1 dX6_init_30 rfl (lv_at hl 1 rfl) ?_
  refine lv_iconst (v := nI (0)) S.1 S.2.1 dX6_init_31 (by decide) ?_
  refine mn_put (v := .int (nI (0))) S inlX6 tyX6 tyX6_ok nmX6 hK hG hb rfl 3 (by decide) in_365 (fun _ h9 => h9) rfl (ty := .int) (by decide +kernel) rfl rfl (Nat.le_of_ble_eq_true rfl) dX6_init_32 (fun w H locs hb hf9 hG => ?_)
  have hb : w b = some (.inr (5, [.int (nI (k)), .ref (a0), .ref (a2), .int (nI (0)), .int 0, .int 0, .int 0, .int 0])) := hb
  have ha0 : w a0 = some (.inl (cI, n, .inl (fun _ => 0))) := by rw [hf9 a0 ne1]; exact ha0
  have ha2 : w a2 = some (.inl (cT, n, .inr (.inr (.inr (.inr (fun _ => none)))))) := by rw [hf9 a2 ne3]; exact ha2
  have hfr : ∀ x, x ≠ b → x ≠ a0 → x ≠ a2 → w x = w0 x := fun x n0 n1 n2 => by rw [hf9 x n0]; exact hfr x n0 n1 n2
  refine lv_aload_n S.1 S.2.1 dX6_init_35 rfl (lv_at hl 1 rfl) ?_
  refine lv_iconst (v := bI false) S.1 S.2.1 dX6_init_36 (by decide) ?_
  refine mn_put (v := .int (bI (false))) S inlX6 tyX6 tyX6_ok nmX6 hK hG hb rfl 4 (by decide) in_366 (fun _ h9 => h9) rfl (ty := .boolean) (by decide +kernel) (bI_nar _) (bI_fit _) (Nat.le_of_ble_eq_true rfl) dX6_init_37 (fun w H locs hb hf9 hG => ?_)
  have hb : w b = some (.inr (5, [.int (nI (k)), .ref (a0), .ref (a2), .int (nI (0)), .int (bI (false)), .int 0, .int 0, .int 0])) := hb
  have ha0 : w a0 = some (.inl (cI, n, .inl (fun _ => 0))) := by rw [hf9 a0 ne1]; exact ha0
  have ha2 : w a2 = some (.inl (cT, n, .inr (.inr (.inr (.inr (fun _ => none)))))) := by rw [hf9 a2 ne3]; exact ha2
  have hfr : ∀ x, x ≠ b → x ≠ a0 → x ≠ a2 → w x = w0 x := fun x n0 n1 n2 => by rw [hf9 x n0]; exact hfr x n0 n1 n2
  refine lv_aload_n S.1 S.2.1 dX6_init_40 rfl (lv_at hl 1 rfl) ?_
  refine lv_iconst (v := nI (0)) S.1 S.2.1 dX6_init_41 (by decide) ?_
  refine mn_put (v := .int (nI (0))) S inlX6 tyX6 tyX6_ok nmX6 hK hG hb rfl 5 (by decide) in_367 (fun _ h9 => h9) rfl (ty := .int) (by decide +kernel) rfl rfl (Nat.le_of_ble_eq_true rfl) dX6_init_42 (fun w H locs hb hf9 hG => ?_)
  have hb : w b = some (.inr (5, [.int (nI (k)), .ref (a0), .ref (a2), .int (nI (0)), .int (bI (false)), .int (nI (0)), .int 0, .int 0])) := hb
  have ha0 : w a0 = some (.inl (cI, n, .inl (fun _ => 0))) := by rw [hf9 a0 ne1]; exact ha0
  have ha2 : w a2 = some (.inl (cT, n, .inr (.inr (.inr (.inr (fun _ => none)))))) := by rw [hf9 a2 ne3]; exact ha2
  have hfr : ∀ x, x ≠ b → x ≠ a0 → x ≠ a2 → w x = w0 x := fun x n0 n1 n2 => by rw [hf9 x n0]; exact hfr x n0 n1 n2
  refine lv_aload_n S.1 S.2.1 dX6_init_45 rfl (lv_at hl 1 rfl) ?_
  refine lv_iconst (v := nI (0)) S.1 S.2.1 dX6_init_46 (by decide) ?_
  refine mn_put (v := .int (nI (0))) S inlX6 tyX6 tyX6_ok nmX6 hK hG hb rfl 6 (by decide) in_368 (fun _ h9 => h9) rfl (ty := .int) (by decide +kernel) rfl rfl (Nat.le_of_ble_eq_true rfl) dX6_init_47 (fun w H locs hb hf9 hG => ?_)
  have hb : w b = some (.inr (5, [.int (nI (k)), .ref (a0), .ref (a2), .int (nI (0)), .int (bI (false)), .int (nI (0)), .int (nI (0)), .int 0])) := hb
  have ha0 : w a0 = some (.inl (cI, n, .inl (fun _ => 0))) := by rw [hf9 a0 ne1]; exact ha0
  have ha2 : w a2 = some (.inl (cT, n, .inr (.inr (.inr (.inr (fun _ => none)))))) := by rw [hf9 a2 ne3]; exact ha2
  have hfr : ∀ x, x ≠ b → x ≠ a0 → x ≠ a2 → w x = w0 x := fun x n0 n1 n2 => by rw [hf9 x n0]; exact hfr x n0 n1 n2
  refine lv_aload_n S.1 S.2.1 dX6_init_50 rfl (lv_at hl 1 rfl) ?_
  refine lv_iconst (v := nI (0)) S.1 S.2.1 dX6_init_51 (by decide) ?_
  refine mn_put (v := .int (nI (0))) S inlX6 tyX6 tyX6_ok nmX6 hK hG hb rfl 7 (by decide) in_369 (fun _ h9 => h9) rfl (ty := .int) (by decide +kernel) rfl rfl (Nat.le_of_ble_eq_true rfl) dX6_init_52 (fun w H locs hb hf9 hG => ?_)
  have hb : w b = some (.inr (5, [.int (nI (k)), .ref (a0), .ref (a2), .int (nI (0)), .int (bI (false)), .int (nI (0)), .int (nI (0)), .int (nI (0))])) := hb
  have ha0 : w a0 = some (.inl (cI, n, .inl (fun _ => 0))) := by rw [hf9 a0 ne1]; exact ha0
  have ha2 : w a2 = some (.inl (cT, n, .inr (.inr (.inr (.inr (fun _ => none)))))) := by rw [hf9 a2 ne3]; exact ha2
  have hfr : ∀ x, x ≠ b → x ≠ a0 → x ≠ a2 → w x = w0 x := fun x n0 n1 n2 => by rw [hf9 x n0]; exact hfr x n0 n1 n2
  refine W.widen (k := 2) (n := 12) (by decide) (by decide) ?_
  exact mw_vret S hr hlk hK hG dX6_init_55 ⟨rfl, a0, a2, fra0, fra2, ne4, hb, ha0, ha2, hfr⟩
