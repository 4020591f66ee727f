set_option maxHeartbeats 4000000 in
set_option maxRecDepth 100000 in
theorem i_length {l : Launch} {dC : Nat → ClassId} {dI : Nat → Nat → Nat} {cI cZ cT : ClassId} {w0 : mM}  (b a n : Nat) (hb : w0 b = some (.inr (7, [.ref a]))) (ha : w0 a = some (.inl (cT, n, .inr (.inr (.inr (.inr (fun _ => none))))))) : mC l yX8_length (wsY yX8_length cX8_length 1 (some .int)) { frames := 0, cells := 0, slots := 0, locals := 0 } (dC, dI) vwCl (tyL cI cZ cT) 0 0 w0 [.ref (b)] (fun v w2 => v = some (.int (nI n)) ∧ w2 = w0) := by
  refine mC.on (by decide) (Nat.le_of_ble_eq_true rfl) ?_
  intro p e s m args below meth c ls S hr hlk hnm hK hN hG hl
  have hl : lv_has ls 1 [(0, .ref (b))] := hl
  generalize hAe : mA w0 s.heap.size = A at hG ⊢
  obtain ⟨w, hw0⟩ : ∃ z, z = w0 := ⟨_, rfl⟩
  rw [← hw0] at hG hb ha
  have hfr : ∀ x, w x = w0 x := fun x => by rw [hw0]
  refine lv_aload_n S.1 S.2.1 dX8_length_0 rfl (lv_at hl 0 rfl) ?_
  refine mw_get (v := .ref a) S inlX8 hK hG hb rfl 0 (by decide) in_42 (fun _ h9 => h9) rfl dX8_length_1 ?_
  refine mw_alen S hK hG 2 ha rfl dX8_length_4 ?_
  exact mw_iret S hr hlk hK hG dX8_length_5 ⟨rfl, hw0⟩
theorem cal_X2_init : mCal yX2_init cX2_init 3 2 none := ⟨in_73, by decide +kernel⟩
set_option maxHeartbeats 4000000 in
set_option maxRecDepth 100000 in
theorem i_keeper5 {l : Launch} {dC : Nat → ClassId} {dI : Nat → Nat → Nat} {cI cZ cT : ClassId} {w0 : mM}  (b rb : Nat) (hb : w0 b = some (.inr (4, [.null, .null, .null, .int 0, .int 0, .int 0]))) (wb wa n : Nat) (hn : n ≤ 400) (hwb : w0 wb = some (.inr (7, [.ref wa]))) (hwa : w0 wa = some (.inl (cT, n, .inr (.inr (.inr (.inr (fun _ => none))))))) : mC l yX2_init (wsY yX2_init cX2_init 3 none) { frames := 2, cells := 2, slots := 404, locals := 42 } (dC, dI) vwCl (tyL cI cZ cT) 2 404 w0 [.ref (b), .ref (wb), .ref (rb)] (fun v w2 => v = none ∧ ∃ k1 k2, w0 k1 = none ∧ w0 k2 = none ∧ k2 ≠ k1 ∧ w2 b = some (.inr (4, [.ref wb, .ref rb, .ref k1, .int (nI 0), .int (nI 0), .int (nI 0)])) ∧ w2 k1 = some (.inr (6, [.ref k2, .int (nI 0), .int (nI 0), .int (nI 0)])) ∧ w2 k2 = some (.inl (cT, n, .inr (.inr (.inr (.inr (fun _ => none)))))) ∧ ∀ x, x ≠ b → x ≠ k1 → x ≠ k2 → w2 x = w0 x) := by
  refine mC.on (by decide) (Nat.le_of_ble_eq_true rfl) ?_
  intro p e s m args below meth c ls S hr hlk hnm hK hN hG hl
  have hl : lv_has ls 3 [(0, .ref (b)), (1, .ref (wb)), (2, .ref (rb))] := hl
  generalize hAe : mA w0 s.heap.size = A at hG ⊢
  obtain ⟨w, hw0⟩ : ∃ z, z = w0 := ⟨_, rfl⟩
  rw [← hw0] at hG hb hwb hwa
  have hfr : ∀ x, w x = w0 x := fun x => by rw [hw0]
  have nbw : b ≠ wb := fun z => by rw [z, hwb] at hb; cases hb
  have nba : b ≠ wa := fun z => by rw [z, hwa] at hb; cases hb
  have nwa : wb ≠ wa := fun z => by rw [z, hwa] at hwb; cases hwb
  refine lv_aload_n S.1 S.2.1 dX2_init_0 rfl (lv_at hl 0 rfl) ?_
  refine W.objInit S.1 S.2.1 S.2.2.2.1 (S.2.2.2.2 _ in_74) (S.2.2.2.2 _ in_14) (S.2.2.2.2 _ in_15) rfl (by rw [S.2.2.1]; exact hl.1) rfl dX2_init_1 (Nat.le_of_ble_eq_true rfl) (Nat.le_of_ble_eq_true rfl) ?_
  refine W.eq (g2 := F0 m 4 ls []) rfl ?_
  refine lv_aload_n S.1 S.2.1 dX2_init_4 rfl (lv_at hl 0 rfl) ?_
  refine lv_aload_n S.1 S.2.1 dX2_init_5 rfl (lv_at hl 1 rfl) ?_
  refine mn_putF (v := .ref (wb)) S inlX5 tyX5 tyX5_ok nmX5 hK hG hb rfl 0 (by decide) in_75 (fun _ h9 => h9) rfl hnm rfl (ty := .object "KeptHeap$Words") (by decide +kernel) rfl rfl (Nat.le_of_ble_eq_true rfl) dX2_init_6 (fun w H locs hb hf9 hG => ?_)
  have hb : w b = some (.inr (4, [.ref (wb), .null, .null, .int 0, .int 0, .int 0])) := hb
  have hwb : w wb = some (.inr (7, [.ref wa])) := by rw [hf9 wb (Ne.symm nbw)]; exact hwb
  have hwa : w wa = some (.inl (cT, n, .inr (.inr (.inr (.inr (fun _ => none)))))) := by rw [hf9 wa (Ne.symm nba)]; exact hwa
  have hfr : ∀ x, x ≠ b → w x = w0 x := fun x n0 => by rw [hf9 x n0]; exact hfr x
  refine lv_aload_n S.1 S.2.1 dX2_init_9 rfl (lv_at hl 0 rfl) ?_
  refine lv_aload_n S.1 S.2.1 dX2_init_10 rfl (lv_at hl 2 rfl) ?_
  refine mn_putF (v := .ref (rb)) S inlX5 tyX5 tyX5_ok nmX5 hK hG hb rfl 1 (by decide) in_76 (fun _ h9 => h9) rfl hnm rfl (ty := .object "KeptHeap$Roots") (by decide +kernel) rfl rfl (Nat.le_of_ble_eq_true rfl) dX2_init_11 (fun w H locs hb hf9 hG => ?_)
  have hb : w b = some (.inr (4, [.ref (wb), .ref (rb), .null, .int 0, .int 0, .int 0])) := hb
  have hwb : w wb = some (.inr (7, [.ref wa])) := by rw [hf9 wb (Ne.symm nbw)]; exact hwb
  have hwa : w wa = some (.inl (cT, n, .inr (.inr (.inr (.inr (fun _ => none)))))) := by rw [hf9 wa (Ne.symm nba)]; exact hwa
  have hfr : ∀ x, x ≠ b → w x = w0 x := fun x n0 => by rw [hf9 x n0]; exact hfr x n0
  refine lv_aload_n S.1 S.2.1 dX2_init_14 rfl (lv_at hl 0 rfl) ?_
  refine mn_new (fs := [.null, .int 0, .int 0, .int 0]) (C := RX7) (T := TX7) (N := 4) (ci := 6) S inlX7 tyX7 tyX7_ok in_77 in_78 in_79 hK hG rfl (fun j hj => by rcases (show j = 0 ∨ j = 1 ∨ j = 2 ∨ j = 3 by omega) with rfl | rfl | rfl | rfl <;> rfl) (by decide) (show 0 + 4 ≤ 404 by decide) dX2_init_15 (fun o0 w H hq9 ho0 hf9 hG => ?_)
  refine W.widen (k := 1) (n := 4) (by decide) (by decide) ?_
  have ne1 : o0 ≠ b := fun z => by rw [z, hb] at hq9; cases hq9
  have ne2 : o0 ≠ wb := fun z => by rw [z, hwb] at hq9; cases hq9
  have ne3 : o0 ≠ wa := fun z => by rw [z, hwa] at hq9; cases hq9
  have fro0 : w0 o0 = none := by rw [← hfr o0 ne1]; exact hq9
  have hb : w b = some (.inr (4, [.ref (wb), .ref (rb), .null, .int 0, .int 0, .int 0])) := by rw [hf9 b (Ne.symm ne1)]; exact hb
  have hwb : w wb = some (.inr (7, [.ref wa])) := by rw [hf9 wb (Ne.symm ne2)]; exact hwb
  have hwa : w wa = some (.inl (cT, n, .inr (.inr (.inr (.inr (fun _ => none)))))) := by rw [hf9 wa (Ne.symm ne3)]; exact hwa
  have hfr : ∀ x, x ≠ b → x ≠ o0 → w x = w0 x := fun x n0 n1 => by rw [hf9 x n1]; exact hfr x n0
  refine lv_dup S.1 S.2.1 dX2_init_18 rfl ?_
  refine lv_aload_n S.1 S.2.1 dX2_init_19 rfl (lv_at hl 1 rfl) ?_
  refine mCV (As := []) (rest := [.ref (o0), .ref (o0), .ref (b)]) S (i_length wb wa n hwb hwa) cal_X8_length in_84 in_85 in_86 in_18 hK hN hG hwb rfl rfl rfl hl.1 (Nat.le_of_ble_eq_true rfl) ⟨by decide, by decide⟩ ⟨rfl, rfl⟩ ⟨by decide, by decide⟩ dX2_init_20 (fun v w H locs hp hG => ?_)
  obtain ⟨rfl, hw9⟩ := hp
  have hw9 := hw9.symm
  subst hw9
  refine W.eq (g2 := F0 m 23 ls [.int (nI (n)), .ref (o0), .ref (o0), .ref (b)]) rfl ?_
  have hold := ho0
  refine mCI (As := [.int (nI (n))]) (rest := [.ref (o0), .ref (b)]) S (i_walk o0 n hn ho0) cal_X7_init rfl in_88 in_89 in_79 hK hN hG rfl rfl hl.1 (Nat.le_of_ble_eq_true rfl) ⟨by decide, by decide⟩ ⟨rfl, rfl⟩ ⟨by decide, by decide⟩ dX2_init_23 (fun v w H locs hp hG => ?_)
  obtain ⟨rfl, k2, fq_k2, ho0, hk2, hf8⟩ := hp
  have ne4 : k2 ≠ b := fun z => by rw [z, hb] at fq_k2; cases fq_k2
  have ne5 : k2 ≠ wb := fun z => by rw [z, hwb] at fq_k2; cases fq_k2
  have ne6 : k2 ≠ wa := fun z => by rw [z, hwa] at fq_k2; cases fq_k2
  have ne7 : k2 ≠ o0 := fun z => by rw [z, hold] at fq_k2; cases fq_k2
  have hb : w b = some (.inr (4, [.ref (wb), .ref (rb), .null, .int 0, .int 0, .int 0])) := by rw [hf8 b (Ne.symm ne4) (Ne.symm ne1)]; exact hb
  have hwb : w wb = some (.inr (7, [.ref wa])) := by rw [hf8 wb (Ne.symm ne5) (Ne.symm ne2)]; exact hwb
  have hwa : w wa = some (.inl (cT, n, .inr (.inr (.inr (.inr (fun _ => none)))))) := by rw [hf8 wa (Ne.symm ne6) (Ne.symm ne3)]; exact hwa
  have frk2 : w0 k2 = none := by rw [← hfr k2 ne4 ne7]; exact fq_k2
  have hfr : ∀ x, x ≠ b → x ≠ o0 → x ≠ k2 → w x = w0 x := fun x n0 n1 n2 => by rw [hf8 x n2 n1]; exact hfr x n0 n1
  refine W.eq (g2 := F0 m 26 ls [.ref (o0), .ref (b)]) rfl ?_
  refine W.widen (k := 2) (n := 404) (by decide) (by decide) ?_
  refine mn_putF (v := .ref (o0)) S inlX5 tyX5 tyX5_ok nmX5 hK hG hb rfl 2 (by decide) in_80 (fun _ h9 => h9) rfl hnm rfl (ty := .object "KeptHeap$Walk") (by decide +kernel) rfl rfl (Nat.le_of_ble_eq_true rfl) dX2_init_26 (fun w H locs hb hf9 hG => ?_)
  have hb : w b = some (.inr (4, [.ref (wb), .ref (rb), .ref (o0), .int 0, .int 0, .int 0])) := hb
  have hwb : w wb = some (.inr (7, [.ref wa])) := by rw [hf9 wb (Ne.symm nbw)]; exact hwb
  have hwa : w wa = some (.inl (cT, n, .inr (.inr (.inr (.inr (fun _ => none)))))) := by rw [hf9 wa (Ne.symm nba)]; exact hwa
  have ho0 : w o0 = some (.inr (6, [.ref k2, .int (nI 0), .int (nI 0), .int (nI 0)])) := by rw [hf9 o0 ne1]; exact ho0
  have hk2 : w k2 = some (.inl (cT, n, .inr (.inr (.inr (.inr (fun _ => none)))))) := by rw [hf9 k2 ne4]; exact hk2
  have hfr : ∀ x, x ≠ b → x ≠ o0 → x ≠ k2 → w x = w0 x := fun x n0 n1 n2 => by rw [hf9 x n0]; exact hfr x n0 n1 n2
  refine lv_aload_n S.1 S.2.1 dX2_init_29 rfl (lv_at hl 0 rfl) ?_
  refine lv_iconst (v := nI (0)) S.1 S.2.1 dX2_init_30 (by decide) ?_
  refine mn_put (v := .int (nI (0))) S inlX5 tyX5 tyX5_ok nmX5 hK hG hb rfl 3 (by decide) in_81 (fun _ h9 => h9) rfl (ty := .int) (by decide +kernel) rfl rfl (Nat.le_of_ble_eq_true rfl) dX2_init_31 (fun w H locs hb hf9 hG => ?_)
  have hb : w b = some (.inr (4, [.ref (wb), .ref (rb), .ref (o0), .int (nI (0)), .int 0, .int 0])) := hb
  have hwb : w wb = some (.inr (7, [.ref wa])) := by rw [hf9 wb (Ne.symm nbw)]; exact hwb
  have hwa : w wa = some (.inl (cT, n, .inr (.inr (.inr (.inr (fun _ => none)))))) := by rw [hf9 wa (Ne.symm nba)]; exact hwa
  have ho0 : w o0 = some (.inr (6, [.ref k2, .int (nI 0), .int (nI 0), .int (nI 0)])) := by rw [hf9 o0 ne1]; exact ho0
  have hk2 : w k2 = some (.inl (cT, n, .inr (.inr (.inr (.inr (fun _ => none)))))) := by rw [hf9 k2 ne4]; exact hk2
  have hfr : ∀ x, x ≠ b → x ≠ o0 → x ≠ k2 → w x = w0 x := fun x n0 n1 n2 => by rw [hf9 x n0]; exact hfr x n0 n1 n2
  refine lv_aload_n S.1 S.2.1 dX2_init_34 rfl (lv_at hl 0 rfl) ?_
  refine lv_iconst (v := nI (0)) S.1 S.2.1 dX2_init_35 (by decide) ?_
  refine mn_put (v := .int (nI (0))) S inlX5 tyX5 tyX5_ok nmX5 hK hG hb rfl 4 (by decide) in_82 (fun _ h9 => h9) rfl (ty := .int) (by decide +kernel) rfl rfl (Nat.le_of_ble_eq_true rfl) dX2_init_36 (fun w H locs hb hf9 hG => ?_)
  have hb : w b = some (.inr (4, [.ref (wb), .ref (rb), .ref (o0), .int (nI (0)), .int (nI (0)), .int 0])) := hb
  have hwb : w wb = some (.inr (7, [.ref wa])) := by rw [hf9 wb (Ne.symm nbw)]; exact hwb
  have hwa : w wa = some (.inl (cT, n, .inr (.inr (.inr (.inr (fun _ => none)))))) := by rw [hf9 wa (Ne.symm nba)]; exact hwa
  have ho0 : w o0 = some (.inr (6, [.ref k2, .int (nI 0), .int (nI 0), .int (nI 0)])) := by rw [hf9 o0 ne1]; exact ho0
  have hk2 : w k2 = some (.inl (cT, n, .inr (.inr (.inr (.inr (fun _ => none)))))) := by rw [hf9 k2 ne4]; exact hk2
  have hfr : ∀ x, x ≠ b → x ≠ o0 → x ≠ k2 → w x = w0 x := fun x n0 n1 n2 => by rw [hf9 x n0]; exact hfr x n0 n1 n2
  refine lv_aload_n S.1 S.2.1 dX2_init_39 rfl (lv_at hl 0 rfl) ?_
  refine lv_iconst (v := nI (0)) S.1 S.2.1 dX2_init_40 (by decide) ?_
  refine mn_put (v := .int (nI (0))) S inlX5 tyX5 tyX5_ok nmX5 hK hG hb rfl 5 (by decide) in_83 (fun _ h9 => h9) rfl (ty := .int) (by decide +kernel) rfl rfl (Nat.le_of_ble_eq_true rfl) dX2_init_41 (fun w H locs hb hf9 hG => ?_)
  have hb : w b = some (.inr (4, [.ref (wb), .ref (rb), .ref (o0), .int (nI (0)), .int (nI (0)), .int (nI (0))])) := hb
  have hwb : w wb = some (.inr (7, [.ref wa])) := by rw [hf9 wb (Ne.symm nbw)]; exact hwb
  have hwa : w wa = some (.inl (cT, n, .inr (.inr (.inr (.inr (fun _ => none)))))) := by rw [hf9 wa (Ne.symm nba)]; exact hwa
  have ho0 : w o0 = some (.inr (6, [.ref k2, .int (nI 0), .int (nI 0), .int (nI 0)])) := by rw [hf9 o0 ne1]; exact ho0
  have hk2 : w k2 = some (.inl (cT, n, .inr (.inr (.inr (.inr (fun _ => none)))))) := by rw [hf9 k2 ne4]; exact hk2
  have hfr : ∀ x, x ≠ b → x ≠ o0 → x ≠ k2 → w x = w0 x := fun x n0 n1 n2 => by rw [hf9 x n0]; exact hfr x n0 n1 n2
  exact mw_vret S hr hlk hK hG dX2_init_44 ⟨rfl, o0, k2, fro0, frk2, ne7, hb, ho0, hk2, fun x n1 n2 n3 => hfr x n1 n2 n3⟩
set_option maxHeartbeats 4000000 in
set_option maxRecDepth 100000 in
theorem i_keeper1 {l : Launch} {dC : Nat → ClassId} {dI : Nat → Nat → Nat} {cI cZ cT : ClassId} {w0 : mM}  (b rb : Nat) (hb : w0 b = some (.inr (1, [.null, .null, .null, .int 0, .int 0, .int 0, .int 0, .null, .int 0]))) (wb wa n : Nat) (hn : n ≤ 400) (hwb : w0 wb = some (.inr (7, [.ref wa]))) (hwa : w0 wa = some (.inl (cT, n, .inr (.inr (.inr (.inr (fun _ => none))))))) : mC l yX2_init (wsY yX2_init cX2_init 3 none) { frames := 2, cells := 2, slots := 404, locals := 42 } (dC, dI) vwCl (tyL cI cZ cT) 2 404 w0 [.ref (b), .ref (wb), .ref (rb)] (fun v w2 => v = none ∧ ∃ k1 k2, w0 k1 = none ∧ w0 k2 = none ∧ k2 ≠ k1 ∧ w2 b = some (.inr (1, [.ref wb, .ref rb, .ref k1, .int (nI 0), .int (nI 0), .int (nI 0), .int 0, .null, .int 0])) ∧ w2 k1 = some (.inr (6, [.ref k2, .int (nI 0), .int (nI 0), .int (nI 0)])) ∧ w2 k2 = some (.inl (cT, n, .inr (.inr (.inr (.inr (fun _ => none)))))) ∧ ∀ x, x ≠ b → x ≠ k1 → x ≠ k2 → w2 x = w0 x) := by
  refine mC.on (by decide) (Nat.le_of_ble_eq_true rfl) ?_
  intro p e s m args below meth c ls S hr hlk hnm hK hN hG hl
  have hl : lv_has ls 3 [(0, .ref (b)), (1, .ref (wb)), (2, .ref (rb))] := hl
  generalize hAe : mA w0 s.heap.size = A at hG ⊢
  obtain ⟨w, hw0⟩ : ∃ z, z = w0 := ⟨_, rfl⟩
  rw [← hw0] at hG hb hwb hwa
  have hfr : ∀ x, w x = w0 x := fun x => by rw [hw0]
  have nbw : b ≠ wb := fun z => by rw [z, hwb] at hb; cases hb
  have nba : b ≠ wa := fun z => by rw [z, hwa] at hb; cases hb
  have nwa : wb ≠ wa := fun z => by rw [z, hwa] at hwb; cases hwb
  refine lv_aload_n S.1 S.2.1 dX2_init_0 rfl (lv_at hl 0 rfl) ?_
  refine W.objInit S.1 S.2.1 S.2.2.2.1 (S.2.2.2.2 _ in_74) (S.2.2.2.2 _ in_14) (S.2.2.2.2 _ in_15) rfl (by rw [S.2.2.1]; exact hl.1) rfl dX2_init_1 (Nat.le_of_ble_eq_true rfl) (Nat.le_of_ble_eq_true rfl) ?_
  refine W.eq (g2 := F0 m 4 ls []) rfl ?_
  refine lv_aload_n S.1 S.2.1 dX2_init_4 rfl (lv_at hl 0 rfl) ?_
  refine lv_aload_n S.1 S.2.1 dX2_init_5 rfl (lv_at hl 1 rfl) ?_
  refine mn_putF (v := .ref (wb)) S inlX1 tyX1 tyX1_ok nmX1 hK hG hb rfl 0 (by decide) in_75 (fun _ h9 => h9) rfl hnm rfl (ty := .object "KeptHeap$Words") (by decide +kernel) rfl rfl (Nat.le_of_ble_eq_true rfl) dX2_init_6 (fun w H locs hb hf9 hG => ?_)
  have hb : w b = some (.inr (1, [.ref (wb), .null, .null, .int 0, .int 0, .int 0, .int 0, .null, .int 0])) := hb
  have hwb : w wb = some (.inr (7, [.ref wa])) := by rw [hf9 wb (Ne.symm nbw)]; exact hwb
  have hwa : w wa = some (.inl (cT, n, .inr (.inr (.inr (.inr (fun _ => none)))))) := by rw [hf9 wa (Ne.symm nba)]; exact hwa
  have hfr : ∀ x, x ≠ b → w x = w0 x := fun x n0 => by rw [hf9 x n0]; exact hfr x
  refine lv_aload_n S.1 S.2.1 dX2_init_9 rfl (lv_at hl 0 rfl) ?_
  refine lv_aload_n S.1 S.2.1 dX2_init_10 rfl (lv_at hl 2 rfl) ?_
  refine mn_putF (v := .ref (rb)) S inlX1 tyX1 tyX1_ok nmX1 hK hG hb rfl 1 (by decide) in_76 (fun _ h9 => h9) rfl hnm rfl (ty := .object "KeptHeap$Roots") (by decide +kernel) rfl rfl (Nat.le_of_ble_eq_true rfl) dX2_init_11 (fun w H locs hb hf9 hG => ?_)
  have hb : w b = some (.inr (1, [.ref (wb), .ref (rb), .null, .int 0, .int 0, .int 0, .int 0, .null, .int 0])) := hb
  have hwb : w wb = some (.inr (7, [.ref wa])) := by rw [hf9 wb (Ne.symm nbw)]; exact hwb
  have hwa : w wa = some (.inl (cT, n, .inr (.inr (.inr (.inr (fun _ => none)))))) := by rw [hf9 wa (Ne.symm nba)]; exact hwa
  have hfr : ∀ x, x ≠ b → w x = w0 x := fun x n0 => by rw [hf9 x n0]; exact hfr x n0
  refine lv_aload_n S.1 S.2.1 dX2_init_14 rfl (lv_at hl 0 rfl) ?_
  refine mn_new (fs := [.null, .int 0, .int 0, .int 0]) (C := RX7) (T := TX7) (N := 4) (ci := 6) S inlX7 tyX7 tyX7_ok in_77 in_78 in_79 hK hG rfl (fun j hj => by rcases (show j = 0 ∨ j = 1 ∨ j = 2 ∨ j = 3 by omega) with rfl | rfl | rfl | rfl <;> rfl) (by decide) (show 0 + 4 ≤ 404 by decide) dX2_init_15 (fun o0 w H hq9 ho0 hf9 hG => ?_)
  refine W.widen (k := 1) (n := 4) (by decide) (by decide) ?_
  have ne1 : o0 ≠ b := fun z => by rw [z, hb] at hq9; cases hq9
  have ne2 : o0 ≠ wb := fun z => by rw [z, hwb] at hq9; cases hq9
  have ne3 : o0 ≠ wa := fun z => by rw [z, hwa] at hq9; cases hq9
  have fro0 : w0 o0 = none := by rw [← hfr o0 ne1]; exact hq9
  have hb : w b = some (.inr (1, [.ref (wb), .ref (rb), .null, .int 0, .int 0, .int 0, .int 0, .null, .int 0])) := by rw [hf9 b (Ne.symm ne1)]; exact hb
  have hwb : w wb = some (.inr (7, [.ref wa])) := by rw [hf9 wb (Ne.symm ne2)]; exact hwb
  have hwa : w wa = some (.inl (cT, n, .inr (.inr (.inr (.inr (fun _ => none)))))) := by rw [hf9 wa (Ne.symm ne3)]; exact hwa
  have hfr : ∀ x, x ≠ b → x ≠ o0 → w x = w0 x := fun x n0 n1 => by rw [hf9 x n1]; exact hfr x n0
  refine lv_dup S.1 S.2.1 dX2_init_18 rfl ?_
  refine lv_aload_n S.1 S.2.1 dX2_init_19 rfl (lv_at hl 1 rfl) ?_
  refine mCV (As := []) (rest := [.ref (o0), .ref (o0), .ref (b)]) S (i_length wb wa n hwb hwa) cal_X8_length in_84 in_85 in_86 in_18 hK hN hG hwb rfl rfl rfl hl.1 (Nat.le_of_ble_eq_true rfl) ⟨by decide, by decide⟩ ⟨rfl, rfl⟩ ⟨by decide, by decide⟩ dX2_init_20 (fun v w H locs hp hG => ?_)
  obtain ⟨rfl, hw9⟩ := hp
  have hw9 := hw9.symm
  subst hw9
  refine W.eq (g2 := F0 m 23 ls [.int (nI (n)), .ref (o0), .ref (o0), .ref (b)]) rfl ?_
  have hold := ho0
  refine mCI (As := [.int (nI (n))]) (rest := [.ref (o0), .ref (b)]) S (i_walk o0 n hn ho0) cal_X7_init rfl in_88 in_89 in_79 hK hN hG rfl rfl hl.1 (Nat.le_of_ble_eq_true rfl) ⟨by decide, by decide⟩ ⟨rfl, rfl⟩ ⟨by decide, by decide⟩ dX2_init_23 (fun v w H locs hp hG => ?_)
  obtain ⟨rfl, k2, fq_k2, ho0, hk2, hf8⟩ := hp
  have ne4 : k2 ≠ b := fun z => by rw [z, hb] at fq_k2; cases fq_k2
  have ne5 : k2 ≠ wb := fun z => by rw [z, hwb] at fq_k2; cases fq_k2
  have ne6 : k2 ≠ wa := fun z => by rw [z, hwa] at fq_k2; cases fq_k2
  have ne7 : k2 ≠ o0 := fun z => by rw [z, hold] at fq_k2; cases fq_k2
  have hb : w b = some (.inr (1, [.ref (wb), .ref (rb), .null, .int 0, .int 0, .int 0, .int 0, .null, .int 0])) := by rw [hf8 b (Ne.symm ne4) (Ne.symm ne1)]; exact hb
  have hwb : w wb = some (.inr (7, [.ref wa])) := by rw [hf8 wb (Ne.symm ne5) (Ne.symm ne2)]; exact hwb
  have hwa : w wa = some (.inl (cT, n, .inr (.inr (.inr (.inr (fun _ => none)))))) := by rw [hf8 wa (Ne.symm ne6) (Ne.symm ne3)]; exact hwa
  have frk2 : w0 k2 = none := by rw [← hfr k2 ne4 ne7]; exact fq_k2
  have hfr : ∀ x, x ≠ b → x ≠ o0 → x ≠ k2 → w x = w0 x := fun x n0 n1 n2 => by rw [hf8 x n2 n1]; exact hfr x n0 n1
  refine W.eq (g2 := F0 m 26 ls [.ref (o0), .ref (b)]) rfl ?_
  refine W.widen (k := 2) (n := 404) (by decide) (by decide) ?_
  refine mn_putF (v := .ref (o0)) S inlX1 tyX1 tyX1_ok nmX1 hK hG hb rfl 2 (by decide) in_80 (fun _ h9 => h9) rfl hnm rfl (ty := .object "KeptHeap$Walk") (by decide +kernel) rfl rfl (Nat.le_of_ble_eq_true rfl) dX2_init_26 (fun w H locs hb hf9 hG => ?_)
  have hb : w b = some (.inr (1, [.ref (wb), .ref (rb), .ref (o0), .int 0, .int 0, .int 0, .int 0, .null, .int 0])) := hb
  have hwb : w wb = some (.inr (7, [.ref wa])) := by rw [hf9 wb (Ne.symm nbw)]; exact hwb
  have hwa : w wa = some (.inl (cT, n, .inr (.inr (.inr (.inr (fun _ => none)))))) := by rw [hf9 wa (Ne.symm nba)]; exact hwa
  have ho0 : w o0 = some (.inr (6, [.ref k2, .int (nI 0), .int (nI 0), .int (nI 0)])) := by rw [hf9 o0 ne1]; exact ho0
  have hk2 : w k2 = some (.inl (cT, n, .inr (.inr (.inr (.inr (fun _ => none)))))) := by rw [hf9 k2 ne4]; exact hk2
  have hfr : ∀ x, x ≠ b → x ≠ o0 → x ≠ k2 → w x = w0 x := fun x n0 n1 n2 => by rw [hf9 x n0]; exact hfr x n0 n1 n2
  refine lv_aload_n S.1 S.2.1 dX2_init_29 rfl (lv_at hl 0 rfl) ?_
  refine lv_iconst (v := nI (0)) S.1 S.2.1 dX2_init_30 (by decide) ?_
  refine mn_put (v := .int (nI (0))) S inlX1 tyX1 tyX1_ok nmX1 hK hG hb rfl 3 (by decide) in_81 (fun _ h9 => h9) rfl (ty := .int) (by decide +kernel) rfl rfl (Nat.le_of_ble_eq_true rfl) dX2_init_31 (fun w H locs hb hf9 hG => ?_)
  have hb : w b = some (.inr (1, [.ref (wb), .ref (rb), .ref (o0), .int (nI (0)), .int 0, .int 0, .int 0, .null, .int 0])) := hb
  have hwb : w wb = some (.inr (7, [.ref wa])) := by rw [hf9 wb (Ne.symm nbw)]; exact hwb
  have hwa : w wa = some (.inl (cT, n, .inr (.inr (.inr (.inr (fun _ => none)))))) := by rw [hf9 wa (Ne.symm nba)]; exact hwa
  have ho0 : w o0 = some (.inr (6, [.ref k2, .int (nI 0), .int (nI 0), .int (nI 0)])) := by rw [hf9 o0 ne1]; exact ho0
  have hk2 : w k2 = some (.inl (cT, n, .inr (.inr (.inr (.inr (fun _ => none)))))) := by rw [hf9 k2 ne4]; exact hk2
  have hfr : ∀ x, x ≠ b → x ≠ o0 → x ≠ k2 → w x = w0 x := fun x n0 n1 n2 => by rw [hf9 x n0]; exact hfr x n0 n1 n2
  refine lv_aload_n S.1 S.2.1 dX2_init_34 rfl (lv_at hl 0 rfl) ?_
  refine lv_iconst (v := nI (0)) S.1 S.2.1 dX2_init_35 (by decide) ?_
  refine mn_put (v := .int (nI (0))) S inlX1 tyX1 tyX1_ok nmX1 hK hG hb rfl 4 (by decide) in_82 (fun _ h9 => h9) rfl (ty := .int) (by decide +kernel) rfl rfl (Nat.le_of_ble_eq_true rfl) dX2_init_36 (fun w H locs hb hf9 hG => ?_)
  have hb : w b = some (.inr (1, [.ref (wb), .ref (rb), .ref (o0), .int (nI (0)), .int (nI (0)), .int 0, .int 0, .null, .int 0])) := hb
  have hwb : w wb = some (.inr (7, [.ref wa])) := by rw [hf9 wb (Ne.symm nbw)]; exact hwb
  have hwa : w wa = some (.inl (cT, n, .inr (.inr (.inr (.inr (fun _ => none)))))) := by rw [hf9 wa (Ne.symm nba)]; exact hwa
  have ho0 : w o0 = some (.inr (6, [.ref k2, .int (nI 0), .int (nI 0), .int (nI 0)])) := by rw [hf9 o0 ne1]; exact ho0
  have hk2 : w k2 = some (.inl (cT, n, .inr (.inr (.inr (.inr (fun _ => none)))))) := by rw [hf9 k2 ne4]; exact hk2
  have hfr : ∀ x, x ≠ b → x ≠ o0 → x ≠ k2 → w x = w0 x := fun x n0 n1 n2 => by rw [hf9 x n0]; exact hfr x n0 n1 n2
  refine lv_aload_n S.1 S.2.1 dX2_init_39 rfl (lv_at hl 0 rfl) ?_
  refine lv_iconst (v := nI (0)) S.1 S.2.1 dX2_init_40 (by decide) ?_
  refine mn_put (v := .int (nI (0))) S inlX1 tyX1 tyX1_ok nmX1 hK hG hb rfl 5 (by decide) in_83 (fun _ h9 => h9) rfl (ty := .int) (by decide +kernel) rfl rfl (Nat.le_of_ble_eq_true rfl) dX2_init_41 (fun w H locs hb hf9 hG => ?_)
  have hb : w b = some (.inr (1, [.ref (wb), .ref (rb), .ref (o0), .int (nI (0)), .int (nI (0)), .int (nI (0)), .int 0, .null, .int 0])) := hb
  have hwb : w wb = some (.inr (7, [.ref wa])) := by rw [hf9 wb (Ne.symm nbw)]; exact hwb
  have hwa : w wa = some (.inl (cT, n, .inr (.inr (.inr (.inr (fun _ => none)))))) := by rw [hf9 wa (Ne.symm nba)]; exact hwa
  have ho0 : w o0 = some (.inr (6, [.ref k2, .int (nI 0), .int (nI 0), .int (nI 0)])) := by rw [hf9 o0 ne1]; exact ho0
  have hk2 : w k2 = some (.inl (cT, n, .inr (.inr (.inr (.inr (fun _ => none)))))) := by rw [hf9 k2 ne4]; exact hk2
  have hfr : ∀ x, x ≠ b → x ≠ o0 → x ≠ k2 → w x = w0 x := fun x n0 n1 n2 => by rw [hf9 x n0]; exact hfr x n0 n1 n2
  exact mw_vret S hr hlk hK hG dX2_init_44 ⟨rfl, o0, k2, fro0, frk2, ne7, hb, ho0, hk2, fun x n1 n2 n3 => hfr x n1 n2 n3⟩
set_option maxHeartbeats 4000000 in
set_option maxRecDepth 100000 in
theorem i_keeper0 {l : Launch} {dC : Nat → ClassId} {dI : Nat → Nat → Nat} {cI cZ cT : ClassId} {w0 : mM}  (b rb : Nat) (hb : w0 b = some (.inr (0, [.null, .null, .null, .int 0, .int 0, .int 0, .int 0, .null]))) (wb wa n : Nat) (hn : n ≤ 400) (hwb : w0 wb = some (.inr (7, [.ref wa]))) (hwa : w0 wa = some (.inl (cT, n, .inr (.inr (.inr (.inr (fun _ => none))))))) : mC l yX2_init (wsY yX2_init cX2_init 3 none) { frames := 2, cells := 2, slots := 404, locals := 42 } (dC, dI) vwCl (tyL cI cZ cT) 2 404 w0 [.ref (b), .ref (wb), .ref (rb)] (fun v w2 => v = none ∧ ∃ k1 k2, w0 k1 = none ∧ w0 k2 = none ∧ k2 ≠ k1 ∧ w2 b = some (.inr (0, [.ref wb, .ref rb, .ref k1, .int (nI 0), .int (nI 0), .int (nI 0), .int 0, .null])) ∧ w2 k1 = some (.inr (6, [.ref k2, .int (nI 0), .int (nI 0), .int (nI 0)])) ∧ w2 k2 = some (.inl (cT, n, .inr (.inr (.inr (.inr (fun _ => none)))))) ∧ ∀ x, x ≠ b → x ≠ k1 → x ≠ k2 → w2 x = w0 x) := by
  refine mC.on (by decide) (Nat.le_of_ble_eq_true rfl) ?_
  intro p e s m args below meth c ls S hr hlk hnm hK hN hG hl
  have hl : lv_has ls 3 [(0, .ref (b)), (1, .ref (wb)), (2, .ref (rb))] := hl
  generalize hAe : mA w0 s.heap.size = A at hG ⊢
  obtain ⟨w, hw0⟩ : ∃ z, z = w0 := ⟨_, rfl⟩
  rw [← hw0] at hG hb hwb hwa
  have hfr : ∀ x, w x = w0 x := fun x => by rw [hw0]
  have nbw : b ≠ wb := fun z => by rw [z, hwb] at hb; cases hb
  have nba : b ≠ wa := fun z => by rw [z, hwa] at hb; cases hb
  have nwa : wb ≠ wa := fun z => by rw [z, hwa] at hwb; cases hwb
  refine lv_aload_n S.1 S.2.1 dX2_init_0 rfl (lv_at hl 0 rfl) ?_
  refine W.objInit S.1 S.2.1 S.2.2.2.1 (S.2.2.2.2 _ in_74) (S.2.2.2.2 _ in_14) (S.2.2.2.2 _ in_15) rfl (by rw [S.2.2.1]; exact hl.1) rfl dX2_init_1 (Nat.le_of_ble_eq_true rfl) (Nat.le_of_ble_eq_true rfl) ?_
  refine W.eq (g2 := F0 m 4 ls []) rfl ?_
  refine lv_aload_n S.1 S.2.1 dX2_init_4 rfl (lv_at hl 0 rfl) ?_
  refine lv_aload_n S.1 S.2.1 dX2_init_5 rfl (lv_at hl 1 rfl) ?_
  refine mn_putF (v := .ref (wb)) S inlX0 tyX0 tyX0_ok nmX0 hK hG hb rfl 0 (by decide) in_75 (fun _ h9 => h9) rfl hnm rfl (ty := .object "KeptHeap$Words") (by decide +kernel) rfl rfl (Nat.le_of_ble_eq_true rfl) dX2_init_6 (fun w H locs hb hf9 hG => ?_)
  have hb : w b = some (.inr (0, [.ref (wb), .null, .null, .int 0, .int 0, .int 0, .int 0, .null])) := hb
  have hwb : w wb = some (.inr (7, [.ref wa])) := by rw [hf9 wb (Ne.symm nbw)]; exact hwb
  have hwa : w wa = some (.inl (cT, n, .inr (.inr (.inr (.inr (fun _ => none)))))) := by rw [hf9 wa (Ne.symm nba)]; exact hwa
  have hfr : ∀ x, x ≠ b → w x = w0 x := fun x n0 => by rw [hf9 x n0]; exact hfr x
  refine lv_aload_n S.1 S.2.1 dX2_init_9 rfl (lv_at hl 0 rfl) ?_
  refine lv_aload_n S.1 S.2.1 dX2_init_10 rfl (lv_at hl 2 rfl) ?_
  refine mn_putF (v := .ref (rb)) S inlX0 tyX0 tyX0_ok nmX0 hK hG hb rfl 1 (by decide) in_76 (fun _ h9 => h9) rfl hnm rfl (ty := .object "KeptHeap$Roots") (by decide +kernel) rfl rfl (Nat.le_of_ble_eq_true rfl) dX2_init_11 (fun w H locs hb hf9 hG => ?_)
  have hb : w b = some (.inr (0, [.ref (wb), .ref (rb), .null, .int 0, .int 0, .int 0, .int 0, .null])) := hb
  have hwb : w wb = some (.inr (7, [.ref wa])) := by rw [hf9 wb (Ne.symm nbw)]; exact hwb
  have hwa : w wa = some (.inl (cT, n, .inr (.inr (.inr (.inr (fun _ => none)))))) := by rw [hf9 wa (Ne.symm nba)]; exact hwa
  have hfr : ∀ x, x ≠ b → w x = w0 x := fun x n0 => by rw [hf9 x n0]; exact hfr x n0
  refine lv_aload_n S.1 S.2.1 dX2_init_14 rfl (lv_at hl 0 rfl) ?_
  refine mn_new (fs := [.null, .int 0, .int 0, .int 0]) (C := RX7) (T := TX7) (N := 4) (ci := 6) S inlX7 tyX7 tyX7_ok in_77 in_78 in_79 hK hG rfl (fun j hj => by rcases (show j = 0 ∨ j = 1 ∨ j = 2 ∨ j = 3 by omega) with rfl | rfl | rfl | rfl <;> rfl) (by decide) (show 0 + 4 ≤ 404 by decide) dX2_init_15 (fun o0 w H hq9 ho0 hf9 hG => ?_)
  refine W.widen (k := 1) (n := 4) (by decide) (by decide) ?_
  have ne1 : o0 ≠ b := fun z => by rw [z, hb] at hq9; cases hq9
  have ne2 : o0 ≠ wb := fun z => by rw [z, hwb] at hq9; cases hq9
  have ne3 : o0 ≠ wa := fun z => by rw [z, hwa] at hq9; cases hq9
  have fro0 : w0 o0 = none := by rw [← hfr o0 ne1]; exact hq9
  have hb : w b = some (.inr (0, [.ref (wb), .ref (rb), .null, .int 0, .int 0, .int 0, .int 0, .null])) := by rw [hf9 b (Ne.symm ne1)]; exact hb
  have hwb : w wb = some (.inr (7, [.ref wa])) := by rw [hf9 wb (Ne.symm ne2)]; exact hwb
  have hwa : w wa = some (.inl (cT, n, .inr (.inr (.inr (.inr (fun _ => none)))))) := by rw [hf9 wa (Ne.symm ne3)]; exact hwa
  have hfr : ∀ x, x ≠ b → x ≠ o0 → w x = w0 x := fun x n0 n1 => by rw [hf9 x n1]; exact hfr x n0
  refine lv_dup S.1 S.2.1 dX2_init_18 rfl ?_
  refine lv_aload_n S.1 S.2.1 dX2_init_19 rfl (lv_at hl 1 rfl) ?_
  refine mCV (As := []) (rest := [.ref (o0), .ref (o0), .ref (b)]) S (i_length wb wa n hwb hwa) cal_X8_length in_84 in_85 in_86 in_18 hK hN hG hwb rfl rfl rfl hl.1 (Nat.le_of_ble_eq_true rfl) ⟨by decide, by decide⟩ ⟨rfl, rfl⟩ ⟨by decide, by decide⟩ dX2_init_20 (fun v w H locs hp hG => ?_)
  obtain ⟨rfl, hw9⟩ := hp
  have hw9 := hw9.symm
  subst hw9
  refine W.eq (g2 := F0 m 23 ls [.int (nI (n)), .ref (o0), .ref (o0), .ref (b)]) rfl ?_
  have hold := ho0
  refine mCI (As := [.int (nI (n))]) (rest := [.ref (o0), .ref (b)]) S (i_walk o0 n hn ho0) cal_X7_init rfl in_88 in_89 in_79 hK hN hG rfl rfl hl.1 (Nat.le_of_ble_eq_true rfl) ⟨by decide, by decide⟩ ⟨rfl, rfl⟩ ⟨by decide, by decide⟩ dX2_init_23 (fun v w H locs hp hG => ?_)
  obtain ⟨rfl, k2, fq_k2, ho0, hk2, hf8⟩ := hp
  have ne4 : k2 ≠ b := fun z => by rw [z, hb] at fq_k2; cases fq_k2
  have ne5 : k2 ≠ wb := fun z => by rw [z, hwb] at fq_k2; cases fq_k2
  have ne6 : k2 ≠ wa := fun z => by rw [z, hwa] at fq_k2; cases fq_k2
  have ne7 : k2 ≠ o0 := fun z => by rw [z, hold] at fq_k2; cases fq_k2
  have hb : w b = some (.inr (0, [.ref (wb), .ref (rb), .null, .int 0, .int 0, .int 0, .int 0, .null])) := by rw [hf8 b (Ne.symm ne4) (Ne.symm ne1)]; exact hb
  have hwb : w wb = some (.inr (7, [.ref wa])) := by rw [hf8 wb (Ne.symm ne5) (Ne.symm ne2)]; exact hwb
  have hwa : w wa = some (.inl (cT, n, .inr (.inr (.inr (.inr (fun _ => none)))))) := by rw [hf8 wa (Ne.symm ne6) (Ne.symm ne3)]; exact hwa
  have frk2 : w0 k2 = none := by rw [← hfr k2 ne4 ne7]; exact fq_k2
  have hfr : ∀ x, x ≠ b → x ≠ o0 → x ≠ k2 → w x = w0 x := fun x n0 n1 n2 => by rw [hf8 x n2 n1]; exact hfr x n0 n1
  refine W.eq (g2 := F0 m 26 ls [.ref (o0), .ref (b)]) rfl ?_
  refine W.widen (k := 2) (n := 404) (by decide) (by decide) ?_
  refine mn_putF (v := .ref (o0)) S inlX0 tyX0 tyX0_ok nmX0 hK hG hb rfl 2 (by decide) in_80 (fun _ h9 => h9) rfl hnm rfl (ty := .object "KeptHeap$Walk") (by decide +kernel) rfl rfl (Nat.le_of_ble_eq_true rfl) dX2_init_26 (fun w H locs hb hf9 hG => ?_)
  have hb : w b = some (.inr (0, [.ref (wb), .ref (rb), .ref (o0), .int 0, .int 0, .int 0, .int 0, .null])) := hb
  have hwb : w wb = some (.inr (7, [.ref wa])) := by rw [hf9 wb (Ne.symm nbw)]; exact hwb
  have hwa : w wa = some (.inl (cT, n, .inr (.inr (.inr (.inr (fun _ => none)))))) := by rw [hf9 wa (Ne.symm nba)]; exact hwa
  have ho0 : w o0 = some (.inr (6, [.ref k2, .int (nI 0), .int (nI 0), .int (nI 0)])) := by rw [hf9 o0 ne1]; exact ho0
  have hk2 : w k2 = some (.inl (cT, n, .inr (.inr (.inr (.inr (fun _ => none)))))) := by rw [hf9 k2 ne4]; exact hk2
  have hfr : ∀ x, x ≠ b → x ≠ o0 → x ≠ k2 → w x = w0 x := fun x n0 n1 n2 => by rw [hf9 x n0]; exact hfr x n0 n1 n2
  refine lv_aload_n S.1 S.2.1 dX2_init_29 rfl (lv_at hl 0 rfl) ?_
  refine lv_iconst (v := nI (0)) S.1 S.2.1 dX2_init_30 (by decide) ?_
  refine mn_put (v := .int (nI (0))) S inlX0 tyX0 tyX0_ok nmX0 hK hG hb rfl 3 (by decide) in_81 (fun _ h9 => h9) rfl (ty := .int) (by decide +kernel) rfl rfl (Nat.le_of_ble_eq_true rfl) dX2_init_31 (fun w H locs hb hf9 hG => ?_)
  have hb : w b = some (.inr (0, [.ref (wb), .ref (rb), .ref (o0), .int (nI (0)), .int 0, .int 0, .int 0, .null])) := hb
  have hwb : w wb = some (.inr (7, [.ref wa])) := by rw [hf9 wb (Ne.symm nbw)]; exact hwb
  have hwa : w wa = some (.inl (cT, n, .inr (.inr (.inr (.inr (fun _ => none)))))) := by rw [hf9 wa (Ne.symm nba)]; exact hwa
  have ho0 : w o0 = some (.inr (6, [.ref k2, .int (nI 0), .int (nI 0), .int (nI 0)])) := by rw [hf9 o0 ne1]; exact ho0
  have hk2 : w k2 = some (.inl (cT, n, .inr (.inr (.inr (.inr (fun _ => none)))))) := by rw [hf9 k2 ne4]; exact hk2
  have hfr : ∀ x, x ≠ b → x ≠ o0 → x ≠ k2 → w x = w0 x := fun x n0 n1 n2 => by rw [hf9 x n0]; exact hfr x n0 n1 n2
  refine lv_aload_n S.1 S.2.1 dX2_init_34 rfl (lv_at hl 0 rfl) ?_
  refine lv_iconst (v := nI (0)) S.1 S.2.1 dX2_init_35 (by decide) ?_
  refine mn_put (v := .int (nI (0))) S inlX0 tyX0 tyX0_ok nmX0 hK hG hb rfl 4 (by decide) in_82 (fun _ h9 => h9) rfl (ty := .int) (by decide +kernel) rfl rfl (Nat.le_of_ble_eq_true rfl) dX2_init_36 (fun w H locs hb hf9 hG => ?_)
  have hb : w b = some (.inr (0, [.ref (wb), .ref (rb), .ref (o0), .int (nI (0)), .int (nI (0)), .int 0, .int 0, .null])) := hb
  have hwb : w wb = some (.inr (7, [.ref wa])) := by rw [hf9 wb (Ne.symm nbw)]; exact hwb
  have hwa : w wa = some (.inl (cT, n, .inr (.inr (.inr (.inr (fun _ => none)))))) := by rw [hf9 wa (Ne.symm nba)]; exact hwa
  have ho0 : w o0 = some (.inr (6, [.ref k2, .int (nI 0), .int (nI 0), .int (nI 0)])) := by rw [hf9 o0 ne1]; exact ho0
  have hk2 : w k2 = some (.inl (cT, n, .inr (.inr (.inr (.inr (fun _ => none)))))) := by rw [hf9 k2 ne4]; exact hk2
  have hfr : ∀ x, x ≠ b → x ≠ o0 → x ≠ k2 → w x = w0 x := fun x n0 n1 n2 => by rw [hf9 x n0]; exact hfr x n0 n1 n2
  refine lv_aload_n S.1 S.2.1 dX2_init_39 rfl (lv_at hl 0 rfl) ?_
  refine lv_iconst (v := nI (0)) S.1 S.2.1 dX2_init_40 (by decide) ?_
  refine mn_put (v := .int (nI (0))) S inlX0 tyX0 tyX0_ok nmX0 hK hG hb rfl 5 (by decide) in_83 (fun _ h9 => h9) rfl (ty := .int) (by decide +kernel) rfl rfl (Nat.le_of_ble_eq_true rfl) dX2_init_41 (fun w H locs hb hf9 hG => ?_)
  have hb : w b = some (.inr (0, [.ref (wb), .ref (rb), .ref (o0), .int (nI (0)), .int (nI (0)), .int (nI (0)), .int 0, .null])) := hb
  have hwb : w wb = some (.inr (7, [.ref wa])) := by rw [hf9 wb (Ne.symm nbw)]; exact hwb
  have hwa : w wa = some (.inl (cT, n, .inr (.inr (.inr (.inr (fun _ => none)))))) := by rw [hf9 wa (Ne.symm nba)]; exact hwa
  have ho0 : w o0 = some (.inr (6, [.ref k2, .int (nI 0), .int (nI 0), .int (nI 0)])) := by rw [hf9 o0 ne1]; exact ho0
  have hk2 : w k2 = some (.inl (cT, n, .inr (.inr (.inr (.inr (fun _ => none)))))) := by rw [hf9 k2 ne4]; exact hk2
  have hfr : ∀ x, x ≠ b → x ≠ o0 → x ≠ k2 → w x = w0 x := fun x n0 n1 n2 => by rw [hf9 x n0]; exact hfr x n0 n1 n2
  exact mw_vret S hr hlk hK hG dX2_init_44 ⟨rfl, o0, k2, fro0, frk2, ne7, hb, ho0, hk2, fun x n1 n2 n3 => hfr x n1 n2 n3⟩
theorem cal_X5_init : mCal yX5_init cX5_init 3 2 none := ⟨in_116, by decide +kernel⟩
set_option maxHeartbeats 4000000 in
set_option maxRecDepth 100000 in
theorem i_sweeper {l : Launch} {dC : Nat → ClassId} {dI : Nat → Nat → Nat} {cI cZ cT : ClassId} {w0 : mM}  (b rb : Nat) (hb : w0 b = some (.inr (4, [.null, .null, .null, .int 0, .int 0, .int 0]))) (wb wa n : Nat) (hn : n ≤ 400) (hwb : w0 wb = some (.inr (7, [.ref wa]))) (hwa : w0 wa = some (.inl (cT, n, .inr (.inr (.inr (.inr (fun _ => none))))))) : mC l yX5_init (wsY yX5_init cX5_init 3 none) { frames := 3, cells := 2, slots := 404, locals := 64 } (dC, dI) vwCl (tyL cI cZ cT) 2 404 w0 [.ref (b), .ref (wb), .ref (rb)] (fun v w2 => v = none ∧ ∃ k1 k2, w0 k1 = none ∧ w0 k2 = none ∧ k2 ≠ k1 ∧ w2 b = some (.inr (4, [.ref wb, .ref rb, .ref k1, .int (nI 0), .int (nI 0), .int (nI 0)])) ∧ w2 k1 = some (.inr (6, [.ref k2, .int (nI 0), .int (nI 0), .int (nI 0)])) ∧ w2 k2 = some (.inl (cT, n, .inr (.inr (.inr (.inr (fun _ => none)))))) ∧ ∀ x, x ≠ b → x ≠ k1 → x ≠ k2 → w2 x = w0 x) := by
  refine mC.on (by decide) (Nat.le_of_ble_eq_true rfl) ?_
  intro p e s m args below meth c ls S hr hlk hnm hK hN hG hl
  have hl : lv_has ls 3 [(0, .ref (b)), (1, .ref (wb)), (2, .ref (rb))] := hl
  generalize hAe : mA w0 s.heap.size = A at hG ⊢
  obtain ⟨w, hw0⟩ : ∃ z, z = w0 := ⟨_, rfl⟩
  rw [← hw0] at hG hb hwb hwa
  have hfr : ∀ x, w x = w0 x := fun x => by rw [hw0]
  have nbw : b ≠ wb := fun z => by rw [z, hwb] at hb; cases hb
  have nba : b ≠ wa := fun z => by rw [z, hwa] at hb; cases hb
  have nwa : wb ≠ wa := fun z => by rw [z, hwa] at hwb; cases hwb
  refine lv_aload_n S.1 S.2.1 dX5_init_0 rfl (lv_at hl 0 rfl) ?_
  refine lv_aload_n S.1 S.2.1 dX5_init_1 rfl (lv_at hl 1 rfl) ?_
  refine lv_aload_n S.1 S.2.1 dX5_init_2 rfl (lv_at hl 2 rfl) ?_
  have hold := hb
  refine mCI (As := [.ref (wb), .ref (rb)]) (rest := []) S (i_keeper5 b rb hb wb wa n hn hwb hwa) cal_X2_init rfl in_117 in_71 in_72 hK hN hG rfl rfl hl.1 (Nat.le_of_ble_eq_true rfl) ⟨by decide, by decide⟩ ⟨rfl, rfl⟩ ⟨by decide, by decide⟩ dX5_init_3 (fun v w H locs hp hG => ?_)
  obtain ⟨rfl, k1, k2, fq_k1, fq_k2, nk21, hb, hk1, hk2, hf8⟩ := hp
  have ne0 : k1 ≠ b := fun z => by rw [z, hold] at fq_k1; cases fq_k1
  have ne1 : k1 ≠ wb := fun z => by rw [z, hwb] at fq_k1; cases fq_k1
  have ne2 : k1 ≠ wa := fun z => by rw [z, hwa] at fq_k1; cases fq_k1
  have ne3 : k2 ≠ b := fun z => by rw [z, hold] at fq_k2; cases fq_k2
  have ne4 : k2 ≠ wb := fun z => by rw [z, hwb] at fq_k2; cases fq_k2
  have ne5 : k2 ≠ wa := fun z => by rw [z, hwa] at fq_k2; cases fq_k2
  have hwb : w wb = some (.inr (7, [.ref wa])) := by rw [hf8 wb (Ne.symm nbw) (Ne.symm ne1) (Ne.symm ne4)]; exact hwb
  have hwa : w wa = some (.inl (cT, n, .inr (.inr (.inr (.inr (fun _ => none)))))) := by rw [hf8 wa (Ne.symm nba) (Ne.symm ne2) (Ne.symm ne5)]; exact hwa
  have frk1 : w0 k1 = none := by rw [← hfr k1 ]; exact fq_k1
  have frk2 : w0 k2 = none := by rw [← hfr k2 ]; exact fq_k2
  have hfr : ∀ x, x ≠ b → x ≠ k1 → x ≠ k2 → w x = w0 x := fun x n0 n1 n2 => by rw [hf8 x n0 n1 n2]; exact hfr x 
  refine W.eq (g2 := F0 m 6 ls []) rfl ?_
  refine W.widen (k := 2) (n := 404) (by decide) (by decide) ?_
  exact mw_vret S hr hlk hK hG dX5_init_6 ⟨rfl, k1, k2, frk1, frk2, nk21, hb, hk1, hk2, hfr⟩
theorem cal_X1_init : mCal yX1_init cX1_init 3 2 none := ⟨in_63, by decide +kernel⟩
set_option maxHeartbeats 4000000 in
set_option maxRecDepth 100000 in
theorem i_copier {l : Launch} {dC : Nat → ClassId} {dI : Nat → Nat → Nat} {cI cZ cT : ClassId} {w0 : mM}  (b rb : Nat) (hb : w0 b = some (.inr (1, [.null, .null, .null, .int 0, .int 0, .int 0, .int 0, .null, .int 0]))) (wb wa n : Nat) (hn : n ≤ 400) (hwb : w0 wb = some (.inr (7, [.ref wa]))) (hwa : w0 wa = some (.inl (cT, n, .inr (.inr (.inr (.inr (fun _ => none))))))) : mC l yX1_init (wsY yX1_init cX1_init 3 none) { frames := 3, cells := 3, slots := 406, locals := 64 } (dC, dI) vwCl (tyL cI cZ cT) 3 406 w0 [.ref (b), .ref (wb), .ref (rb)] (fun v w2 => v = none ∧ ∃ k1 k2 p1, w0 k1 = none ∧ w0 k2 = none ∧ w0 p1 = none ∧ k2 ≠ k1 ∧ p1 ≠ k1 ∧ p1 ≠ k2 ∧ w2 b = some (.inr (1, [.ref wb, .ref rb, .ref k1, .int (nI 0), .int (nI 0), .int (nI 0), .int (nI (n / 2)), .ref p1, .int (nI 0)])) ∧ w2 k1 = some (.inr (6, [.ref k2, .int (nI 0), .int (nI 0), .int (nI 0)])) ∧ w2 k2 = some (.inl (cT, n, .inr (.inr (.inr (.inr (fun _ => none)))))) ∧ w2 p1 = some (.inr (2, [.int (nI 0), .int (nI (0 + n / 2))])) ∧ ∀ x, x ≠ b → x ≠ k1 → x ≠ k2 → x ≠ p1 → w2 x = w0 x) := by
  refine mC.on (by decide) (Nat.le_of_ble_eq_true rfl) ?_
  intro p e s m args below meth c ls S hr hlk hnm hK hN hG hl
  have hl : lv_has ls 3 [(0, .ref (b)), (1, .ref (wb)), (2, .ref (rb))] := hl
  generalize hAe : mA w0 s.heap.size = A at hG ⊢
  obtain ⟨w, hw0⟩ : ∃ z, z = w0 := ⟨_, rfl⟩
  rw [← hw0] at hG hb hwb hwa
  have hfr : ∀ x, w x = w0 x := fun x => by rw [hw0]
  have nbw : b ≠ wb := fun z => by rw [z, hwb] at hb; cases hb
  have nba : b ≠ wa := fun z => by rw [z, hwa] at hb; cases hb
  have nwa : wb ≠ wa := fun z => by rw [z, hwa] at hwb; cases hwb
  refine lv_aload_n S.1 S.2.1 dX1_init_0 rfl (lv_at hl 0 rfl) ?_
  refine lv_aload_n S.1 S.2.1 dX1_init_1 rfl (lv_at hl 1 rfl) ?_
  refine lv_aload_n S.1 S.2.1 dX1_init_2 rfl (lv_at hl 2 rfl) ?_
  have hold := hb
  refine mCI (As := [.ref (wb), .ref (rb)]) (rest := []) S (i_keeper1 b rb hb wb wa n hn hwb hwa) cal_X2_init rfl in_70 in_71 in_72 hK hN hG rfl rfl hl.1 (Nat.le_of_ble_eq_true rfl) ⟨by decide, by decide⟩ ⟨rfl, rfl⟩ ⟨by decide, by decide⟩ dX1_init_3 (fun v w H locs hp hG => ?_)
  obtain ⟨rfl, k1, k2, fq_k1, fq_k2, nk21, hb, hk1, hk2, hf8⟩ := hp
  have ne0 : k1 ≠ b := fun z => by rw [z, hold] at fq_k1; cases fq_k1
  have ne1 : k1 ≠ wb := fun z => by rw [z, hwb] at fq_k1; cases fq_k1
  have ne2 : k1 ≠ wa := fun z => by rw [z, hwa] at fq_k1; cases fq_k1
  have ne3 : k2 ≠ b := fun z => by rw [z, hold] at fq_k2; cases fq_k2
  have ne4 : k2 ≠ wb := fun z => by rw [z, hwb] at fq_k2; cases fq_k2
  have ne5 : k2 ≠ wa := fun z => by rw [z, hwa] at fq_k2; cases fq_k2
  have hwb : w wb = some (.inr (7, [.ref wa])) := by rw [hf8 wb (Ne.symm nbw) (Ne.symm ne1) (Ne.symm ne4)]; exact hwb
  have hwa : w wa = some (.inl (cT, n, .inr (.inr (.inr (.inr (fun _ => none)))))) := by rw [hf8 wa (Ne.symm nba) (Ne.symm ne2) (Ne.symm ne5)]; exact hwa
  have frk1 : w0 k1 = none := by rw [← hfr k1 ]; exact fq_k1
  have frk2 : w0 k2 = none := by rw [← hfr k2 ]; exact fq_k2
  have hfr : ∀ x, x ≠ b → x ≠ k1 → x ≠ k2 → w x = w0 x := fun x n0 n1 n2 => by rw [hf8 x n0 n1 n2]; exact hfr x 
  refine W.eq (g2 := F0 m 6 ls []) rfl ?_
  refine W.widen (k := 2) (n := 404) (by decide) (by decide) ?_
  refine lv_aload_n S.1 S.2.1 dX1_init_6 rfl (lv_at hl 0 rfl) ?_
  refine lv_aload_n S.1 S.2.1 dX1_init_7 rfl (lv_at hl 1 rfl) ?_
  refine mCV (As := []) (rest := [.ref (b)]) S (i_length wb wa n hwb hwa) cal_X8_length in_98 in_85 in_86 in_18 hK hN hG hwb rfl rfl rfl hl.1 (Nat.le_of_ble_eq_true rfl) ⟨by decide, by decide⟩ ⟨rfl, rfl⟩ ⟨by decide, by decide⟩ dX1_init_8 (fun v w H locs hp hG => ?_)
  obtain ⟨rfl, hw9⟩ := hp
  have hw9 := hw9.symm
  subst hw9
  refine W.eq (g2 := F0 m 11 ls [.int (nI (n)), .ref (b)]) rfl ?_
  refine lv_iconst (v := nI (2)) S.1 S.2.1 dX1_init_11 (by decide) ?_
  refine lv_idiv S.1 S.2.1 dX1_init_12 (by decide) ?_
  refine lv_eqi (pk_div (by omega) (by omega) (by omega)) ?_
  refine mn_putF (v := .int (nI (n / 2))) S inlX1 tyX1 tyX1_ok nmX1 hK hG hb rfl 6 (by decide) in_64 (fun _ h9 => h9) rfl hnm rfl (ty := .int) (by decide +kernel) rfl rfl (Nat.le_of_ble_eq_true rfl) dX1_init_13 (fun w H locs hb hf9 hG => ?_)
  have hb : w b = some (.inr (1, [.ref wb, .ref rb, .ref k1, .int (nI 0), .int (nI 0), .int (nI 0), .int (nI (n / 2)), .null, .int 0])) := hb
  have hwb : w wb = some (.inr (7, [.ref wa])) := by rw [hf9 wb (Ne.symm nbw)]; exact hwb
  have hwa : w wa = some (.inl (cT, n, .inr (.inr (.inr (.inr (fun _ => none)))))) := by rw [hf9 wa (Ne.symm nba)]; exact hwa
  have hk1 : w k1 = some (.inr (6, [.ref k2, .int (nI 0), .int (nI 0), .int (nI 0)])) := by rw [hf9 k1 ne0]; exact hk1
  have hk2 : w k2 = some (.inl (cT, n, .inr (.inr (.inr (.inr (fun _ => none)))))) := by rw [hf9 k2 ne3]; exact hk2
  have hfr : ∀ x, x ≠ b → x ≠ k1 → x ≠ k2 → w x = w0 x := fun x n0 n1 n2 => by rw [hf9 x n0]; exact hfr x n0 n1 n2
  refine lv_aload_n S.1 S.2.1 dX1_init_16 rfl (lv_at hl 0 rfl) ?_
  refine mn_new (fs := [.int 0, .int 0]) (C := RX3) (T := TX3) (N := 2) (ci := 2) S inlX3 tyX3 tyX3_ok in_65 in_66 in_67 hK hG rfl (fun j hj => by rcases (show j = 0 ∨ j = 1 by omega) with rfl | rfl <;> rfl) (by decide) (show 404 + 2 ≤ 406 by decide) dX1_init_17 (fun o6 w H hq9 ho6 hf9 hG => ?_)
  refine W.widen (k := 3) (n := 406) (by decide) (by decide) ?_
  have ne7 : o6 ≠ b := fun z => by rw [z, hb] at hq9; cases hq9
  have ne8 : o6 ≠ wb := fun z => by rw [z, hwb] at hq9; cases hq9
  have ne9 : o6 ≠ wa := fun z => by rw [z, hwa] at hq9; cases hq9
  have ne10 : o6 ≠ k1 := fun z => by rw [z, hk1] at hq9; cases hq9
  have ne11 : o6 ≠ k2 := fun z => by rw [z, hk2] at hq9; cases hq9
  have fro6 : w0 o6 = none := by rw [← hfr o6 ne7 ne10 ne11]; exact hq9
  have hb : w b = some (.inr (1, [.ref wb, .ref rb, .ref k1, .int (nI 0), .int (nI 0), .int (nI 0), .int (nI (n / 2)), .null, .int 0])) := by rw [hf9 b (Ne.symm ne7)]; exact hb
  have hwb : w wb = some (.inr (7, [.ref wa])) := by rw [hf9 wb (Ne.symm ne8)]; exact hwb
  have hwa : w wa = some (.inl (cT, n, .inr (.inr (.inr (.inr (fun _ => none)))))) := by rw [hf9 wa (Ne.symm ne9)]; exact hwa
  have hk1 : w k1 = some (.inr (6, [.ref k2, .int (nI 0), .int (nI 0), .int (nI 0)])) := by rw [hf9 k1 (Ne.symm ne10)]; exact hk1
  have hk2 : w k2 = some (.inl (cT, n, .inr (.inr (.inr (.inr (fun _ => none)))))) := by rw [hf9 k2 (Ne.symm ne11)]; exact hk2
  have hfr : ∀ x, x ≠ b → x ≠ k1 → x ≠ k2 → x ≠ o6 → w x = w0 x := fun x n0 n1 n2 n3 => by rw [hf9 x n3]; exact hfr x n0 n1 n2
  refine lv_dup S.1 S.2.1 dX1_init_20 rfl ?_
  refine lv_iconst (v := nI (0)) S.1 S.2.1 dX1_init_21 (by decide) ?_
  refine lv_aload_n S.1 S.2.1 dX1_init_22 rfl (lv_at hl 0 rfl) ?_
  refine mw_get (v := .int (nI (n / 2))) S inlX1 hK hG hb rfl 6 (by decide) in_64 (fun _ h9 => h9) rfl dX1_init_23 ?_
  have hold := ho6
  refine mCI (As := [.int (nI (0)), .int (nI (n / 2))]) (rest := [.ref (o6), .ref (b)]) S (i_part o6 0 (n / 2) ho6) cal_X3_init rfl in_99 in_100 in_67 hK hN hG rfl rfl hl.1 (Nat.le_of_ble_eq_true rfl) ⟨by decide, by decide⟩ ⟨rfl, rfl⟩ ⟨by decide, by decide⟩ dX1_init_26 (fun v w H locs hp hG => ?_)
  obtain ⟨rfl, ho6, hf8⟩ := hp
  have hb : w b = some (.inr (1, [.ref wb, .ref rb, .ref k1, .int (nI 0), .int (nI 0), .int (nI 0), .int (nI (n / 2)), .null, .int 0])) := by rw [hf8 b (Ne.symm ne7)]; exact hb
  have hwb : w wb = some (.inr (7, [.ref wa])) := by rw [hf8 wb (Ne.symm ne8)]; exact hwb
  have hwa : w wa = some (.inl (cT, n, .inr (.inr (.inr (.inr (fun _ => none)))))) := by rw [hf8 wa (Ne.symm ne9)]; exact hwa
  have hk1 : w k1 = some (.inr (6, [.ref k2, .int (nI 0), .int (nI 0), .int (nI 0)])) := by rw [hf8 k1 (Ne.symm ne10)]; exact hk1
  have hk2 : w k2 = some (.inl (cT, n, .inr (.inr (.inr (.inr (fun _ => none)))))) := by rw [hf8 k2 (Ne.symm ne11)]; exact hk2
  have hfr : ∀ x, x ≠ b → x ≠ k1 → x ≠ k2 → x ≠ o6 → w x = w0 x := fun x n0 n1 n2 n3 => by rw [hf8 x n3]; exact hfr x n0 n1 n2 n3
  refine W.eq (g2 := F0 m 29 ls [.ref (o6), .ref (b)]) rfl ?_
  refine W.widen (k := 3) (n := 406) (by decide) (by decide) ?_
  refine mn_putF (v := .ref (o6)) S inlX1 tyX1 tyX1_ok nmX1 hK hG hb rfl 7 (by decide) in_68 (fun _ h9 => h9) rfl hnm rfl (ty := .object "KeptHeap$Part") (by decide +kernel) rfl rfl (Nat.le_of_ble_eq_true rfl) dX1_init_29 (fun w H locs hb hf9 hG => ?_)
  have hb : w b = some (.inr (1, [.ref wb, .ref rb, .ref k1, .int (nI 0), .int (nI 0), .int (nI 0), .int (nI (n / 2)), .ref (o6), .int 0])) := hb
  have hwb : w wb = some (.inr (7, [.ref wa])) := by rw [hf9 wb (Ne.symm nbw)]; exact hwb
  have hwa : w wa = some (.inl (cT, n, .inr (.inr (.inr (.inr (fun _ => none)))))) := by rw [hf9 wa (Ne.symm nba)]; exact hwa
  have hk1 : w k1 = some (.inr (6, [.ref k2, .int (nI 0), .int (nI 0), .int (nI 0)])) := by rw [hf9 k1 ne0]; exact hk1
  have hk2 : w k2 = some (.inl (cT, n, .inr (.inr (.inr (.inr (fun _ => none)))))) := by rw [hf9 k2 ne3]; exact hk2
  have ho6 : w o6 = some (.inr (2, [.int (nI 0), .int (nI (0 + n / 2))])) := by rw [hf9 o6 ne7]; exact ho6
  have hfr : ∀ x, x ≠ b → x ≠ k1 → x ≠ k2 → x ≠ o6 → w x = w0 x := fun x n0 n1 n2 n3 => by rw [hf9 x n0]; exact hfr x n0 n1 n2 n3
  refine lv_aload_n S.1 S.2.1 dX1_init_32 rfl (lv_at hl 0 rfl) ?_
  refine lv_iconst (v := nI (0)) S.1 S.2.1 dX1_init_33 (by decide) ?_
  refine mn_put (v := .int (nI (0))) S inlX1 tyX1 tyX1_ok nmX1 hK hG hb rfl 8 (by decide) in_69 (fun _ h9 => h9) rfl (ty := .int) (by decide +kernel) rfl rfl (Nat.le_of_ble_eq_true rfl) dX1_init_34 (fun w H locs hb hf9 hG => ?_)
  have hb : w b = some (.inr (1, [.ref wb, .ref rb, .ref k1, .int (nI 0), .int (nI 0), .int (nI 0), .int (nI (n / 2)), .ref (o6), .int (nI (0))])) := hb
  have hwb : w wb = some (.inr (7, [.ref wa])) := by rw [hf9 wb (Ne.symm nbw)]; exact hwb
  have hwa : w wa = some (.inl (cT, n, .inr (.inr (.inr (.inr (fun _ => none)))))) := by rw [hf9 wa (Ne.symm nba)]; exact hwa
  have hk1 : w k1 = some (.inr (6, [.ref k2, .int (nI 0), .int (nI 0), .int (nI 0)])) := by rw [hf9 k1 ne0]; exact hk1
  have hk2 : w k2 = some (.inl (cT, n, .inr (.inr (.inr (.inr (fun _ => none)))))) := by rw [hf9 k2 ne3]; exact hk2
  have ho6 : w o6 = some (.inr (2, [.int (nI 0), .int (nI (0 + n / 2))])) := by rw [hf9 o6 ne7]; exact ho6
  have hfr : ∀ x, x ≠ b → x ≠ k1 → x ≠ k2 → x ≠ o6 → w x = w0 x := fun x n0 n1 n2 n3 => by rw [hf9 x n0]; exact hfr x n0 n1 n2 n3
  exact mw_vret S hr hlk hK hG dX1_init_37 ⟨rfl, k1, k2, o6, frk1, frk2, fro6, nk21, ne10, ne11, hb, hk1, hk2, ho6, fun x n1 n2 n3 n4 => hfr x n1 n2 n3 n4⟩
theorem cal_X0_init : mCal yX0_init cX0_init 3 2 none := ⟨in_107, by decide +kernel⟩
set_option maxHeartbeats 4000000 in
set_option maxRecDepth 100000 in
theorem i_ager {l : Launch} {dC : Nat → ClassId} {dI : Nat → Nat → Nat} {cI cZ cT : ClassId} {w0 : mM}  (b rb : Nat) (hb : w0 b = some (.inr (0, [.null, .null, .null, .int 0, .int 0, .int 0, .int 0, .null]))) (wb wa n : Nat) (hn : n ≤ 400) (hwb : w0 wb = some (.inr (7, [.ref wa]))) (hwa : w0 wa = some (.inl (cT, n, .inr (.inr (.inr (.inr (fun _ => none))))))) : mC l yX0_init (wsY yX0_init cX0_init 3 none) { frames := 3, cells := 3, slots := 406, locals := 64 } (dC, dI) vwCl (tyL cI cZ cT) 3 406 w0 [.ref (b), .ref (wb), .ref (rb)] (fun v w2 => v = none ∧ ∃ k1 k2 p1, w0 k1 = none ∧ w0 k2 = none ∧ w0 p1 = none ∧ k2 ≠ k1 ∧ p1 ≠ k1 ∧ p1 ≠ k2 ∧ w2 b = some (.inr (0, [.ref wb, .ref rb, .ref k1, .int (nI 0), .int (nI 0), .int (nI 0), .int (nI (n / 4)), .ref p1])) ∧ w2 k1 = some (.inr (6, [.ref k2, .int (nI 0), .int (nI 0), .int (nI 0)])) ∧ w2 k2 = some (.inl (cT, n, .inr (.inr (.inr (.inr (fun _ => none)))))) ∧ w2 p1 = some (.inr (2, [.int (nI 0), .int (nI (0 + n / 4))])) ∧ ∀ x, x ≠ b → x ≠ k1 → x ≠ k2 → x ≠ p1 → w2 x = w0 x) := by
  refine mC.on (by decide) (Nat.le_of_ble_eq_true rfl) ?_
  intro p e s m args below meth c ls S hr hlk hnm hK hN hG hl
  have hl : lv_has ls 3 [(0, .ref (b)), (1, .ref (wb)), (2, .ref (rb))] := hl
  generalize hAe : mA w0 s.heap.size = A at hG ⊢
  obtain ⟨w, hw0⟩ : ∃ z, z = w0 := ⟨_, rfl⟩
  rw [← hw0] at hG hb hwb hwa
  have hfr : ∀ x, w x = w0 x := fun x => by rw [hw0]
  have nbw : b ≠ wb := fun z => by rw [z, hwb] at hb; cases hb
  have nba : b ≠ wa := fun z => by rw [z, hwa] at hb; cases hb
  have nwa : wb ≠ wa := fun z => by rw [z, hwa] at hwb; cases hwb
  refine lv_aload_n S.1 S.2.1 dX0_init_0 rfl (lv_at hl 0 rfl) ?_
  refine lv_aload_n S.1 S.2.1 dX0_init_1 rfl (lv_at hl 1 rfl) ?_
  refine lv_aload_n S.1 S.2.1 dX0_init_2 rfl (lv_at hl 2 rfl) ?_
  have hold := hb
  refine mCI (As := [.ref (wb), .ref (rb)]) (rest := []) S (i_keeper0 b rb hb wb wa n hn hwb hwa) cal_X2_init rfl in_111 in_71 in_72 hK hN hG rfl rfl hl.1 (Nat.le_of_ble_eq_true rfl) ⟨by decide, by decide⟩ ⟨rfl, rfl⟩ ⟨by decide, by decide⟩ dX0_init_3 (fun v w H locs hp hG => ?_)
  obtain ⟨rfl, k1, k2, fq_k1, fq_k2, nk21, hb, hk1, hk2, hf8⟩ := hp
  have ne0 : k1 ≠ b := fun z => by rw [z, hold] at fq_k1; cases fq_k1
  have ne1 : k1 ≠ wb := fun z => by rw [z, hwb] at fq_k1; cases fq_k1
  have ne2 : k1 ≠ wa := fun z => by rw [z, hwa] at fq_k1; cases fq_k1
  have ne3 : k2 ≠ b := fun z => by rw [z, hold] at fq_k2; cases fq_k2
  have ne4 : k2 ≠ wb := fun z => by rw [z, hwb] at fq_k2; cases fq_k2
  have ne5 : k2 ≠ wa := fun z => by rw [z, hwa] at fq_k2; cases fq_k2
  have hwb : w wb = some (.inr (7, [.ref wa])) := by rw [hf8 wb (Ne.symm nbw) (Ne.symm ne1) (Ne.symm ne4)]; exact hwb
  have hwa : w wa = some (.inl (cT, n, .inr (.inr (.inr (.inr (fun _ => none)))))) := by rw [hf8 wa (Ne.symm nba) (Ne.symm ne2) (Ne.symm ne5)]; exact hwa
  have frk1 : w0 k1 = none := by rw [← hfr k1 ]; exact fq_k1
  have frk2 : w0 k2 = none := by rw [← hfr k2 ]; exact fq_k2
  have hfr : ∀ x, x ≠ b → x ≠ k1 → x ≠ k2 → w x = w0 x := fun x n0 n1 n2 => by rw [hf8 x n0 n1 n2]; exact hfr x 
  refine W.eq (g2 := F0 m 6 ls []) rfl ?_
  refine W.widen (k := 2) (n := 404) (by decide) (by decide) ?_
  refine lv_aload_n S.1 S.2.1 dX0_init_6 rfl (lv_at hl 0 rfl) ?_
  refine lv_aload_n S.1 S.2.1 dX0_init_7 rfl (lv_at hl 1 rfl) ?_
  refine mCV (As := []) (rest := [.ref (b)]) S (i_length wb wa n hwb hwa) cal_X8_length in_112 in_85 in_86 in_18 hK hN hG hwb rfl rfl rfl hl.1 (Nat.le_of_ble_eq_true rfl) ⟨by decide, by decide⟩ ⟨rfl, rfl⟩ ⟨by decide, by decide⟩ dX0_init_8 (fun v w H locs hp hG => ?_)
  obtain ⟨rfl, hw9⟩ := hp
  have hw9 := hw9.symm
  subst hw9
  refine W.eq (g2 := F0 m 11 ls [.int (nI (n)), .ref (b)]) rfl ?_
  refine lv_iconst (v := nI (4)) S.1 S.2.1 dX0_init_11 (by decide) ?_
  refine lv_idiv S.1 S.2.1 dX0_init_12 (by decide) ?_
  refine lv_eqi (pk_div (by omega) (by omega) (by omega)) ?_
  refine mn_putF (v := .int (nI (n / 4))) S inlX0 tyX0 tyX0_ok nmX0 hK hG hb rfl 6 (by decide) in_108 (fun _ h9 => h9) rfl hnm rfl (ty := .int) (by decide +kernel) rfl rfl (Nat.le_of_ble_eq_true rfl) dX0_init_13 (fun w H locs hb hf9 hG => ?_)
  have hb : w b = some (.inr (0, [.ref wb, .ref rb, .ref k1, .int (nI 0), .int (nI 0), .int (nI 0), .int (nI (n / 4)), .null])) := hb
  have hwb : w wb = some (.inr (7, [.ref wa])) := by rw [hf9 wb (Ne.symm nbw)]; exact hwb
  have hwa : w wa = some (.inl (cT, n, .inr (.inr (.inr (.inr (fun _ => none)))))) := by rw [hf9 wa (Ne.symm nba)]; exact hwa
  have hk1 : w k1 = some (.inr (6, [.ref k2, .int (nI 0), .int (nI 0), .int (nI 0)])) := by rw [hf9 k1 ne0]; exact hk1
  have hk2 : w k2 = some (.inl (cT, n, .inr (.inr (.inr (.inr (fun _ => none)))))) := by rw [hf9 k2 ne3]; exact hk2
  have hfr : ∀ x, x ≠ b → x ≠ k1 → x ≠ k2 → w x = w0 x := fun x n0 n1 n2 => by rw [hf9 x n0]; exact hfr x n0 n1 n2
  refine lv_aload_n S.1 S.2.1 dX0_init_16 rfl (lv_at hl 0 rfl) ?_
  refine mn_new (fs := [.int 0, .int 0]) (C := RX3) (T := TX3) (N := 2) (ci := 2) S inlX3 tyX3 tyX3_ok in_109 in_66 in_67 hK hG rfl (fun j hj => by rcases (show j = 0 ∨ j = 1 by omega) with rfl | rfl <;> rfl) (by decide) (show 404 + 2 ≤ 406 by decide) dX0_init_17 (fun o6 w H hq9 ho6 hf9 hG => ?_)
  refine W.widen (k := 3) (n := 406) (by decide) (by decide) ?_
  have ne7 : o6 ≠ b := fun z => by rw [z, hb] at hq9; cases hq9
  have ne8 : o6 ≠ wb := fun z => by rw [z, hwb] at hq9; cases hq9
  have ne9 : o6 ≠ wa := fun z => by rw [z, hwa] at hq9; cases hq9
  have ne10 : o6 ≠ k1 := fun z => by rw [z, hk1] at hq9; cases hq9
  have ne11 : o6 ≠ k2 := fun z => by rw [z, hk2] at hq9; cases hq9
  have fro6 : w0 o6 = none := by rw [← hfr o6 ne7 ne10 ne11]; exact hq9
  have hb : w b = some (.inr (0, [.ref wb, .ref rb, .ref k1, .int (nI 0), .int (nI 0), .int (nI 0), .int (nI (n / 4)), .null])) := by rw [hf9 b (Ne.symm ne7)]; exact hb
  have hwb : w wb = some (.inr (7, [.ref wa])) := by rw [hf9 wb (Ne.symm ne8)]; exact hwb
  have hwa : w wa = some (.inl (cT, n, .inr (.inr (.inr (.inr (fun _ => none)))))) := by rw [hf9 wa (Ne.symm ne9)]; exact hwa
  have hk1 : w k1 = some (.inr (6, [.ref k2, .int (nI 0), .int (nI 0), .int (nI 0)])) := by rw [hf9 k1 (Ne.symm ne10)]; exact hk1
  have hk2 : w k2 = some (.inl (cT, n, .inr (.inr (.inr (.inr (fun _ => none)))))) := by rw [hf9 k2 (Ne.symm ne11)]; exact hk2
  have hfr : ∀ x, x ≠ b → x ≠ k1 → x ≠ k2 → x ≠ o6 → w x = w0 x := fun x n0 n1 n2 n3 => by rw [hf9 x n3]; exact hfr x n0 n1 n2
  refine lv_dup S.1 S.2.1 dX0_init_20 rfl ?_
  refine lv_iconst (v := nI (0)) S.1 S.2.1 dX0_init_21 (by decide) ?_
  refine lv_aload_n S.1 S.2.1 dX0_init_22 rfl (lv_at hl 0 rfl) ?_
  refine mw_get (v := .int (nI (n / 4))) S inlX0 hK hG hb rfl 6 (by decide) in_108 (fun _ h9 => h9) rfl dX0_init_23 ?_
  have hold := ho6
  refine mCI (As := [.int (nI (0)), .int (nI (n / 4))]) (rest := [.ref (o6), .ref (b)]) S (i_part o6 0 (n / 4) ho6) cal_X3_init rfl in_113 in_100 in_67 hK hN hG rfl rfl hl.1 (Nat.le_of_ble_eq_true rfl) ⟨by decide, by decide⟩ ⟨rfl, rfl⟩ ⟨by decide, by decide⟩ dX0_init_26 (fun v w H locs hp hG => ?_)
  obtain ⟨rfl, ho6, hf8⟩ := hp
  have hb : w b = some (.inr (0, [.ref wb, .ref rb, .ref k1, .int (nI 0), .int (nI 0), .int (nI 0), .int (nI (n / 4)), .null])) := by rw [hf8 b (Ne.symm ne7)]; exact hb
  have hwb : w wb = some (.inr (7, [.ref wa])) := by rw [hf8 wb (Ne.symm ne8)]; exact hwb
  have hwa : w wa = some (.inl (cT, n, .inr (.inr (.inr (.inr (fun _ => none)))))) := by rw [hf8 wa (Ne.symm ne9)]; exact hwa
  have hk1 : w k1 = some (.inr (6, [.ref k2, .int (nI 0), .int (nI 0), .int (nI 0)])) := by rw [hf8 k1 (Ne.symm ne10)]; exact hk1
  have hk2 : w k2 = some (.inl (cT, n, .inr (.inr (.inr (.inr (fun _ => none)))))) := by rw [hf8 k2 (Ne.symm ne11)]; exact hk2
  have hfr : ∀ x, x ≠ b → x ≠ k1 → x ≠ k2 → x ≠ o6 → w x = w0 x := fun x n0 n1 n2 n3 => by rw [hf8 x n3]; exact hfr x n0 n1 n2 n3
  refine W.eq (g2 := F0 m 29 ls [.ref (o6), .ref (b)]) rfl ?_
  refine W.widen (k := 3) (n := 406) (by decide) (by decide) ?_
  refine mn_putF (v := .ref (o6)) S inlX0 tyX0 tyX0_ok nmX0 hK hG hb rfl 7 (by decide) in_110 (fun _ h9 => h9) rfl hnm rfl (ty := .object "KeptHeap$Part") (by decide +kernel) rfl rfl (Nat.le_of_ble_eq_true rfl) dX0_init_29 (fun w H locs hb hf9 hG => ?_)
  have hb : w b = some (.inr (0, [.ref wb, .ref rb, .ref k1, .int (nI 0), .int (nI 0), .int (nI 0), .int (nI (n / 4)), .ref (o6)])) := hb
  have hwb : w wb = some (.inr (7, [.ref wa])) := by rw [hf9 wb (Ne.symm nbw)]; exact hwb
  have hwa : w wa = some (.inl (cT, n, .inr (.inr (.inr (.inr (fun _ => none)))))) := by rw [hf9 wa (Ne.symm nba)]; exact hwa
  have hk1 : w k1 = some (.inr (6, [.ref k2, .int (nI 0), .int (nI 0), .int (nI 0)])) := by rw [hf9 k1 ne0]; exact hk1
  have hk2 : w k2 = some (.inl (cT, n, .inr (.inr (.inr (.inr (fun _ => none)))))) := by rw [hf9 k2 ne3]; exact hk2
  have ho6 : w o6 = some (.inr (2, [.int (nI 0), .int (nI (0 + n / 4))])) := by rw [hf9 o6 ne7]; exact ho6
  have hfr : ∀ x, x ≠ b → x ≠ k1 → x ≠ k2 → x ≠ o6 → w x = w0 x := fun x n0 n1 n2 n3 => by rw [hf9 x n0]; exact hfr x n0 n1 n2 n3
  exact mw_vret S hr hlk hK hG dX0_init_32 ⟨rfl, k1, k2, o6, frk1, frk2, fro6, nk21, ne10, ne11, hb, hk1, hk2, ho6, fun x n1 n2 n3 n4 => hfr x n1 n2 n3 n4⟩
