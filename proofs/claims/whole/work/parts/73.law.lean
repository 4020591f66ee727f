set_option maxHeartbeats 4000000 in
set_option maxRecDepth 100000 in
/-- THE LAW from the reference's making on -/
theorem law_tail {p : Program} {e : Env} {s : State} {m : MethodId} {below : List Frame} {meth : Method} {c : Code} {l : Launch} {dC : Nat → ClassId} {dI : Nat → Nat → Nat} {cI cZ cT : ClassId} {b L : Nat} {xs : Nat → Int32} (hL : L ≤ 2050) (C0 : lw_At p s m meth c b L xs) (hK : va_K (dC, dI) vwCl (tyL cI cZ cT) s) (hN : mN s) {b1 : Nat} {wC : mM} {H : Heap} {locs : List Loc} (h0 : C0w cI cT b1 (cel L xs 0) (cel L xs 1) wC) (hC : mG (dC, dI) vwCl (fun q => s.heap.size ≤ q) s.heap wC H locs) {ls : Array Slot} (hl : lv_has ls 4 [(1, .ref b1), (0, .ref b)]) : W p l e room_1 s m #[Value.ref b] below meth c H locs 12 2000 (lw_Z below #[Value.ref b] s) (F0 m 18 ls []) := by
  have C1 := C0
  obtain ⟨hx, hb, hr, hml, hown, hts, hX, hbl, hlocks, hgv⟩ := C0
  have S : CallFix p m c cL_law 4 s #[Value.ref b] wsL RL := ⟨hx, hb, hml, hown, fun w hw => hts w (wsL_law_in w hw)⟩
  have hbA : ¬ (fun q : Nat => s.heap.size ≤ q) b := Nat.not_le.mpr hbl
  refine mn_new (fs := [.int 0, .int 0, .int 0, .int 0, .null, .null, .null, .null, .null, .null, .null, .int 0, .int 0, .int 0, .int 0, .int 0, .int 0, .null, .null, .null]) (C := RX10) (T := TX10) (N := 20) (ci := 9) S inlX10 tyX10 tyX10_ok in_3 in_4 in_5 hK hC rfl (fun j hj => by rcases (show j = 0 ∨ j = 1 ∨ j = 2 ∨ j = 3 ∨ j = 4 ∨ j = 5 ∨ j = 6 ∨ j = 7 ∨ j = 8 ∨ j = 9 ∨ j = 10 ∨ j = 11 ∨ j = 12 ∨ j = 13 ∨ j = 14 ∨ j = 15 ∨ j = 16 ∨ j = 17 ∨ j = 18 ∨ j = 19 by omega) with rfl | rfl | rfl | rfl | rfl | rfl | rfl | rfl | rfl | rfl | rfl | rfl | rfl | rfl | rfl | rfl | rfl | rfl | rfl | rfl <;> rfl) (by decide) (show 2000 + 20 ≤ 7302250 by decide) dL_law_18 (fun b2 w2 H hq9 hb2 hf9 hG2 => ?_)
  have hC : mG (dC, dI) vwCl (fun q => s.heap.size ≤ q) s.heap wC H locs := hG2.sub (fun a e ha => (hf9 a (fun z => by subst z; rw [hq9] at ha; cases ha)).trans ha)
  have hR : mG (dC, dI) vwCl (fun q => s.heap.size ≤ q) s.heap (mU (fun _ => none) b2 (.inr (9, [.int 0, .int 0, .int 0, .int 0, .null, .null, .null, .null, .null, .null, .null, .int 0, .int 0, .int 0, .int 0, .int 0, .int 0, .null, .null, .null]))) H locs := hG2.sub (fun a e ha => by
    by_cases z : a = b2
    · subst z; rw [mU_s] at ha; rw [hb2]; exact ha
    · rw [mU_n z] at ha; cases ha)
  have hd : ∀ a e, mU (fun _ => none) b2 (.inr (9, [.int 0, .int 0, .int 0, .int 0, .null, .null, .null, .null, .null, .null, .null, .int 0, .int 0, .int 0, .int 0, .int 0, .int 0, .null, .null, .null])) a = some e → wC a = none := fun a e ha => by
    by_cases z : a = b2
    · subst z; exact hq9
    · rw [mU_n z] at ha; cases ha
  refine lv_dup S.1 S.2.1 dL_law_21 rfl ?_
  refine lv_aload_n S.1 S.2.1 dL_law_22 rfl (lv_at hl 1 rfl) ?_
  refine lv_iconst (v := nI 0) S.1 S.2.1 dL_law_23 (by decide) ?_
  refine law_cell (rest := [.ref b2, .ref b2]) hL (show 0 < 2 by decide) S hX hbl hR hC hl.1 (Nat.le_of_ble_eq_true rfl) ⟨Nat.le_of_ble_eq_true rfl, Nat.le_of_ble_eq_true rfl⟩ dL_law_24 (fun H locs hR hC => ?_)
  refine lv_aload_n S.1 S.2.1 dL_law_27 rfl (lv_at hl 1 rfl) ?_
  refine lv_iconst (v := nI 1) S.1 S.2.1 dL_law_28 (by decide) ?_
  refine law_cell (rest := [.int (cel L xs 0), .ref b2, .ref b2]) hL (show 1 < 2 by decide) S hX hbl hR hC hl.1 (Nat.le_of_ble_eq_true rfl) ⟨Nat.le_of_ble_eq_true rfl, Nat.le_of_ble_eq_true rfl⟩ dL_law_29 (fun H locs hR hC => ?_)
  refine law_I (As := [.int (cel L xs 0), .int (cel L xs 1)]) (rest := [.ref b2]) S ⟨_, ⟨by decide, by decide⟩, ⟨rfl, rfl⟩, r_init b2 (cel L xs 0) (cel L xs 1) (mU_s _ _ _)⟩ cal_X10_init rfl in_118 in_119 in_5 hK hN hR hC hd rfl rfl hl.1 (Nat.le_of_ble_eq_true rfl) ⟨Nat.le_of_ble_eq_true rfl, Nat.le_of_ble_eq_true rfl⟩ dL_law_32 (fun v wR H locs hp hR hC hd => ?_)
  obtain ⟨rfl, hp⟩ := hp
  refine W.eq (g2 := F0 m 35 ls [.ref b2]) rfl ?_
  refine lv_astore_n (lv' := [(2, .ref b2), (1, .ref b1), (0, .ref b)]) S.1 S.2.1 dL_law_35 rfl hl (by decide) rfl (fun ls hl => ?_)
  refine lv_iconst (v := nI (2 + 4 * 0)) S.1 S.2.1 dL_law_36 (by decide) ?_
  refine lv_istore_n (lv' := [(3, .int (nI (2 + 4 * 0))), (2, .ref b2), (1, .ref b1), (0, .ref b)]) S.1 S.2.1 dL_law_37 rfl hl (by decide) rfl (fun ls hl => ?_)
  refine W.widen (k := 40 + 3 * 0) (n := 40000 + 20 * 0) (by decide) (by decide) ?_
  exact law_loop hL C1 hK hN (L + 8) 0 (by omega) (by omega) b1 b2 wC wR H locs (JW_0 h0 hp) hC hR (fun a e ha => by
    cases hc : wR a with
    | none => rfl
    | some e2 => rw [hd a e2 hc] at ha; cases ha) ls hl
set_option maxHeartbeats 4000000 in
set_option maxRecDepth 100000 in
theorem whole_start {p : Program} {e : Env} {s : State} {m : MethodId} {below : List Frame} {meth : Method} {c : Code} (l : Launch) {b L : Nat} {xs : Nat → Int32} (hL : L ≤ 2050) (C0 : lw_At p s m meth c b L xs) : W p l e room_1 s m #[Value.ref b] below meth c s.heap [] 0 0 (lw_Z below #[Value.ref b] s) (entryFrame m ([Value.ref b] : List Value).toArray 4) := by
  have C1 := C0
  obtain ⟨hx, hb, hr, hml, hown, hts, hX, hbl, hlocks, hgv⟩ := C0
  have S : CallFix p m c cL_law 4 s #[Value.ref b] wsL RL := ⟨hx, hb, hml, hown, fun w hw => hts w (wsL_law_in w hw)⟩
  have hbA : ¬ (fun q : Nat => s.heap.size ≤ q) b := Nat.not_le.mpr hbl
  obtain ⟨dC, dI, cI, cZ, cT, hK, hN⟩ := law_known hts
  have hl := lv_entry ([.ref b]) (n := 4) (Nat.le_of_ble_eq_true rfl)
  rw [lg_entry_eq]
  generalize (lg_sl ([.ref b]) ++ List.replicate (4 - (lg_sl ([.ref b])).length) Slot.unset).toArray = ls at hl ⊢
  have hl : lv_has ls 4 [(0, .ref b)] := hl
  have hrest : ∀ {b1 : Nat} (wC : mM) (H : Heap) (locs : List Loc), C0w cI cT b1 (cel L xs 0) (cel L xs 1) wC → mG (dC, dI) vwCl (fun q => s.heap.size ≤ q) s.heap wC H locs → W p l e room_1 s m #[Value.ref b] below meth c H locs 12 2000 (lw_Z below #[Value.ref b] s) (F0 m 17 ls [.ref b1]) := by
    intro b1 wC H locs h0 hG
    refine lv_astore_n (lv' := [(1, .ref b1), (0, .ref b)]) S.1 S.2.1 dL_law_17 rfl hl (by decide) rfl (fun ls hl => ?_)
    exact law_tail hL C1 hK hN h0 hG hl
  have hG : mG (dC, dI) vwCl (fun q => s.heap.size ≤ q) s.heap (fun _ => none) s.heap [] := ⟨fun a e h => (by cases h), fun a e h => (by cases h), va_S.rf, fun q h => h⟩
  refine mn_new (fs := [.null, .null, .null, .int 0]) (C := RX9) (T := TX9) (N := 4) (ci := 8) S inlX9 tyX9 tyX9_ok in_0 in_1 in_2 hK hG rfl (fun j hj => by rcases (show j = 0 ∨ j = 1 ∨ j = 2 ∨ j = 3 by omega) with rfl | rfl | rfl | rfl <;> rfl) (by decide) (show 0 + 4 ≤ 7302250 by decide) dL_law_0 (fun b1 w1 H hq9 hb1 hf9 hG => ?_)
  have hE : mG (dC, dI) vwCl (fun q => s.heap.size ≤ q) s.heap (fun _ => none) H [] := hG.sub (fun a e ha => by cases ha)
  refine lv_dup S.1 S.2.1 dL_law_3 rfl ?_
  refine lv_aload_n S.1 S.2.1 dL_law_4 rfl (lv_at hl 0 rfl) ?_
  refine lv_iconst (v := nI 0) S.1 S.2.1 dL_law_5 (by decide) ?_
  refine law_cell (rest := [.ref b1, .ref b1]) hL (show 0 < 2 by decide) S hX hbl hG hE hl.1 (Nat.le_of_ble_eq_true rfl) ⟨Nat.le_of_ble_eq_true rfl, Nat.le_of_ble_eq_true rfl⟩ dL_law_6 (fun H locs hG hE => ?_)
  refine lv_aload_n S.1 S.2.1 dL_law_9 rfl (lv_at hl 0 rfl) ?_
  refine lv_iconst (v := nI 1) S.1 S.2.1 dL_law_10 (by decide) ?_
  refine law_cell (rest := [.int (cel L xs 0), .ref b1, .ref b1]) hL (show 1 < 2 by decide) S hX hbl hG hE hl.1 (Nat.le_of_ble_eq_true rfl) ⟨Nat.le_of_ble_eq_true rfl, Nat.le_of_ble_eq_true rfl⟩ dL_law_11 (fun H locs hG hE => ?_)
  by_cases c1 : cel L xs 0 = 1
  · refine law_I (As := [.int (cel L xs 0), .int (cel L xs 1)]) (rest := [.ref b1]) S ⟨_, ⟨by decide, by decide⟩, ⟨rfl, rfl⟩, h_init1 (fl := fun _ => 0) (num := fun _ _ => 0) (rfs := fun _ _ => some 0) (tad := fun _ => 0) (trm := fun _ => false) (tpl := fun _ => 0) (wlk := fun _ => 0) (ord := fun _ => 0) b1 (cel L xs 0) (cel L xs 1) c1 hb1⟩ cal_X9_init rfl in_10 in_11 in_2 hK hN hG hE (fun _ _ _ => rfl) rfl rfl hl.1 (Nat.le_of_ble_eq_true rfl) ⟨Nat.le_of_ble_eq_true rfl, Nat.le_of_ble_eq_true rfl⟩ dL_law_14 (fun v wC H locs hp hG hE hd => ?_)
    obtain ⟨rfl, qq, e1, e2, e3, e4⟩ := hp
    refine W.eq (g2 := F0 m 17 ls [.ref b1]) rfl ?_
    refine W.widen (k := 12) (n := 2000) (by decide) (by decide) ?_
    exact hrest wC H locs ⟨qq, Wof (cel L xs 1) / 2, e1, by rw [Kof_1 c1]; exact e3, fun _ => rfl, fun z => absurd (z.symm.trans (Kof_1 c1)) (by decide)⟩ hG
  · by_cases c2 : cel L xs 0 = 2
    · refine law_I (As := [.int (cel L xs 0), .int (cel L xs 1)]) (rest := [.ref b1]) S ⟨_, ⟨by decide, by decide⟩, ⟨rfl, rfl⟩, h_init2 (fl := fun _ => 0) (num := fun _ _ => 0) (rfs := fun _ _ => some 0) (tad := fun _ => 0) (trm := fun _ => false) (tpl := fun _ => 0) (wlk := fun _ => 0) (ord := fun _ => 0) b1 (cel L xs 0) (cel L xs 1) c2 hb1⟩ cal_X9_init rfl in_10 in_11 in_2 hK hN hG hE (fun _ _ _ => rfl) rfl rfl hl.1 (Nat.le_of_ble_eq_true rfl) ⟨Nat.le_of_ble_eq_true rfl, Nat.le_of_ble_eq_true rfl⟩ dL_law_14 (fun v wC H locs hp hG hE hd => ?_)
      obtain ⟨rfl, qq, e1, e2, e3, e4⟩ := hp
      refine W.eq (g2 := F0 m 17 ls [.ref b1]) rfl ?_
      refine W.widen (k := 12) (n := 2000) (by decide) (by decide) ?_
      exact hrest wC H locs ⟨qq, Wof (cel L xs 1) / 4, e1, by rw [Kof_2 c2]; exact e3, fun z => absurd (z.symm.trans (Kof_2 c2)) (by decide), fun _ => rfl⟩ hG
    · refine law_I (As := [.int (cel L xs 0), .int (cel L xs 1)]) (rest := [.ref b1]) S ⟨_, ⟨by decide, by decide⟩, ⟨rfl, rfl⟩, h_init0 (fl := fun _ => 0) (num := fun _ _ => 0) (rfs := fun _ _ => some 0) (tad := fun _ => 0) (trm := fun _ => false) (tpl := fun _ => 0) (wlk := fun _ => 0) (ord := fun _ => 0) b1 (cel L xs 0) (cel L xs 1) c1 c2 hb1⟩ cal_X9_init rfl in_10 in_11 in_2 hK hN hG hE (fun _ _ _ => rfl) rfl rfl hl.1 (Nat.le_of_ble_eq_true rfl) ⟨Nat.le_of_ble_eq_true rfl, Nat.le_of_ble_eq_true rfl⟩ dL_law_14 (fun v wC H locs hp hG hE hd => ?_)
      obtain ⟨rfl, qq, e1, e2, e3, e4⟩ := hp
      refine W.eq (g2 := F0 m 17 ls [.ref b1]) rfl ?_
      refine W.widen (k := 12) (n := 2000) (by decide) (by decide) ?_
      exact hrest wC H locs ⟨qq, 0, e1, by rw [Kof_n c1 c2]; exact e3, fun z => absurd (z.symm.trans (Kof_n c1 c2)) (by decide), fun z => absurd (z.symm.trans (Kof_n c1 c2)) (by decide)⟩ hG
