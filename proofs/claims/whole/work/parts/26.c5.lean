theorem take_s {L : List Nat} {i : Nat} (h : i < L.length) : L.take (i + 1) = L.take i ++ [L.getD i 0] := by
  rw [List.take_succ, getD_some h]
  rfl
theorem take_all {L : List Nat} {i : Nat} (h : L.length ≤ i) : L.take i = L := List.take_of_length_le h
theorem fold_s {α : Type} {L : List Nat} {i : Nat} {g : α → Nat → α} {a : α} (h : i < L.length) : (L.take (i + 1)).foldl g a = g ((L.take i).foldl g a) (L.getD i 0) := by
  rw [take_s h, List.foldl_append]
  rfl
/-- words that objects need, and copies one behind the other -/
def szL (fl : Nat → Nat) (t : Nat) (L : List Nat) : Nat := L.foldl (fun t x => t + (fl x + 1)) t
def plC (fl : Nat → Nat) (s : Nat × (Nat → Nat) × (Nat → Option Nat)) (x : Nat) : Nat × (Nat → Nat) × (Nat → Option Nat) := (s.1 + (fl x + 1), va_up s.2.1 x s.1, fillO s.2.2 s.1 (fl x + 1) (some x))
theorem szL_s {fl : Nat → Nat} {t i : Nat} {L : List Nat} (h : i < L.length) : szL fl t (L.take (i + 1)) = szL fl t (L.take i) + (fl (L.getD i 0) + 1) := fold_s h
theorem szL_mono (fl : Nat → Nat) : ∀ (L : List Nat) (t : Nat), t ≤ szL fl t L
  | [], t => Nat.le_refl t
  | x :: l, t => by
    have := szL_mono fl l (t + (fl x + 1))
    show t ≤ szL fl (t + (fl x + 1)) l
    omega
theorem szL_app (fl : Nat → Nat) (t : Nat) (L M : List Nat) : szL fl t (L ++ M) = szL fl (szL fl t L) M := List.foldl_append
theorem szL_take (fl : Nat → Nat) (t i : Nat) (L : List Nat) : szL fl t (L.take i) ≤ szL fl t L := by
  have h := szL_app fl t (L.take i) (L.drop i)
  rw [List.take_append_drop] at h
  rw [h]
  exact szL_mono fl _ _
theorem plC_1 (fl : Nat → Nat) : ∀ (L : List Nat) (s : Nat × (Nat → Nat) × (Nat → Option Nat)), (L.foldl (plC fl) s).1 = szL fl s.1 L
  | [], _ => rfl
  | x :: l, s => plC_1 fl l (plC fl s x)
theorem szL_add (fl : Nat → Nat) : ∀ (L : List Nat) (t : Nat), szL fl t L = t + szL fl 0 L
  | [], t => rfl
  | x :: l, t => by
    have h1 := szL_add fl l (t + (fl x + 1))
    have h2 := szL_add fl l (0 + (fl x + 1))
    show szL fl (t + (fl x + 1)) l = t + szL fl (0 + (fl x + 1)) l
    omega
theorem cal_X2_sumFrom : mCal yX2_sumFrom cX2_sumFrom 6 1 (some .long) := ⟨in_657, by decide +kernel⟩
set_option maxHeartbeats 4000000 in
set_option maxRecDepth 100000 in
theorem e_sumFrom {l : Launch} {dC : Nat → ClassId} {dI : Nat → Nat → Nat} {cI cZ cT : ClassId} {q : Nat → Nat} {kp : Nat} {Wn : Nat} {made : Nat} {fl : (Nat → Nat)} {num : (Nat → Nat → Int32)} {rfs : (Nat → Nat → Option Nat)} {root : (Nat → Option Nat)} {own : (Nat → Option Nat)} {tad : (Nat → Nat)} {trm : (Nat → Bool)} {tpl : (Nat → Nat)} {wlk : (Nat → Nat)} {ord : (Nat → Nat)} {met : (Nat → Option Nat)} {msz : Nat} {cur : Nat} {mend : Nat} {pnx : Nat} {pen : Nat} {st : Nat} {coll : Nat} {mins : Nat} {movd : Nat} {Kp : Nat → Prop} (hB : ∀ M : List Nat, M.Nodup → (∀ x ∈ M, Kp x) → M.length ≤ Wn) (hKm : ∀ x, Kp x → x < made) (hKf : ∀ x, Kp x → ∀ i, i < fl x → ∀ t, rfs x i = some t → Kp t) (hfl : ∀ x, x < made → fl x ≤ 6) {w : mM} (hC : CW cI cT q kp Wn made fl num rfs root own tad trm tpl wlk ord met msz cur mend pnx pen st coll mins movd w) (hW4 : Wn ≤ 400) (hcb : cur + 1 < 2147483648) (htb : ∀ t, t < made → tad t < 2147483648) (hwb : ∀ o, o < made → wlk o ≤ cur) (hmt : ∀ k t, met k = some t → t < made) (k : Nat) (hk : Kp k) : mC l yX2_sumFrom (wsY yX2_sumFrom cX2_sumFrom 6 (some .long)) { frames := 3, cells := 0, slots := 0, locals := 64 } (dC, dI) vwCl (tyL cI cZ cT) 0 0 w [.ref (q 5), .ref (tq q k)] (fun v w2 => ∃ (mt3 : Nat → Option Nat) (ms3 : Nat) (wl3 od3 : Nat → Nat), v = some (.long ((flw (okC tad Wn) fl rfs 401 0 (mtL (okC tad Wn) [] (some k))).foldl (smO fl num rfs od3) 7)) ∧ CW cI cT q kp Wn made fl num rfs root own tad trm tpl wl3 od3 mt3 ms3 ((cur + 1)) Wn pnx pen st coll mins movd w2 ∧ LsC made (cur + 1) ms3 mt3 wl3 od3 (flw (okC tad Wn) fl rfs 401 0 (mtL (okC tad Wn) [] (some k)))) := by
  refine mC.on (by decide) (Nat.le_of_ble_eq_true rfl) ?_
  intro p e s m args below meth c ls S hr hlk hnm hK hN hG hl
  have hl : lv_has ls 6 [(0, .ref (q 5)), (1, .ref (tq q k))] := hl
  generalize hAe : mA w s.heap.size = A at hG ⊢
  have hkm := hKm k hk
  refine lv_aload_n S.1 S.2.1 dX2_sumFrom_0 rfl (lv_at hl 0 rfl) ?_
  refine cg_RX2_30 S hK hG hC dX2_sumFrom_1 ?_
  refine lv_aload_n S.1 S.2.1 dX2_sumFrom_4 rfl (lv_at hl 0 rfl) ?_
  refine cg_RX2_9 S hK hG hC dX2_sumFrom_5 ?_
  refine mCV (As := []) (rest := [.ref (q 6)]) S (w_length hC) cal_X8_length in_84 in_85 in_86 in_18 hK hN hG hC.obj8 rfl rfl rfl hl.1 (Nat.le_of_ble_eq_true rfl) ⟨by decide, by decide⟩ ⟨rfl, rfl⟩ ⟨by decide, by decide⟩ dX2_sumFrom_8 (fun v w H locs hp hG => ?_)
  obtain ⟨rfl, hw9⟩ := hp
  have hw9 := hw9.symm
  subst hw9
  refine W.eq (g2 := F0 m 11 ls [.int (nI (Wn)), .ref (q 6)]) rfl ?_
  refine mCV (As := [.int (nI (Wn))]) (rest := []) S (k_begin hC Wn) cal_X7_begin in_298 in_188 in_189 in_79 hK hN hG hC.obj7 rfl rfl rfl hl.1 (Nat.le_of_ble_eq_true rfl) ⟨by decide, by decide⟩ ⟨rfl, rfl⟩ ⟨by decide, by decide⟩ dX2_sumFrom_11 (fun v w H locs hp hG => ?_)
  obtain ⟨rfl, hC⟩ := hp
  refine W.eq (g2 := F0 m 14 ls []) rfl ?_
  have hn1 : ∀ x ∈ mtL (okC tad Wn) [] (some k), Kp x := mtL_all (fun x hx => absurd hx List.not_mem_nil) (fun t ht _ => by cases ht; exact hk)
  refine lv_aload_n S.1 S.2.1 dX2_sumFrom_14 rfl (lv_at hl 0 rfl) ?_
  refine cg_RX2_30 S hK hG hC dX2_sumFrom_15 ?_
  refine lv_aload_n S.1 S.2.1 dX2_sumFrom_18 rfl (lv_at hl 1 rfl) ?_
  refine mCV (As := [.ref (tq q k)]) (rest := []) S (k_meet hC hW4 hcb hW4 htb (LsC_nil hwb hmt) (some k) (fun t ht => by cases ht; exact hkm) (hB _ (mtL_nd List.nodup_nil) hn1)) cal_X7_meet in_659 in_201 in_202 in_79 hK hN hG hC.obj7 rfl rfl rfl hl.1 (Nat.le_of_ble_eq_true rfl) ⟨by decide, by decide⟩ ⟨rfl, rfl⟩ ⟨by decide, by decide⟩ dX2_sumFrom_19 (fun v w H locs hp hG => ?_)
  obtain ⟨rfl, mt4, ms4, wl4, od4, hC, hLe⟩ := hp
  refine W.eq (g2 := F0 m 22 ls []) rfl ?_
  refine lv_aload_n S.1 S.2.1 dX2_sumFrom_22 rfl (lv_at hl 0 rfl) ?_
  refine cg_RX2_30 S hK hG hC dX2_sumFrom_23 ?_
  refine mCV (As := []) (rest := []) S (k_follow hB hKm hKf hfl hC hW4 hcb hW4 htb hLe hn1) cal_X7_follow in_300 in_236 in_237 in_79 hK hN hG hC.obj7 rfl rfl rfl hl.1 (Nat.le_of_ble_eq_true rfl) ⟨by decide, by decide⟩ ⟨rfl, rfl⟩ ⟨by decide, by decide⟩ dX2_sumFrom_26 (fun v w H locs hp hG => ?_)
  obtain ⟨rfl, mt5, ms5, wl5, od5, hC, hLf⟩ := hp
  refine W.eq (g2 := F0 m 29 ls []) rfl ?_
  have hKf2 : ∀ x ∈ flw (okC tad Wn) fl rfs 401 0 (mtL (okC tad Wn) [] (some k)), Kp x := flw_all (fun x hx i hi t ht _ => hKf x hx i hi t ht) 401 0 _ hn1
  have hlen := hB _ hLf.1 hKf2
  have hmsz := hLf.2.1
  generalize hLL : flw (okC tad Wn) fl rfs 401 0 (mtL (okC tad Wn) [] (some k)) = L at hLf hKf2 hlen hmsz ⊢
  refine lv_ldc2 S.1 S.2.1 S.2.2.2.1 (S.2.2.2.2 _ in_658) dX2_sumFrom_29 ?_
  refine lv_lstore_n (lv' := [(2, .long (7)), (0, .ref (q 5)), (1, .ref (tq q k))]) S.1 S.2.1 dX2_sumFrom_32 rfl hl (by decide) rfl (fun ls hl => ?_)
  refine lv_iconst (v := nI (0)) S.1 S.2.1 dX2_sumFrom_33 (by decide) ?_
  refine lv_istore (lv' := [(4, .int (nI (0))), (2, .long (7)), (0, .ref (q 5)), (1, .ref (tq q k))]) S.1 S.2.1 dX2_sumFrom_34 hl (by decide) rfl (fun ls hl => ?_)
  have L9 : ∀ (fu : Nat) (i : Nat), L.length - i < fu → (i ≤ L.length) → ∀ (H : Heap) (locs : List Loc), mG (dC, dI) vwCl A s.heap w H locs → ∀ ls : Array Slot, lv_has ls 6 [(4, .int (nI (i))), (2, .long ((L.take i).foldl (smO fl num rfs od5) 7)), (0, .ref (q 5)), (1, .ref (tq q k))] → W p l e { frames := 3, cells := 0, slots := 0, locals := 64 } s m args below meth c H locs 0 0 (MQ below (mQ (dC, dI) vwCl (tyL cI cZ cT) (fun v w2 => ∃ (mt3 : Nat → Option Nat) (ms3 : Nat) (wl3 od3 : Nat → Nat), v = some (.long ((L).foldl (smO fl num rfs od3) 7)) ∧ CW cI cT q kp Wn made fl num rfs root own tad trm tpl wl3 od3 mt3 ms3 ((cur + 1)) Wn pnx pen st coll mins movd w2 ∧ LsC made (cur + 1) ms3 mt3 wl3 od3 (L)) A) args s 0 0 A) (F0 m 36 ls []) := by
    intro fu
    induction fu with
    | zero => intro i h1; exact absurd h1 (Nat.not_lt_zero _)
    | succ fu ihL9 =>
      intro i h1 h2 H locs hG ls hl
      refine lv_iload S.1 S.2.1 dX2_sumFrom_36 (lv_at hl 0 rfl) ?_
      refine lv_aload_n S.1 S.2.1 dX2_sumFrom_38 rfl (lv_at hl 2 rfl) ?_
      refine cg_RX2_30 S hK hG hC dX2_sumFrom_39 ?_
      refine mCV (As := []) (rest := [.int (nI (i))]) S (k_size hC) cal_X7_size in_633 in_246 in_247 in_79 hK hN hG hC.obj7 rfl rfl rfl hl.1 (Nat.le_of_ble_eq_true rfl) ⟨by decide, by decide⟩ ⟨rfl, rfl⟩ ⟨by decide, by decide⟩ dX2_sumFrom_42 (fun v w H locs hp hG => ?_)
      obtain ⟨rfl, hw9⟩ := hp
      have hw9 := hw9.symm
      subst hw9
      refine W.eq (g2 := F0 m 45 ls [.int (nI (ms5)), .int (nI (i))]) rfl ?_
      refine lv_icmp_ge (tgt := 77) S.1 S.2.1 dX2_sumFrom_45 (by decide) (fun c1 => ?_) (fun c1 => ?_)
      · have c1 : ms5 ≤ i := (nI_leI (a := ms5) (b := i) (by omega) (by omega)).mp c1
        rw [take_all (by omega)] at hl
        refine lv_lload_n S.1 S.2.1 dX2_sumFrom_77 rfl (lv_at hl 1 rfl) ?_
        exact mw_lret S hr hlk hK hG dX2_sumFrom_78 ⟨mt5, ms5, wl5, od5, rfl, hC, hLf⟩
      · have c1 : ¬ (ms5 ≤ i) := fun h9 => c1 ((nI_leI (a := ms5) (b := i) (by omega) (by omega)).mpr h9)
        have hrow := LsC_row hLf (show i < ms5 by omega)
        have hxm := hrow.2.2
        refine lv_aload_n S.1 S.2.1 dX2_sumFrom_48 rfl (lv_at hl 2 rfl) ?_
        refine cg_RX2_30 S hK hG hC dX2_sumFrom_49 ?_
        refine lv_iload S.1 S.2.1 dX2_sumFrom_52 (lv_at hl 0 rfl) ?_
        refine mCV (As := [.int (nI (i))]) (rest := []) S (k_thingOf hC (by omega) i (by omega) (by omega)) cal_X7_thingOf in_660 in_250 in_251 in_79 hK hN hG hC.obj7 rfl rfl rfl hl.1 (Nat.le_of_ble_eq_true rfl) ⟨by decide, by decide⟩ ⟨rfl, rfl⟩ ⟨by decide, by decide⟩ dX2_sumFrom_54 (fun v w H locs hp hG => ?_)
        obtain ⟨rfl, hw9⟩ := hp
        have hw9 := hw9.symm
        subst hw9
        refine W.eq (g2 := F0 m 57 ls [va_rf ((mt5 i).map (tq q))]) rfl ?_
        rw [hrow.1]
        refine W.eq (g2 := F0 m 57 ls [.ref (tq q (L.getD i 0))]) rfl ?_
        refine lv_astore (lv' := [(5, .ref (tq q (L.getD i 0))), (4, .int (nI (i))), (2, .long ((L.take i).foldl (smO fl num rfs od5) 7)), (0, .ref (q 5)), (1, .ref (tq q k))]) S.1 S.2.1 dX2_sumFrom_57 hl (by decide) rfl (fun ls hl => ?_)
        refine lv_aload S.1 S.2.1 dX2_sumFrom_59 (lv_at hl 0 rfl) ?_
        refine lv_ifnull S.1 S.2.1 dX2_sumFrom_61 ?_
        refine lv_lload_n S.1 S.2.1 dX2_sumFrom_64 rfl (lv_at hl 2 rfl) ?_
        refine lv_aload S.1 S.2.1 dX2_sumFrom_65 (lv_at hl 0 rfl) ?_
        refine mCS (As := [.long ((L.take i).foldl (smO fl num rfs od5) 7), .ref (tq q (L.getD i 0))]) (rest := []) S (e_sumWith hC (by omega) ((L.take i).foldl (smO fl num rfs od5) 7) (L.getD i 0) hxm (hfl _ hxm) (fun j hj t ht => hKm _ (hKf _ (hKf2 _ hrow.2.1) j hj t ht))) cal_X2_sumWith rfl in_661 in_662 in_72 hK hN hG rfl rfl hl.1 (Nat.le_of_ble_eq_true rfl) ⟨by decide, by decide⟩ ⟨rfl, rfl⟩ ⟨by decide, by decide⟩ dX2_sumFrom_67 (fun v w H locs hp hG => ?_)
        obtain ⟨rfl, hw9⟩ := hp
        have hw9 := hw9.symm
        subst hw9
        refine W.eq (g2 := F0 m 70 ls [.long (smO fl num rfs od5 ((L.take i).foldl (smO fl num rfs od5) 7) (L.getD i 0))]) rfl ?_
        refine lv_eql (y := (L.take (i + 1)).foldl (smO fl num rfs od5) 7) (fold_s (show i < L.length by omega)).symm ?_
        refine lv_lstore_n (lv' := [(2, .long ((L.take (i + 1)).foldl (smO fl num rfs od5) 7)), (5, .ref (tq q (L.getD i 0))), (4, .int (nI (i))), (0, .ref (q 5)), (1, .ref (tq q k))]) S.1 S.2.1 dX2_sumFrom_70 rfl hl (by decide) rfl (fun ls hl => ?_)
        refine lv_iinc (v := nI (i + 1)) (lv' := [(4, .int (nI (i + 1))), (2, .long ((L.take (i + 1)).foldl (smO fl num rfs od5) 7)), (5, .ref (tq q (L.getD i 0))), (0, .ref (q 5)), (1, .ref (tq q k))]) S.1 S.2.1 dX2_sumFrom_71 hl (k := 2) rfl (nI_1 _) (by decide) rfl (fun ls hl => ?_)
        refine lv_goto (tgt := 36) S.1 S.2.1 dX2_sumFrom_74 (by decide) ?_
        exact ihL9 (i + 1) (by omega) (by omega) _ _ hG ls (lv_sub hl [0, 1, 3, 4] rfl)
  exact L9 (L.length + 1) 0 (by omega) (by omega) _ _ hG ls (lv_sub hl [0, 1, 2, 3] rfl)
theorem cal_X5_take : mCal yX5_take cX5_take 2 1 (some .int) := ⟨in_163, by decide +kernel⟩
set_option maxHeartbeats 4000000 in
set_option maxRecDepth 100000 in
theorem s_take {l : Launch} {dC : Nat → ClassId} {dI : Nat → Nat → Nat} {cI cZ cT : ClassId} {q : Nat → Nat} {kp : Nat} {Wn : Nat} {made : Nat} {fl : (Nat → Nat)} {num : (Nat → Nat → Int32)} {rfs : (Nat → Nat → Option Nat)} {root : (Nat → Option Nat)} {own : (Nat → Option Nat)} {tad : (Nat → Nat)} {trm : (Nat → Bool)} {tpl : (Nat → Nat)} {wlk : (Nat → Nat)} {ord : (Nat → Nat)} {met : (Nat → Option Nat)} {msz : Nat} {cur : Nat} {mend : Nat} {pnx : Nat} {pen : Nat} {st : Nat} {coll : Nat} {mins : Nat} {movd : Nat} {w : mM} (hC : CW cI cT q kp Wn made fl num rfs root own tad trm tpl wlk ord met msz cur mend pnx pen st coll mins movd w) (hkp : kp = 0) (hW4 : Wn ≤ 400) (n : Nat) (h1 : 1 ≤ n) (h2 : n ≤ 7) : mC l yX5_take (wsY yX5_take cX5_take 2 (some .int)) { frames := 2, cells := 0, slots := 0, locals := 45 } (dC, dI) vwCl (tyL cI cZ cT) 0 0 w [.ref (q 5), .int (nI (n))] (fun v w2 => v = some (.int (oI (fit own Wn 0 n))) ∧ w2 = w) := by
  refine mC.on (by decide) (Nat.le_of_ble_eq_true rfl) ?_
  intro p e s m args below meth c ls S hr hlk hnm hK hN hG hl
  have hl : lv_has ls 2 [(0, .ref (q 5)), (1, .int (nI (n)))] := hl
  generalize hAe : mA w s.heap.size = A at hG ⊢
  refine lv_aload_n S.1 S.2.1 dX5_take_0 rfl (lv_at hl 0 rfl) ?_
  refine cg_RX5_7 S hK hG hC hkp dX5_take_1 ?_
  refine lv_iconst (v := nI (0)) S.1 S.2.1 dX5_take_4 (by decide) ?_
  refine lv_iload_n S.1 S.2.1 dX5_take_5 rfl (lv_at hl 1 rfl) ?_
  refine mCV (As := [.int (nI (0)), .int (nI (n))]) (rest := []) S (w_gapFrom hC (by omega) 0 n (by omega) h1 h2 hW4) cal_X8_gapFrom in_166 in_167 in_168 in_18 hK hN hG hC.obj8 rfl rfl rfl hl.1 (Nat.le_of_ble_eq_true rfl) ⟨by decide, by decide⟩ ⟨rfl, rfl⟩ ⟨by decide, by decide⟩ dX5_take_6 (fun v w H locs hp hG => ?_)
  obtain ⟨rfl, hw9⟩ := hp
  have hw9 := hw9.symm
  subst hw9
  refine W.eq (g2 := F0 m 9 ls [.int (oI (fit own Wn 0 n))]) rfl ?_
  exact mw_iret S hr hlk hK hG dX5_take_9 ⟨rfl, rfl⟩
theorem cal_X5_gather : mCal yX5_gather cX5_gather 1 0 (some .int) := ⟨in_349, by decide +kernel⟩
set_option maxHeartbeats 4000000 in
set_option maxRecDepth 100000 in
theorem s_gather {l : Launch} {dC : Nat → ClassId} {dI : Nat → Nat → Nat} {cI cZ cT : ClassId} {q : Nat → Nat} {kp : Nat} {Wn : Nat} {made : Nat} {fl : (Nat → Nat)} {num : (Nat → Nat → Int32)} {rfs : (Nat → Nat → Option Nat)} {root : (Nat → Option Nat)} {own : (Nat → Option Nat)} {tad : (Nat → Nat)} {trm : (Nat → Bool)} {tpl : (Nat → Nat)} {wlk : (Nat → Nat)} {ord : (Nat → Nat)} {met : (Nat → Option Nat)} {msz : Nat} {cur : Nat} {mend : Nat} {pnx : Nat} {pen : Nat} {st : Nat} {coll : Nat} {mins : Nat} {movd : Nat} {Kp : Nat → Prop} (hB : ∀ M : List Nat, M.Nodup → (∀ x ∈ M, Kp x) → M.length ≤ Wn) (hKm : ∀ x, Kp x → x < made) (hKf : ∀ x, Kp x → ∀ i, i < fl x → ∀ t, rfs x i = some t → Kp t) (hfl : ∀ x, x < made → fl x ≤ 6) {w : mM} (hC : CW cI cT q kp Wn made fl num rfs root own tad trm tpl wlk ord met msz cur mend pnx pen st coll mins movd w) (hkp : kp = 0) (hW4 : Wn ≤ 400) (hcb : cur + 1 < 2147483648) (htb : ∀ t, t < made → tad t < 2147483648) (hwb : ∀ o, o < made → wlk o ≤ cur) (hmt : ∀ k t, met k = some t → t < made) (hKr : ∀ i, i < 16 → ∀ t, root i = some t → Kp t) (hLy : LyC made Wn fl tad own) : mC l yX5_gather (wsY yX5_gather cX5_gather 1 (some .int)) { frames := 4, cells := 0, slots := 0, locals := 84 } (dC, dI) vwCl (tyL cI cZ cT) 0 0 w [.ref (q 5)] (fun v w2 => ∃ (mt3 : Nat → Option Nat) (ms3 : Nat) (wl3 od3 : Nat → Nat), v = some (.int (nI (cnt (cw 0 own tad (ntL (flw (okC tad Wn) fl rfs 401 0 (mtN (okC tad Wn) root 16 [])))) Wn))) ∧ CW cI cT q kp Wn made fl num rfs root ((swO (dd 0 Wn tad (ntL (flw (okC tad Wn) fl rfs 401 0 (mtN (okC tad Wn) root 16 [])))) own)) tad trm tpl wl3 od3 mt3 ms3 ((cur + 1)) Wn pnx pen st ((coll + 1)) mins movd w2 ∧ LsC made (cur + 1) ms3 mt3 wl3 od3 (flw (okC tad Wn) fl rfs 401 0 (mtN (okC tad Wn) root 16 []))) := by
  refine mC.on (by decide) (Nat.le_of_ble_eq_true rfl) ?_
  intro p e s m args below meth c ls S hr hlk hnm hK hN hG hl
  have hl : lv_has ls 1 [(0, .ref (q 5))] := hl
  generalize hAe : mA w s.heap.size = A at hG ⊢
  refine lv_aload_n S.1 S.2.1 dX5_gather_0 rfl (lv_at hl 0 rfl) ?_
  refine lv_dup S.1 S.2.1 dX5_gather_1 rfl ?_
  refine cg_RX5_23 S hK hG hC hkp dX5_gather_2 ?_
  refine lv_iconst (v := nI (1)) S.1 S.2.1 dX5_gather_5 (by decide) ?_
  refine lv_iadd S.1 S.2.1 dX5_gather_6 ?_
  refine lv_eqi (nI_add _ _) ?_
  refine cp_RX5_23 S hK hG hC hkp (coll + 1) dX5_gather_7 (fun w H locs hC hG => ?_)
  refine lv_aload_n S.1 S.2.1 dX5_gather_10 rfl (lv_at hl 0 rfl) ?_
  refine mCU (As := []) (rest := []) S (e_walkFromRoots hB hKm hKf hfl hC hW4 hcb htb hwb hmt hKr) (va_cwU (owner := "KeptHeap$Keeper") (x := ⟨"KeptHeap$Sweeper", "walkFromRoots", "()V"⟩) 0 S.2.2.2.2 (mGU (own := RX5) (index := 27) (x := ⟨"KeptHeap$Sweeper", "walkFromRoots", "()V"⟩) (owner := "KeptHeap$Keeper") in_297 in_352 in_353 in_354 in_296 in_72) rfl rfl rfl rfl (by decide +kernel) ⟨by decide, by decide⟩) hK hN hG (hC.obj5 hkp) rfl rfl rfl hl.1 (Nat.le_of_ble_eq_true rfl) ⟨by decide, by decide⟩ dX5_gather_11 (fun v w H locs hp hG => ?_)
  obtain ⟨rfl, mt5, ms5, wl5, od5, hC, hLf⟩ := hp
  refine W.eq (g2 := F0 m 14 ls []) rfl ?_
  refine lv_aload_n S.1 S.2.1 dX5_gather_14 rfl (lv_at hl 0 rfl) ?_
  refine lv_iconst (v := nI (0)) S.1 S.2.1 dX5_gather_15 (by decide) ?_
  refine mCU (As := [.int (nI (0))]) (rest := []) S (e_sweepFromL hC (by omega) hcb htb hLy hLf 0 (by omega)) (va_cwU (owner := "KeptHeap$Keeper") (x := ⟨"KeptHeap$Sweeper", "sweepFrom", "(I)I"⟩) 1 S.2.2.2.2 (mGU (own := RX5) (index := 31) (x := ⟨"KeptHeap$Sweeper", "sweepFrom", "(I)I"⟩) (owner := "KeptHeap$Keeper") in_305 in_355 in_356 in_357 in_304 in_72) rfl rfl rfl rfl (by decide +kernel) ⟨by decide, by decide⟩) hK hN hG (hC.obj5 hkp) rfl rfl rfl hl.1 (Nat.le_of_ble_eq_true rfl) ⟨by decide, by decide⟩ dX5_gather_16 (fun v w H locs hp hG => ?_)
  obtain ⟨rfl, hC⟩ := hp
  refine W.eq (g2 := F0 m 19 ls [.int (nI (cnt (cw 0 own tad (ntL (flw (okC tad Wn) fl rfs 401 0 (mtN (okC tad Wn) root 16 [])))) Wn))]) rfl ?_
  exact mw_iret S hr hlk hK hG dX5_gather_19 ⟨mt5, ms5, wl5, od5, rfl, hC, hLf⟩
theorem cal_X5_clearRoomFor : mCal yX5_clearRoomFor cX5_clearRoomFor 2 1 none := ⟨in_345, by decide +kernel⟩
set_option maxHeartbeats 4000000 in
set_option maxRecDepth 100000 in
theorem s_clearRoomFor {l : Launch} {dC : Nat → ClassId} {dI : Nat → Nat → Nat} {cI cZ cT : ClassId} {q : Nat → Nat} {kp : Nat} {Wn : Nat} {made : Nat} {fl : (Nat → Nat)} {num : (Nat → Nat → Int32)} {rfs : (Nat → Nat → Option Nat)} {root : (Nat → Option Nat)} {own : (Nat → Option Nat)} {tad : (Nat → Nat)} {trm : (Nat → Bool)} {tpl : (Nat → Nat)} {wlk : (Nat → Nat)} {ord : (Nat → Nat)} {met : (Nat → Option Nat)} {msz : Nat} {cur : Nat} {mend : Nat} {pnx : Nat} {pen : Nat} {st : Nat} {coll : Nat} {mins : Nat} {movd : Nat} {Kp : Nat → Prop} (hB : ∀ M : List Nat, M.Nodup → (∀ x ∈ M, Kp x) → M.length ≤ Wn) (hKm : ∀ x, Kp x → x < made) (hKf : ∀ x, Kp x → ∀ i, i < fl x → ∀ t, rfs x i = some t → Kp t) (hfl : ∀ x, x < made → fl x ≤ 6) {w : mM} (hC : CW cI cT q kp Wn made fl num rfs root own tad trm tpl wlk ord met msz cur mend pnx pen st coll mins movd w) (hkp : kp = 0) (hW4 : Wn ≤ 400) (hcb : cur + 1 < 2147483648) (htb : ∀ t, t < made → tad t < 2147483648) (hwb : ∀ o, o < made → wlk o ≤ cur) (hmt : ∀ k t, met k = some t → t < made) (hKr : ∀ i, i < 16 → ∀ t, root i = some t → Kp t) (hLy : LyC made Wn fl tad own) (n : Nat) : mC l yX5_clearRoomFor (wsY yX5_clearRoomFor cX5_clearRoomFor 2 none) { frames := 5, cells := 0, slots := 0, locals := 104 } (dC, dI) vwCl (tyL cI cZ cT) 0 0 w [.ref (q 5), .int (nI (n))] (fun v w2 => v = none ∧ ∃ (mt3 : Nat → Option Nat) (ms3 : Nat) (wl3 od3 : Nat → Nat), CW cI cT q kp Wn made fl num rfs root ((swO (dd 0 Wn tad (ntL (flw (okC tad Wn) fl rfs 401 0 (mtN (okC tad Wn) root 16 [])))) own)) tad trm tpl wl3 od3 mt3 ms3 ((cur + 1)) Wn pnx pen st ((coll + 1)) mins movd w2 ∧ LsC made (cur + 1) ms3 mt3 wl3 od3 (flw (okC tad Wn) fl rfs 401 0 (mtN (okC tad Wn) root 16 []))) := by
  refine mC.on (by decide) (Nat.le_of_ble_eq_true rfl) ?_
  intro p e s m args below meth c ls S hr hlk hnm hK hN hG hl
  have hl : lv_has ls 2 [(0, .ref (q 5)), (1, .int (nI (n)))] := hl
  generalize hAe : mA w s.heap.size = A at hG ⊢
  refine lv_aload_n S.1 S.2.1 dX5_clearRoomFor_0 rfl (lv_at hl 0 rfl) ?_
  refine mCV (As := []) (rest := []) S (s_gather hB hKm hKf hfl hC hkp hW4 hcb htb hwb hmt hKr hLy) cal_X5_gather in_346 in_347 in_348 in_60 hK hN hG (hC.obj5 hkp) rfl rfl rfl hl.1 (Nat.le_of_ble_eq_true rfl) ⟨by decide, by decide⟩ ⟨rfl, rfl⟩ ⟨by decide, by decide⟩ dX5_clearRoomFor_1 (fun v w H locs hp hG => ?_)
  obtain ⟨mt5, ms5, wl5, od5, rfl, hC, hLf⟩ := hp
  refine W.eq (g2 := F0 m 4 ls [.int (nI (cnt (cw 0 own tad (ntL (flw (okC tad Wn) fl rfs 401 0 (mtN (okC tad Wn) root 16 [])))) Wn))]) rfl ?_
  refine lv_pop S.1 S.2.1 dX5_clearRoomFor_4 rfl ?_
  exact mw_vret S hr hlk hK hG dX5_clearRoomFor_5 ⟨rfl, mt5, ms5, wl5, od5, hC, hLf⟩
theorem cal_X1_take : mCal yX1_take cX1_take 2 1 (some .int) := ⟨in_159, by decide +kernel⟩
set_option maxHeartbeats 4000000 in
set_option maxRecDepth 100000 in
theorem y_take {l : Launch} {dC : Nat → ClassId} {dI : Nat → Nat → Nat} {cI cZ cT : ClassId} {q : Nat → Nat} {kp : Nat} {Wn : Nat} {made : Nat} {fl : (Nat → Nat)} {num : (Nat → Nat → Int32)} {rfs : (Nat → Nat → Option Nat)} {root : (Nat → Option Nat)} {own : (Nat → Option Nat)} {tad : (Nat → Nat)} {trm : (Nat → Bool)} {tpl : (Nat → Nat)} {wlk : (Nat → Nat)} {ord : (Nat → Nat)} {met : (Nat → Option Nat)} {msz : Nat} {cur : Nat} {mend : Nat} {pnx : Nat} {pen : Nat} {st : Nat} {coll : Nat} {mins : Nat} {movd : Nat} {w : mM} (hC : CW cI cT q kp Wn made fl num rfs root own tad trm tpl wlk ord met msz cur mend pnx pen st coll mins movd w) (hkp : kp = 1) (n : Nat) (hn : n < 1000) (h1 : pnx < 1000) (h2 : pen < 1000) : mC l yX1_take (wsY yX1_take cX1_take 2 (some .int)) { frames := 1, cells := 0, slots := 0, locals := 22 } (dC, dI) vwCl (tyL cI cZ cT) 0 0 w [.ref (q 5), .int (nI (n))] (fun v w2 => v = some (.int (oI (if pnx + n ≤ pen then some pnx else none))) ∧ CW cI cT q kp Wn made fl num rfs root own tad trm tpl wlk ord met msz cur mend ((if pnx + n ≤ pen then pnx + n else pnx)) pen st coll mins movd w2) := by
  refine mC.on (by decide) (Nat.le_of_ble_eq_true rfl) ?_
  intro p e s m args below meth c ls S hr hlk hnm hK hN hG hl
  have hl : lv_has ls 2 [(0, .ref (q 5)), (1, .int (nI (n)))] := hl
  generalize hAe : mA w s.heap.size = A at hG ⊢
  refine lv_aload_n S.1 S.2.1 dX1_take_0 rfl (lv_at hl 0 rfl) ?_
  refine cg_RX1_24 S hK hG hC hkp dX1_take_1 ?_
  refine lv_iload_n S.1 S.2.1 dX1_take_4 rfl (lv_at hl 1 rfl) ?_
  refine mCV (As := [.int (nI (n))]) (rest := []) S (p_take hC (by omega) n hn h1 h2) cal_X3_take in_160 in_154 in_155 in_67 hK hN hG (hC.obj3 (by omega)) rfl rfl rfl hl.1 (Nat.le_of_ble_eq_true rfl) ⟨by decide, by decide⟩ ⟨rfl, rfl⟩ ⟨by decide, by decide⟩ dX1_take_5 (fun v w H locs hp hG => ?_)
  obtain ⟨rfl, hC⟩ := hp
  refine W.eq (g2 := F0 m 8 ls [.int (oI (if pnx + n ≤ pen then some pnx else none))]) rfl ?_
  exact mw_iret S hr hlk hK hG dX1_take_8 ⟨rfl, hC⟩
theorem cal_X1_gather : mCal yX1_gather cX1_gather 4 0 (some .int) := ⟨in_319, by decide +kernel⟩
set_option maxHeartbeats 4000000 in
set_option maxRecDepth 100000 in
theorem y_gather {l : Launch} {dC : Nat → ClassId} {dI : Nat → Nat → Nat} {cI cZ cT : ClassId} {q : Nat → Nat} {kp : Nat} {Wn : Nat} {made : Nat} {fl : (Nat → Nat)} {num : (Nat → Nat → Int32)} {rfs : (Nat → Nat → Option Nat)} {root : (Nat → Option Nat)} {own : (Nat → Option Nat)} {tad : (Nat → Nat)} {trm : (Nat → Bool)} {tpl : (Nat → Nat)} {wlk : (Nat → Nat)} {ord : (Nat → Nat)} {met : (Nat → Option Nat)} {msz : Nat} {cur : Nat} {mend : Nat} {pnx : Nat} {pen : Nat} {st : Nat} {coll : Nat} {mins : Nat} {movd : Nat} {Kp : Nat → Prop} (hB : ∀ M : List Nat, M.Nodup → (∀ x ∈ M, Kp x) → M.length ≤ Wn) (hKm : ∀ x, Kp x → x < made) (hKf : ∀ x, Kp x → ∀ i, i < fl x → ∀ t, rfs x i = some t → Kp t) (hfl : ∀ x, x < made → fl x ≤ 6) {w : mM} (hC : CW cI cT q kp Wn made fl num rfs root own tad trm tpl wlk ord met msz cur mend pnx pen st coll mins movd w) (hkp : kp = 1) (hst : st < 1000) (hW4 : Wn ≤ 400) (hcb : cur + 1 < 2147483648) (htb : ∀ t, t < made → tad t < 2147483648) (hwb : ∀ o, o < made → wlk o ≤ cur) (hmt : ∀ k t, met k = some t → t < made) (hKr : ∀ i, i < 16 → ∀ t, root i = some t → Kp t) (hob : ∀ k t, own k = some t → t < made) (hcap : szL fl 0 (flw (okC tad Wn) fl rfs 401 0 (mtN (okC tad Wn) root 16 [])) ≤ Wn / 2) : mC l yX1_gather (wsY yX1_gather cX1_gather 4 (some .int)) { frames := 4, cells := 0, slots := 0, locals := 84 } (dC, dI) vwCl (tyL cI cZ cT) 0 0 w [.ref (q 5)] (fun v w2 => ∃ (mt3 : Nat → Option Nat) (ms3 : Nat) (wl3 od3 : Nat → Nat), v = some (.int (nI (cnt (fun k => (bgn own tad k).isSome) Wn) - nI (flw (okC tad Wn) fl rfs 401 0 (mtN (okC tad Wn) root 16 [])).length)) ∧ CW cI cT q kp Wn made fl num rfs root (((flw (okC tad Wn) fl rfs 401 0 (mtN (okC tad Wn) root 16 [])).foldl (plC fl) ((if st = 0 then Wn / 2 else 0), tad, fillO own 0 Wn none)).2.2) (((flw (okC tad Wn) fl rfs 401 0 (mtN (okC tad Wn) root 16 [])).foldl (plC fl) ((if st = 0 then Wn / 2 else 0), tad, fillO own 0 Wn none)).2.1) trm tpl wl3 od3 mt3 ms3 ((cur + 1)) Wn (((flw (okC tad Wn) fl rfs 401 0 (mtN (okC tad Wn) root 16 [])).foldl (plC fl) ((if st = 0 then Wn / 2 else 0), tad, fillO own 0 Wn none)).1) (((if st = 0 then Wn / 2 else 0) + Wn / 2)) ((if st = 0 then Wn / 2 else 0)) ((coll + 1)) mins ((movd + (flw (okC tad Wn) fl rfs 401 0 (mtN (okC tad Wn) root 16 [])).length)) w2 ∧ LsC made (cur + 1) ms3 mt3 wl3 od3 (flw (okC tad Wn) fl rfs 401 0 (mtN (okC tad Wn) root 16 []))) := by
  refine mC.on (by decide) (Nat.le_of_ble_eq_true rfl) ?_
  intro p e s m args below meth c ls S hr hlk hnm hK hN hG hl
  have hl : lv_has ls 4 [(0, .ref (q 5))] := hl
  generalize hAe : mA w s.heap.size = A at hG ⊢
  refine lv_aload_n S.1 S.2.1 dX1_gather_0 rfl (lv_at hl 0 rfl) ?_
  refine lv_dup S.1 S.2.1 dX1_gather_1 rfl ?_
  refine cg_RX1_38 S hK hG hC hkp dX1_gather_2 ?_
  refine lv_iconst (v := nI (1)) S.1 S.2.1 dX1_gather_5 (by decide) ?_
  refine lv_iadd S.1 S.2.1 dX1_gather_6 ?_
  refine lv_eqi (nI_add _ _) ?_
  refine cp_RX1_38 S hK hG hC hkp (coll + 1) dX1_gather_7 (fun w H locs hC hG => ?_)
  refine lv_aload_n S.1 S.2.1 dX1_gather_10 rfl (lv_at hl 0 rfl) ?_
  refine cg_RX1_41 S hK hG hC hkp dX1_gather_11 ?_
  refine lv_aload_n S.1 S.2.1 dX1_gather_14 rfl (lv_at hl 0 rfl) ?_
  refine cg_RX1_41 S hK hG hC hkp dX1_gather_15 ?_
  refine mCV (As := []) (rest := [.ref (q 1)]) S (w_length hC) cal_X8_length in_98 in_85 in_86 in_18 hK hN hG hC.obj8 rfl rfl rfl hl.1 (Nat.le_of_ble_eq_true rfl) ⟨by decide, by decide⟩ ⟨rfl, rfl⟩ ⟨by decide, by decide⟩ dX1_gather_18 (fun v w H locs hp hG => ?_)
  obtain ⟨rfl, hw9⟩ := hp
  have hw9 := hw9.symm
  subst hw9
  refine W.eq (g2 := F0 m 21 ls [.int (nI (Wn)), .ref (q 1)]) rfl ?_
  refine mCV (As := [.int (nI (Wn))]) (rest := []) S (w_thingsBelow hC hob (by omega) htb Wn (Nat.le_refl Wn)) cal_X8_thingsBelow in_328 in_268 in_269 in_18 hK hN hG hC.obj8 rfl rfl rfl hl.1 (Nat.le_of_ble_eq_true rfl) ⟨by decide, by decide⟩ ⟨rfl, rfl⟩ ⟨by decide, by decide⟩ dX1_gather_21 (fun v w H locs hp hG => ?_)
  obtain ⟨rfl, hw9⟩ := hp
  have hw9 := hw9.symm
  subst hw9
  refine W.eq (g2 := F0 m 24 ls [.int (nI (cnt (fun k => (bgn own tad k).isSome) Wn))]) rfl ?_
  refine lv_istore_n (lv' := [(1, .int (nI (cnt (fun k => (bgn own tad k).isSome) Wn))), (0, .ref (q 5))]) S.1 S.2.1 dX1_gather_24 rfl hl (by decide) rfl (fun ls hl => ?_)
  refine lv_aload_n S.1 S.2.1 dX1_gather_25 rfl (lv_at hl 1 rfl) ?_
  refine mCU (As := []) (rest := []) S (e_walkFromRoots hB hKm hKf hfl hC hW4 hcb htb hwb hmt hKr) (va_cwU (owner := "KeptHeap$Keeper") (x := ⟨"KeptHeap$Copier", "walkFromRoots", "()V"⟩) 0 S.2.2.2.2 (mGU (own := RX1) (index := 48) (x := ⟨"KeptHeap$Copier", "walkFromRoots", "()V"⟩) (owner := "KeptHeap$Keeper") in_297 in_329 in_330 in_331 in_296 in_72) rfl rfl rfl rfl (by decide +kernel) ⟨by decide, by decide⟩) hK hN hG (hC.obj1 hkp) rfl rfl rfl hl.1 (Nat.le_of_ble_eq_true rfl) ⟨by decide, by decide⟩ dX1_gather_26 (fun v w H locs hp hG => ?_)
  obtain ⟨rfl, mt5, ms5, wl5, od5, hC, hLf⟩ := hp
  refine W.eq (g2 := F0 m 29 ls []) rfl ?_
  refine lv_aload_n S.1 S.2.1 dX1_gather_29 rfl (lv_at hl 1 rfl) ?_
  refine cg_RX1_41 S hK hG hC hkp dX1_gather_30 ?_
  refine lv_iconst (v := nI (0)) S.1 S.2.1 dX1_gather_33 (by decide) ?_
  refine lv_aload_n S.1 S.2.1 dX1_gather_34 rfl (lv_at hl 1 rfl) ?_
  refine cg_RX1_41 S hK hG hC hkp dX1_gather_35 ?_
  refine mCV (As := []) (rest := [.int (nI (0)), .ref (q 1)]) S (w_length hC) cal_X8_length in_98 in_85 in_86 in_18 hK hN hG hC.obj8 rfl rfl rfl hl.1 (Nat.le_of_ble_eq_true rfl) ⟨by decide, by decide⟩ ⟨rfl, rfl⟩ ⟨by decide, by decide⟩ dX1_gather_38 (fun v w H locs hp hG => ?_)
  obtain ⟨rfl, hw9⟩ := hp
  have hw9 := hw9.symm
  subst hw9
  refine W.eq (g2 := F0 m 41 ls [.int (nI (Wn)), .int (nI (0)), .ref (q 1)]) rfl ?_
  refine lv_null S.1 S.2.1 dX1_gather_41 ?_
  refine mCV (As := [.int (nI (0)), .int (nI (Wn)), .null]) (rest := []) S (w_fill hC (by omega) 0 Wn (by omega) none (fun u hu => by cases hu)) cal_X8_fill in_332 in_259 in_260 in_18 hK hN hG hC.obj8 rfl rfl rfl hl.1 (Nat.le_of_ble_eq_true rfl) ⟨by decide, by decide⟩ ⟨rfl, rfl⟩ ⟨by decide, by decide⟩ dX1_gather_42 (fun v w H locs hp hG => ?_)
  obtain ⟨rfl, hC⟩ := hp
  refine W.eq (g2 := F0 m 45 ls []) rfl ?_
  have hKf2 : ∀ x ∈ flw (okC tad Wn) fl rfs 401 0 (mtN (okC tad Wn) root 16 []), Kp x := flw_all (fun x hx i hi t ht _ => hKf x hx i hi t ht) 401 0 _ (mtN_all (fun x hx => absurd hx List.not_mem_nil) 16 (fun i hi t ht _ => hKr i hi t ht))
  have hlen := hB _ hLf.1 hKf2
  have hmsz := hLf.2.1
  generalize hLL : flw (okC tad Wn) fl rfs 401 0 (mtN (okC tad Wn) root 16 []) = L at hLf hKf2 hlen hmsz hcap ⊢
  obtain ⟨s2, hs2⟩ : ∃ z, z = (if st = 0 then Wn / 2 else 0) := ⟨_, rfl⟩
  rw [← hs2]
  have hs3 : s2 ≤ Wn / 2 := by rw [hs2]; split <;> omega
  have hsz : ∀ i, szL fl s2 (L.take i) ≤ s2 + Wn / 2 := fun i => by
    have h1 := szL_take fl s2 i L
    have h2 := szL_add fl L s2
    omega
  refine lv_aload_n S.1 S.2.1 dX1_gather_45 rfl (lv_at hl 1 rfl) ?_
  refine lv_aload_n S.1 S.2.1 dX1_gather_46 rfl (lv_at hl 1 rfl) ?_
  refine cg_RX1_28 S hK hG hC hkp dX1_gather_47 ?_
  refine lv_if_ne (tgt := 60) S.1 S.2.1 dX1_gather_50 (by decide) (fun c1 => ?_) (fun c1 => ?_)
  · have c1 : ¬ (st = 0) := fun h9 => c1 ((nI_eq (a := st) (b := 0) (by omega) (by omega)).mpr h9)
    refine lv_iconst (v := nI (0)) S.1 S.2.1 dX1_gather_60 (by decide) ?_
    have hs9 : 0 = s2 := by rw [hs2]; rw [if_neg c1]
    refine lv_eqi (y := nI (s2)) (by rw [hs9]) ?_
    refine cp_RX1_28 S hK hG hC hkp (s2) dX1_gather_61 (fun w H locs hC hG => ?_)
    refine lv_aload_n S.1 S.2.1 dX1_gather_64 rfl (lv_at hl 1 rfl) ?_
    refine cg_RX1_24 S hK hG hC hkp dX1_gather_65 ?_
    refine lv_aload_n S.1 S.2.1 dX1_gather_68 rfl (lv_at hl 1 rfl) ?_
    refine cg_RX1_28 S hK hG hC hkp dX1_gather_69 ?_
    refine lv_aload_n S.1 S.2.1 dX1_gather_72 rfl (lv_at hl 1 rfl) ?_
    refine cg_RX1_13 S hK hG hC hkp dX1_gather_73 ?_
    refine mCV (As := [.int (nI (s2)), .int (nI (Wn / 2))]) (rest := []) S (p_restart hC (by omega) s2 (Wn / 2)) cal_X3_restart in_333 in_284 in_285 in_67 hK hN hG (hC.obj3 (by omega)) rfl rfl rfl hl.1 (Nat.le_of_ble_eq_true rfl) ⟨by decide, by decide⟩ ⟨rfl, rfl⟩ ⟨by decide, by decide⟩ dX1_gather_76 (fun v w H locs hp hG => ?_)
    obtain ⟨rfl, hC⟩ := hp
    refine W.eq (g2 := F0 m 79 ls []) rfl ?_
    refine lv_iconst (v := nI (0)) S.1 S.2.1 dX1_gather_79 (by decide) ?_
    refine lv_istore_n (lv' := [(2, .int (nI (0))), (1, .int (nI (cnt (fun k => (bgn own tad k).isSome) Wn))), (0, .ref (q 5))]) S.1 S.2.1 dX1_gather_80 rfl hl (by decide) rfl (fun ls hl => ?_)
    have L9 : ∀ (fu : Nat) (i : Nat), L.length - i < fu → (i ≤ L.length) → ∀ (w : mM) (H : Heap) (locs : List Loc), CW cI cT q kp Wn made fl num rfs root (((L.take i).foldl (plC fl) (s2, tad, fillO own 0 Wn none)).2.2) (((L.take i).foldl (plC fl) (s2, tad, fillO own 0 Wn none)).2.1) trm tpl wl5 od5 mt5 ms5 ((cur + 1)) Wn (((L.take i).foldl (plC fl) (s2, tad, fillO own 0 Wn none)).1) ((s2 + Wn / 2)) s2 ((coll + 1)) mins ((movd + i)) w → mG (dC, dI) vwCl A s.heap w H locs → ∀ ls : Array Slot, lv_has ls 4 [(2, .int (nI (i))), (1, .int (nI (cnt (fun k => (bgn own tad k).isSome) Wn))), (0, .ref (q 5))] → W p l e { frames := 4, cells := 0, slots := 0, locals := 84 } s m args below meth c H locs 0 0 (MQ below (mQ (dC, dI) vwCl (tyL cI cZ cT) (fun v w2 => ∃ (mt3 : Nat → Option Nat) (ms3 : Nat) (wl3 od3 : Nat → Nat), v = some (.int (nI (cnt (fun k => (bgn own tad k).isSome) Wn) - nI (L).length)) ∧ CW cI cT q kp Wn made fl num rfs root (((L).foldl (plC fl) (s2, tad, fillO own 0 Wn none)).2.2) (((L).foldl (plC fl) (s2, tad, fillO own 0 Wn none)).2.1) trm tpl wl3 od3 mt3 ms3 ((cur + 1)) Wn (((L).foldl (plC fl) (s2, tad, fillO own 0 Wn none)).1) ((s2 + Wn / 2)) (s2) ((coll + 1)) mins ((movd + (L).length)) w2 ∧ LsC made (cur + 1) ms3 mt3 wl3 od3 (L)) A) args s 0 0 A) (F0 m 81 ls []) := by
      intro fu
      induction fu with
      | zero => intro i h1; exact absurd h1 (Nat.not_lt_zero _)
      | succ fu ihL9 =>
        intro i h1 h2 w H locs hC hG ls hl
        refine lv_iload_n S.1 S.2.1 dX1_gather_81 rfl (lv_at hl 0 rfl) ?_
        refine lv_aload_n S.1 S.2.1 dX1_gather_82 rfl (lv_at hl 2 rfl) ?_
        refine cg_RX1_59 S hK hG hC hkp dX1_gather_83 ?_
        refine mCV (As := []) (rest := [.int (nI (i))]) S (k_size hC) cal_X7_size in_334 in_246 in_247 in_79 hK hN hG hC.obj7 rfl rfl rfl hl.1 (Nat.le_of_ble_eq_true rfl) ⟨by decide, by decide⟩ ⟨rfl, rfl⟩ ⟨by decide, by decide⟩ dX1_gather_86 (fun v w H locs hp hG => ?_)
        obtain ⟨rfl, hw9⟩ := hp
        have hw9 := hw9.symm
        subst hw9
        refine W.eq (g2 := F0 m 89 ls [.int (nI (ms5)), .int (nI (i))]) rfl ?_
        refine lv_icmp_ge (tgt := 140) S.1 S.2.1 dX1_gather_89 (by decide) (fun c2 => ?_) (fun c2 => ?_)
        · have c2 : ms5 ≤ i := (nI_leI (a := ms5) (b := i) (by omega) (by omega)).mp c2
          have hi : i = L.length := by omega
          rw [hi, take_all (Nat.le_refl _)] at hC
          refine lv_iload_n S.1 S.2.1 dX1_gather_140 rfl (lv_at hl 1 rfl) ?_
          refine lv_aload_n S.1 S.2.1 dX1_gather_141 rfl (lv_at hl 2 rfl) ?_
          refine cg_RX1_59 S hK hG hC hkp dX1_gather_142 ?_
          refine mCV (As := []) (rest := [.int (nI (cnt (fun k => (bgn own tad k).isSome) Wn))]) S (k_size hC) cal_X7_size in_334 in_246 in_247 in_79 hK hN hG hC.obj7 rfl rfl rfl hl.1 (Nat.le_of_ble_eq_true rfl) ⟨by decide, by decide⟩ ⟨rfl, rfl⟩ ⟨by decide, by decide⟩ dX1_gather_145 (fun v w H locs hp hG => ?_)
          obtain ⟨rfl, hw9⟩ := hp
          have hw9 := hw9.symm
          subst hw9
          refine W.eq (g2 := F0 m 148 ls [.int (nI (ms5)), .int (nI (cnt (fun k => (bgn own tad k).isSome) Wn))]) rfl ?_
          refine lv_isub S.1 S.2.1 dX1_gather_148 ?_
          exact mw_iret S hr hlk hK hG dX1_gather_149 ⟨mt5, ms5, wl5, od5, by rw [hmsz], hC, hLf⟩
        · have c2 : ¬ (ms5 ≤ i) := fun h9 => c2 ((nI_leI (a := ms5) (b := i) (by omega) (by omega)).mpr h9)
          have hrow := LsC_row hLf (show i < ms5 by omega)
          have hxm := hrow.2.2
          have hi2 : i < L.length := by omega
          have hz1 := hsz (i + 1)
          rw [szL_s hi2] at hz1
          have hp1 := plC_1 fl (L.take i) (s2, tad, fillO own 0 Wn none)
          dsimp only at hp1
          have hf6 := hfl _ hxm
          refine lv_aload_n S.1 S.2.1 dX1_gather_92 rfl (lv_at hl 2 rfl) ?_
          refine cg_RX1_59 S hK hG hC hkp dX1_gather_93 ?_
          refine lv_iload_n S.1 S.2.1 dX1_gather_96 rfl (lv_at hl 0 rfl) ?_
          refine mCV (As := [.int (nI (i))]) (rest := []) S (k_thingOf hC (by omega) i (by omega) (by omega)) cal_X7_thingOf in_335 in_250 in_251 in_79 hK hN hG hC.obj7 rfl rfl rfl hl.1 (Nat.le_of_ble_eq_true rfl) ⟨by decide, by decide⟩ ⟨rfl, rfl⟩ ⟨by decide, by decide⟩ dX1_gather_97 (fun v w H locs hp hG => ?_)
          obtain ⟨rfl, hw9⟩ := hp
          have hw9 := hw9.symm
          subst hw9
          refine W.eq (g2 := F0 m 100 ls [va_rf ((mt5 i).map (tq q))]) rfl ?_
          rw [hrow.1]
          refine W.eq (g2 := F0 m 100 ls [.ref (tq q (L.getD i 0))]) rfl ?_
          refine lv_astore_n (lv' := [(3, .ref (tq q (L.getD i 0))), (2, .int (nI (i))), (1, .int (nI (cnt (fun k => (bgn own tad k).isSome) Wn))), (0, .ref (q 5))]) S.1 S.2.1 dX1_gather_100 rfl hl (by decide) rfl (fun ls hl => ?_)
          refine lv_aload_n S.1 S.2.1 dX1_gather_101 rfl (lv_at hl 0 rfl) ?_
          refine lv_ifnull S.1 S.2.1 dX1_gather_102 ?_
          refine lv_aload_n S.1 S.2.1 dX1_gather_105 rfl (lv_at hl 3 rfl) ?_
          refine cg_RX1_41 S hK hG hC hkp dX1_gather_106 ?_
          refine lv_aload_n S.1 S.2.1 dX1_gather_109 rfl (lv_at hl 0 rfl) ?_
          refine lv_aload_n S.1 S.2.1 dX1_gather_110 rfl (lv_at hl 3 rfl) ?_
          refine cg_RX1_24 S hK hG hC hkp dX1_gather_111 ?_
          refine lv_aload_n S.1 S.2.1 dX1_gather_114 rfl (lv_at hl 0 rfl) ?_
          refine mCV (As := []) (rest := [.ref (q 8), .ref (tq q (L.getD i 0)), .ref (q 1)]) S (t_size hC (L.getD i 0) hxm) cal_X6_size in_336 in_254 in_255 in_142 hK hN hG (hC.th hxm) rfl rfl rfl hl.1 (Nat.le_of_ble_eq_true rfl) ⟨by decide, by decide⟩ ⟨rfl, rfl⟩ ⟨by decide, by decide⟩ dX1_gather_115 (fun v w H locs hp hG => ?_)
          obtain ⟨rfl, hw9⟩ := hp
          have hw9 := hw9.symm
          subst hw9
          refine W.eq (g2 := F0 m 118 ls [.int (nI (fl (L.getD i 0) + 1)), .ref (q 8), .ref (tq q (L.getD i 0)), .ref (q 1)]) rfl ?_
          refine mCV (As := [.int (nI (fl (L.getD i 0) + 1))]) (rest := [.ref (tq q (L.getD i 0)), .ref (q 1)]) S (p_take hC (by omega) (fl (L.getD i 0) + 1) (by omega) (by omega) (by omega)) cal_X3_take in_160 in_154 in_155 in_67 hK hN hG (hC.obj3 (by omega)) rfl rfl rfl hl.1 (Nat.le_of_ble_eq_true rfl) ⟨by decide, by decide⟩ ⟨rfl, rfl⟩ ⟨by decide, by decide⟩ dX1_gather_118 (fun v w H locs hp hG => ?_)
          obtain ⟨rfl, hC⟩ := hp
          rw [if_pos (by omega)] at hC
          rw [if_pos (by omega)]
          refine W.eq (g2 := F0 m 121 ls [.int (nI (((L.take i).foldl (plC fl) (s2, tad, fillO own 0 Wn none)).1)), .ref (tq q (L.getD i 0)), .ref (q 1)]) rfl ?_
          refine mCV (As := [.ref (tq q (L.getD i 0)), .int (nI (((L.take i).foldl (plC fl) (s2, tad, fillO own 0 Wn none)).1))]) (rest := []) S (w_put hC (L.getD i 0) hxm (by omega) (((L.take i).foldl (plC fl) (s2, tad, fillO own 0 Wn none)).1) (by omega)) cal_X8_put in_337 in_338 in_339 in_18 hK hN hG hC.obj8 rfl rfl rfl hl.1 (Nat.le_of_ble_eq_true rfl) ⟨by decide, by decide⟩ ⟨rfl, rfl⟩ ⟨by decide, by decide⟩ dX1_gather_121 (fun v w H locs hp hG => ?_)
          obtain ⟨rfl, hC⟩ := hp
          refine W.eq (g2 := F0 m 124 ls []) rfl ?_
          refine lv_aload_n S.1 S.2.1 dX1_gather_124 rfl (lv_at hl 3 rfl) ?_
          refine lv_dup S.1 S.2.1 dX1_gather_125 rfl ?_
          refine cg_RX1_79 S hK hG hC hkp dX1_gather_126 ?_
          refine lv_iconst (v := nI (1)) S.1 S.2.1 dX1_gather_129 (by decide) ?_
          refine lv_iadd S.1 S.2.1 dX1_gather_130 ?_
          refine lv_eqi (nI_add _ _) ?_
          refine cp_RX1_79 S hK hG hC hkp (((movd + i)) + 1) dX1_gather_131 (fun w H locs hC hG => ?_)
          have hC : CW cI cT q kp Wn made fl num rfs root (((L.take (i + 1)).foldl (plC fl) (s2, tad, fillO own 0 Wn none)).2.2) (((L.take (i + 1)).foldl (plC fl) (s2, tad, fillO own 0 Wn none)).2.1) trm tpl wl5 od5 mt5 ms5 ((cur + 1)) Wn (((L.take (i + 1)).foldl (plC fl) (s2, tad, fillO own 0 Wn none)).1) ((s2 + Wn / 2)) s2 ((coll + 1)) mins ((movd + (i + 1))) w := by rw [fold_s hi2]; exact hC
          refine lv_iinc (v := nI (i + 1)) (lv' := [(2, .int (nI (i + 1))), (3, .ref (tq q (L.getD i 0))), (1, .int (nI (cnt (fun k => (bgn own tad k).isSome) Wn))), (0, .ref (q 5))]) S.1 S.2.1 dX1_gather_134 hl (k := 1) rfl (nI_1 _) (by decide) rfl (fun ls hl => ?_)
          refine lv_goto (tgt := 81) S.1 S.2.1 dX1_gather_137 (by decide) ?_
          exact ihL9 (i + 1) (by omega) (by omega) _ _ _ hC hG ls (lv_sub hl [0, 2, 3] rfl)
    exact L9 (L.length + 1) 0 (by omega) (by omega) _ _ _ (hC) hG ls (lv_sub hl [0, 1, 2] rfl)
  · have c1 : st = 0 := (nI_eq (a := st) (b := 0) (by omega) (by omega)).mp c1
    refine lv_aload_n S.1 S.2.1 dX1_gather_53 rfl (lv_at hl 1 rfl) ?_
    refine cg_RX1_13 S hK hG hC hkp dX1_gather_54 ?_
    refine lv_goto (tgt := 61) S.1 S.2.1 dX1_gather_57 (by decide) ?_
    have hs9 : Wn / 2 = s2 := by rw [hs2]; rw [if_pos c1]
    refine lv_eqi (y := nI (s2)) (by rw [hs9]) ?_
    refine cp_RX1_28 S hK hG hC hkp (s2) dX1_gather_61 (fun w H locs hC hG => ?_)
    refine lv_aload_n S.1 S.2.1 dX1_gather_64 rfl (lv_at hl 1 rfl) ?_
    refine cg_RX1_24 S hK hG hC hkp dX1_gather_65 ?_
    refine lv_aload_n S.1 S.2.1 dX1_gather_68 rfl (lv_at hl 1 rfl) ?_
    refine cg_RX1_28 S hK hG hC hkp dX1_gather_69 ?_
    refine lv_aload_n S.1 S.2.1 dX1_gather_72 rfl (lv_at hl 1 rfl) ?_
    refine cg_RX1_13 S hK hG hC hkp dX1_gather_73 ?_
    refine mCV (As := [.int (nI (s2)), .int (nI (Wn / 2))]) (rest := []) S (p_restart hC (by omega) s2 (Wn / 2)) cal_X3_restart in_333 in_284 in_285 in_67 hK hN hG (hC.obj3 (by omega)) rfl rfl rfl hl.1 (Nat.le_of_ble_eq_true rfl) ⟨by decide, by decide⟩ ⟨rfl, rfl⟩ ⟨by decide, by decide⟩ dX1_gather_76 (fun v w H locs hp hG => ?_)
    obtain ⟨rfl, hC⟩ := hp
    refine W.eq (g2 := F0 m 79 ls []) rfl ?_
    refine lv_iconst (v := nI (0)) S.1 S.2.1 dX1_gather_79 (by decide) ?_
    refine lv_istore_n (lv' := [(2, .int (nI (0))), (1, .int (nI (cnt (fun k => (bgn own tad k).isSome) Wn))), (0, .ref (q 5))]) S.1 S.2.1 dX1_gather_80 rfl hl (by decide) rfl (fun ls hl => ?_)
    have L9 : ∀ (fu : Nat) (i : Nat), L.length - i < fu → (i ≤ L.length) → ∀ (w : mM) (H : Heap) (locs : List Loc), CW cI cT q kp Wn made fl num rfs root (((L.take i).foldl (plC fl) (s2, tad, fillO own 0 Wn none)).2.2) (((L.take i).foldl (plC fl) (s2, tad, fillO own 0 Wn none)).2.1) trm tpl wl5 od5 mt5 ms5 ((cur + 1)) Wn (((L.take i).foldl (plC fl) (s2, tad, fillO own 0 Wn none)).1) ((s2 + Wn / 2)) s2 ((coll + 1)) mins ((movd + i)) w → mG (dC, dI) vwCl A s.heap w H locs → ∀ ls : Array Slot, lv_has ls 4 [(2, .int (nI (i))), (1, .int (nI (cnt (fun k => (bgn own tad k).isSome) Wn))), (0, .ref (q 5))] → W p l e { frames := 4, cells := 0, slots := 0, locals := 84 } s m args below meth c H locs 0 0 (MQ below (mQ (dC, dI) vwCl (tyL cI cZ cT) (fun v w2 => ∃ (mt3 : Nat → Option Nat) (ms3 : Nat) (wl3 od3 : Nat → Nat), v = some (.int (nI (cnt (fun k => (bgn own tad k).isSome) Wn) - nI (L).length)) ∧ CW cI cT q kp Wn made fl num rfs root (((L).foldl (plC fl) (s2, tad, fillO own 0 Wn none)).2.2) (((L).foldl (plC fl) (s2, tad, fillO own 0 Wn none)).2.1) trm tpl wl3 od3 mt3 ms3 ((cur + 1)) Wn (((L).foldl (plC fl) (s2, tad, fillO own 0 Wn none)).1) ((s2 + Wn / 2)) (s2) ((coll + 1)) mins ((movd + (L).length)) w2 ∧ LsC made (cur + 1) ms3 mt3 wl3 od3 (L)) A) args s 0 0 A) (F0 m 81 ls []) := by
      intro fu
      induction fu with
      | zero => intro i h1; exact absurd h1 (Nat.not_lt_zero _)
      | succ fu ihL9 =>
        intro i h1 h2 w H locs hC hG ls hl
        refine lv_iload_n S.1 S.2.1 dX1_gather_81 rfl (lv_at hl 0 rfl) ?_
        refine lv_aload_n S.1 S.2.1 dX1_gather_82 rfl (lv_at hl 2 rfl) ?_
        refine cg_RX1_59 S hK hG hC hkp dX1_gather_83 ?_
        refine mCV (As := []) (rest := [.int (nI (i))]) S (k_size hC) cal_X7_size in_334 in_246 in_247 in_79 hK hN hG hC.obj7 rfl rfl rfl hl.1 (Nat.le_of_ble_eq_true rfl) ⟨by decide, by decide⟩ ⟨rfl, rfl⟩ ⟨by decide, by decide⟩ dX1_gather_86 (fun v w H locs hp hG => ?_)
        obtain ⟨rfl, hw9⟩ := hp
        have hw9 := hw9.symm
        subst hw9
        refine W.eq (g2 := F0 m 89 ls [.int (nI (ms5)), .int (nI (i))]) rfl ?_
        refine lv_icmp_ge (tgt := 140) S.1 S.2.1 dX1_gather_89 (by decide) (fun c2 => ?_) (fun c2 => ?_)
        · have c2 : ms5 ≤ i := (nI_leI (a := ms5) (b := i) (by omega) (by omega)).mp c2
          have hi : i = L.length := by omega
          rw [hi, take_all (Nat.le_refl _)] at hC
          refine lv_iload_n S.1 S.2.1 dX1_gather_140 rfl (lv_at hl 1 rfl) ?_
          refine lv_aload_n S.1 S.2.1 dX1_gather_141 rfl (lv_at hl 2 rfl) ?_
          refine cg_RX1_59 S hK hG hC hkp dX1_gather_142 ?_
          refine mCV (As := []) (rest := [.int (nI (cnt (fun k => (bgn own tad k).isSome) Wn))]) S (k_size hC) cal_X7_size in_334 in_246 in_247 in_79 hK hN hG hC.obj7 rfl rfl rfl hl.1 (Nat.le_of_ble_eq_true rfl) ⟨by decide, by decide⟩ ⟨rfl, rfl⟩ ⟨by decide, by decide⟩ dX1_gather_145 (fun v w H locs hp hG => ?_)
          obtain ⟨rfl, hw9⟩ := hp
          have hw9 := hw9.symm
          subst hw9
          refine W.eq (g2 := F0 m 148 ls [.int (nI (ms5)), .int (nI (cnt (fun k => (bgn own tad k).isSome) Wn))]) rfl ?_
          refine lv_isub S.1 S.2.1 dX1_gather_148 ?_
          exact mw_iret S hr hlk hK hG dX1_gather_149 ⟨mt5, ms5, wl5, od5, by rw [hmsz], hC, hLf⟩
        · have c2 : ¬ (ms5 ≤ i) := fun h9 => c2 ((nI_leI (a := ms5) (b := i) (by omega) (by omega)).mpr h9)
          have hrow := LsC_row hLf (show i < ms5 by omega)
          have hxm := hrow.2.2
          have hi2 : i < L.length := by omega
          have hz1 := hsz (i + 1)
          rw [szL_s hi2] at hz1
          have hp1 := plC_1 fl (L.take i) (s2, tad, fillO own 0 Wn none)
          dsimp only at hp1
          have hf6 := hfl _ hxm
          refine lv_aload_n S.1 S.2.1 dX1_gather_92 rfl (lv_at hl 2 rfl) ?_
          refine cg_RX1_59 S hK hG hC hkp dX1_gather_93 ?_
          refine lv_iload_n S.1 S.2.1 dX1_gather_96 rfl (lv_at hl 0 rfl) ?_
          refine mCV (As := [.int (nI (i))]) (rest := []) S (k_thingOf hC (by omega) i (by omega) (by omega)) cal_X7_thingOf in_335 in_250 in_251 in_79 hK hN hG hC.obj7 rfl rfl rfl hl.1 (Nat.le_of_ble_eq_true rfl) ⟨by decide, by decide⟩ ⟨rfl, rfl⟩ ⟨by decide, by decide⟩ dX1_gather_97 (fun v w H locs hp hG => ?_)
          obtain ⟨rfl, hw9⟩ := hp
          have hw9 := hw9.symm
          subst hw9
          refine W.eq (g2 := F0 m 100 ls [va_rf ((mt5 i).map (tq q))]) rfl ?_
          rw [hrow.1]
          refine W.eq (g2 := F0 m 100 ls [.ref (tq q (L.getD i 0))]) rfl ?_
          refine lv_astore_n (lv' := [(3, .ref (tq q (L.getD i 0))), (2, .int (nI (i))), (1, .int (nI (cnt (fun k => (bgn own tad k).isSome) Wn))), (0, .ref (q 5))]) S.1 S.2.1 dX1_gather_100 rfl hl (by decide) rfl (fun ls hl => ?_)
          refine lv_aload_n S.1 S.2.1 dX1_gather_101 rfl (lv_at hl 0 rfl) ?_
          refine lv_ifnull S.1 S.2.1 dX1_gather_102 ?_
          refine lv_aload_n S.1 S.2.1 dX1_gather_105 rfl (lv_at hl 3 rfl) ?_
          refine cg_RX1_41 S hK hG hC hkp dX1_gather_106 ?_
          refine lv_aload_n S.1 S.2.1 dX1_gather_109 rfl (lv_at hl 0 rfl) ?_
          refine lv_aload_n S.1 S.2.1 dX1_gather_110 rfl (lv_at hl 3 rfl) ?_
          refine cg_RX1_24 S hK hG hC hkp dX1_gather_111 ?_
          refine lv_aload_n S.1 S.2.1 dX1_gather_114 rfl (lv_at hl 0 rfl) ?_
          refine mCV (As := []) (rest := [.ref (q 8), .ref (tq q (L.getD i 0)), .ref (q 1)]) S (t_size hC (L.getD i 0) hxm) cal_X6_size in_336 in_254 in_255 in_142 hK hN hG (hC.th hxm) rfl rfl rfl hl.1 (Nat.le_of_ble_eq_true rfl) ⟨by decide, by decide⟩ ⟨rfl, rfl⟩ ⟨by decide, by decide⟩ dX1_gather_115 (fun v w H locs hp hG => ?_)
          obtain ⟨rfl, hw9⟩ := hp
          have hw9 := hw9.symm
          subst hw9
          refine W.eq (g2 := F0 m 118 ls [.int (nI (fl (L.getD i 0) + 1)), .ref (q 8), .ref (tq q (L.getD i 0)), .ref (q 1)]) rfl ?_
          refine mCV (As := [.int (nI (fl (L.getD i 0) + 1))]) (rest := [.ref (tq q (L.getD i 0)), .ref (q 1)]) S (p_take hC (by omega) (fl (L.getD i 0) + 1) (by omega) (by omega) (by omega)) cal_X3_take in_160 in_154 in_155 in_67 hK hN hG (hC.obj3 (by omega)) rfl rfl rfl hl.1 (Nat.le_of_ble_eq_true rfl) ⟨by decide, by decide⟩ ⟨rfl, rfl⟩ ⟨by decide, by decide⟩ dX1_gather_118 (fun v w H locs hp hG => ?_)
          obtain ⟨rfl, hC⟩ := hp
          rw [if_pos (by omega)] at hC
          rw [if_pos (by omega)]
          refine W.eq (g2 := F0 m 121 ls [.int (nI (((L.take i).foldl (plC fl) (s2, tad, fillO own 0 Wn none)).1)), .ref (tq q (L.getD i 0)), .ref (q 1)]) rfl ?_
          refine mCV (As := [.ref (tq q (L.getD i 0)), .int (nI (((L.take i).foldl (plC fl) (s2, tad, fillO own 0 Wn none)).1))]) (rest := []) S (w_put hC (L.getD i 0) hxm (by omega) (((L.take i).foldl (plC fl) (s2, tad, fillO own 0 Wn none)).1) (by omega)) cal_X8_put in_337 in_338 in_339 in_18 hK hN hG hC.obj8 rfl rfl rfl hl.1 (Nat.le_of_ble_eq_true rfl) ⟨by decide, by decide⟩ ⟨rfl, rfl⟩ ⟨by decide, by decide⟩ dX1_gather_121 (fun v w H locs hp hG => ?_)
          obtain ⟨rfl, hC⟩ := hp
          refine W.eq (g2 := F0 m 124 ls []) rfl ?_
          refine lv_aload_n S.1 S.2.1 dX1_gather_124 rfl (lv_at hl 3 rfl) ?_
          refine lv_dup S.1 S.2.1 dX1_gather_125 rfl ?_
          refine cg_RX1_79 S hK hG hC hkp dX1_gather_126 ?_
          refine lv_iconst (v := nI (1)) S.1 S.2.1 dX1_gather_129 (by decide) ?_
          refine lv_iadd S.1 S.2.1 dX1_gather_130 ?_
          refine lv_eqi (nI_add _ _) ?_
          refine cp_RX1_79 S hK hG hC hkp (((movd + i)) + 1) dX1_gather_131 (fun w H locs hC hG => ?_)
          have hC : CW cI cT q kp Wn made fl num rfs root (((L.take (i + 1)).foldl (plC fl) (s2, tad, fillO own 0 Wn none)).2.2) (((L.take (i + 1)).foldl (plC fl) (s2, tad, fillO own 0 Wn none)).2.1) trm tpl wl5 od5 mt5 ms5 ((cur + 1)) Wn (((L.take (i + 1)).foldl (plC fl) (s2, tad, fillO own 0 Wn none)).1) ((s2 + Wn / 2)) s2 ((coll + 1)) mins ((movd + (i + 1))) w := by rw [fold_s hi2]; exact hC
          refine lv_iinc (v := nI (i + 1)) (lv' := [(2, .int (nI (i + 1))), (3, .ref (tq q (L.getD i 0))), (1, .int (nI (cnt (fun k => (bgn own tad k).isSome) Wn))), (0, .ref (q 5))]) S.1 S.2.1 dX1_gather_134 hl (k := 1) rfl (nI_1 _) (by decide) rfl (fun ls hl => ?_)
          refine lv_goto (tgt := 81) S.1 S.2.1 dX1_gather_137 (by decide) ?_
          exact ihL9 (i + 1) (by omega) (by omega) _ _ _ hC hG ls (lv_sub hl [0, 2, 3] rfl)
    exact L9 (L.length + 1) 0 (by omega) (by omega) _ _ _ (hC) hG ls (lv_sub hl [0, 1, 2] rfl)
theorem cal_X1_clearRoomFor : mCal yX1_clearRoomFor cX1_clearRoomFor 2 1 none := ⟨in_315, by decide +kernel⟩
set_option maxHeartbeats 4000000 in
set_option maxRecDepth 100000 in
theorem y_clearRoomFor {l : Launch} {dC : Nat → ClassId} {dI : Nat → Nat → Nat} {cI cZ cT : ClassId} {q : Nat → Nat} {kp : Nat} {Wn : Nat} {made : Nat} {fl : (Nat → Nat)} {num : (Nat → Nat → Int32)} {rfs : (Nat → Nat → Option Nat)} {root : (Nat → Option Nat)} {own : (Nat → Option Nat)} {tad : (Nat → Nat)} {trm : (Nat → Bool)} {tpl : (Nat → Nat)} {wlk : (Nat → Nat)} {ord : (Nat → Nat)} {met : (Nat → Option Nat)} {msz : Nat} {cur : Nat} {mend : Nat} {pnx : Nat} {pen : Nat} {st : Nat} {coll : Nat} {mins : Nat} {movd : Nat} {Kp : Nat → Prop} (hB : ∀ M : List Nat, M.Nodup → (∀ x ∈ M, Kp x) → M.length ≤ Wn) (hKm : ∀ x, Kp x → x < made) (hKf : ∀ x, Kp x → ∀ i, i < fl x → ∀ t, rfs x i = some t → Kp t) (hfl : ∀ x, x < made → fl x ≤ 6) {w : mM} (hC : CW cI cT q kp Wn made fl num rfs root own tad trm tpl wlk ord met msz cur mend pnx pen st coll mins movd w) (hkp : kp = 1) (hst : st < 1000) (hW4 : Wn ≤ 400) (hcb : cur + 1 < 2147483648) (htb : ∀ t, t < made → tad t < 2147483648) (hwb : ∀ o, o < made → wlk o ≤ cur) (hmt : ∀ k t, met k = some t → t < made) (hKr : ∀ i, i < 16 → ∀ t, root i = some t → Kp t) (hob : ∀ k t, own k = some t → t < made) (hcap : szL fl 0 (flw (okC tad Wn) fl rfs 401 0 (mtN (okC tad Wn) root 16 [])) ≤ Wn / 2) (n : Nat) : mC l yX1_clearRoomFor (wsY yX1_clearRoomFor cX1_clearRoomFor 2 none) { frames := 5, cells := 0, slots := 0, locals := 107 } (dC, dI) vwCl (tyL cI cZ cT) 0 0 w [.ref (q 5), .int (nI (n))] (fun v w2 => v = none ∧ ∃ (mt3 : Nat → Option Nat) (ms3 : Nat) (wl3 od3 : Nat → Nat), CW cI cT q kp Wn made fl num rfs root (((flw (okC tad Wn) fl rfs 401 0 (mtN (okC tad Wn) root 16 [])).foldl (plC fl) ((if st = 0 then Wn / 2 else 0), tad, fillO own 0 Wn none)).2.2) (((flw (okC tad Wn) fl rfs 401 0 (mtN (okC tad Wn) root 16 [])).foldl (plC fl) ((if st = 0 then Wn / 2 else 0), tad, fillO own 0 Wn none)).2.1) trm tpl wl3 od3 mt3 ms3 ((cur + 1)) Wn (((flw (okC tad Wn) fl rfs 401 0 (mtN (okC tad Wn) root 16 [])).foldl (plC fl) ((if st = 0 then Wn / 2 else 0), tad, fillO own 0 Wn none)).1) (((if st = 0 then Wn / 2 else 0) + Wn / 2)) ((if st = 0 then Wn / 2 else 0)) ((coll + 1)) mins ((movd + (flw (okC tad Wn) fl rfs 401 0 (mtN (okC tad Wn) root 16 [])).length)) w2 ∧ LsC made (cur + 1) ms3 mt3 wl3 od3 (flw (okC tad Wn) fl rfs 401 0 (mtN (okC tad Wn) root 16 []))) := by
  refine mC.on (by decide) (Nat.le_of_ble_eq_true rfl) ?_
  intro p e s m args below meth c ls S hr hlk hnm hK hN hG hl
  have hl : lv_has ls 2 [(0, .ref (q 5)), (1, .int (nI (n)))] := hl
  generalize hAe : mA w s.heap.size = A at hG ⊢
  refine lv_aload_n S.1 S.2.1 dX1_clearRoomFor_0 rfl (lv_at hl 0 rfl) ?_
  refine mCV (As := []) (rest := []) S (y_gather hB hKm hKf hfl hC hkp hst hW4 hcb htb hwb hmt hKr hob hcap) cal_X1_gather in_316 in_317 in_318 in_54 hK hN hG (hC.obj1 hkp) rfl rfl rfl hl.1 (Nat.le_of_ble_eq_true rfl) ⟨by decide, by decide⟩ ⟨rfl, rfl⟩ ⟨by decide, by decide⟩ dX1_clearRoomFor_1 (fun v w H locs hp hG => ?_)
  obtain ⟨mt5, ms5, wl5, od5, rfl, hC, hLf⟩ := hp
  refine W.eq (g2 := F0 m 4 ls [.int (nI (cnt (fun k => (bgn own tad k).isSome) Wn) - nI (flw (okC tad Wn) fl rfs 401 0 (mtN (okC tad Wn) root 16 [])).length)]) rfl ?_
  refine lv_pop S.1 S.2.1 dX1_clearRoomFor_4 rfl ?_
  exact mw_vret S hr hlk hK hG dX1_clearRoomFor_5 ⟨rfl, mt5, ms5, wl5, od5, hC, hLf⟩
