theorem cal_X9_collect : mCal yX9_collect cX9_collect 1 0 (some .int) := ⟨in_560, by decide +kernel⟩
set_option maxHeartbeats 4000000 in
set_option maxRecDepth 100000 in
theorem h_collect0 {l : Launch} {dC : Nat → ClassId} {dI : Nat → Nat → Nat} {cI cZ cT : ClassId} {q : Nat → Nat} {kp : Nat} {Wn : Nat} {made : Nat} {fl : (Nat → Nat)} {num : (Nat → Nat → Int32)} {rfs : (Nat → Nat → Option Nat)} {root : (Nat → Option Nat)} {own : (Nat → Option Nat)} {tad : (Nat → Nat)} {trm : (Nat → Bool)} {tpl : (Nat → Nat)} {wlk : (Nat → Nat)} {ord : (Nat → Nat)} {met : (Nat → Option Nat)} {msz : Nat} {cur : Nat} {mend : Nat} {pnx : Nat} {pen : Nat} {st : Nat} {coll : Nat} {mins : Nat} {movd : Nat} {Kp : Nat → Prop} (hB : ∀ M : List Nat, M.Nodup → (∀ x ∈ M, Kp x) → M.length ≤ Wn) (hKm : ∀ x, Kp x → x < made) (hKf : ∀ x, Kp x → ∀ i, i < fl x → ∀ t, rfs x i = some t → Kp t) (hfl : ∀ x, x < made → fl x ≤ 6) {w : mM} (hC : CW cI cT q kp Wn made fl num rfs root own tad trm tpl wlk ord met msz cur mend pnx pen st coll mins movd w) (hkp : kp = 0) (hW4 : Wn ≤ 400) (hcb : cur + 1 < 2147483648) (htb : ∀ t, t < made → tad t < 2147483648) (hwb : ∀ o, o < made → wlk o ≤ cur) (hmt : ∀ k t, met k = some t → t < made) (hKr : ∀ i, i < 16 → ∀ t, root i = some t → Kp t) (hLy : LyC made Wn fl tad own) : mC l yX9_collect (wsY yX9_collect cX9_collect 1 (some .int)) { frames := 5, cells := 0, slots := 0, locals := 104 } (dC, dI) vwCl (tyL cI cZ cT) 0 0 w [.ref (q 0)] (fun v w2 => ∃ (mt3 : Nat → Option Nat) (ms3 : Nat) (wl3 od3 : Nat → Nat), v = some (.int (nI (cnt (cw 0 own tad (ntL (flw (okC tad Wn) fl rfs 401 0 (mtN (okC tad Wn) root 16 [])))) Wn))) ∧ CW cI cT q kp Wn made fl num rfs root ((swO (dd 0 Wn tad (ntL (flw (okC tad Wn) fl rfs 401 0 (mtN (okC tad Wn) root 16 [])))) own)) tad trm tpl wl3 od3 mt3 ms3 ((cur + 1)) Wn pnx pen st ((coll + 1)) mins movd w2 ∧ LsC made (cur + 1) ms3 mt3 wl3 od3 (flw (okC tad Wn) fl rfs 401 0 (mtN (okC tad Wn) root 16 []))) := by
  refine mC.on (by decide) (Nat.le_of_ble_eq_true rfl) ?_
  intro p e s m args below meth c ls S hr hlk hnm hK hN hG hl
  have hl : lv_has ls 1 [(0, .ref (q 0))] := hl
  generalize hAe : mA w s.heap.size = A at hG ⊢
  refine lv_aload_n S.1 S.2.1 dX9_collect_0 rfl (lv_at hl 0 rfl) ?_
  refine cg_RX9_33 S hK hG hC dX9_collect_1 ?_
  refine mCU (As := []) (rest := []) S (s_gather hB hKm hKf hfl hC hkp hW4 hcb htb hwb hmt hKr hLy) (va_cwA (owner := "KeptHeap$Keeper") (x := ⟨"KeptHeap$Keeper", "gather", "()I"⟩) 0 S.2.2.2.2 (mGU (own := RX9) (index := 107) (x := ⟨"KeptHeap$Keeper", "gather", "()I"⟩) (owner := "KeptHeap$Keeper") in_349 in_561 in_562 in_565 in_347 in_60) rfl rfl rfl hN.2.2.2 (by decide +kernel) ⟨by decide, by decide⟩) hK hN hG (hC.obj5 hkp) rfl rfl rfl hl.1 (Nat.le_of_ble_eq_true rfl) ⟨by decide, by decide⟩ dX9_collect_4 (fun v w H locs hp hG => ?_)
  obtain ⟨mt5, ms5, wl5, od5, rfl, hC, hLf⟩ := hp
  refine W.eq (g2 := F0 m 7 ls [.int (nI (cnt (cw 0 own tad (ntL (flw (okC tad Wn) fl rfs 401 0 (mtN (okC tad Wn) root 16 [])))) Wn))]) rfl ?_
  exact mw_iret S hr hlk hK hG dX9_collect_7 ⟨mt5, ms5, wl5, od5, rfl, hC, hLf⟩
set_option maxHeartbeats 4000000 in
set_option maxRecDepth 100000 in
theorem h_collect1 {l : Launch} {dC : Nat → ClassId} {dI : Nat → Nat → Nat} {cI cZ cT : ClassId} {q : Nat → Nat} {kp : Nat} {Wn : Nat} {made : Nat} {fl : (Nat → Nat)} {num : (Nat → Nat → Int32)} {rfs : (Nat → Nat → Option Nat)} {root : (Nat → Option Nat)} {own : (Nat → Option Nat)} {tad : (Nat → Nat)} {trm : (Nat → Bool)} {tpl : (Nat → Nat)} {wlk : (Nat → Nat)} {ord : (Nat → Nat)} {met : (Nat → Option Nat)} {msz : Nat} {cur : Nat} {mend : Nat} {pnx : Nat} {pen : Nat} {st : Nat} {coll : Nat} {mins : Nat} {movd : Nat} {Kp : Nat → Prop} (hB : ∀ M : List Nat, M.Nodup → (∀ x ∈ M, Kp x) → M.length ≤ Wn) (hKm : ∀ x, Kp x → x < made) (hKf : ∀ x, Kp x → ∀ i, i < fl x → ∀ t, rfs x i = some t → Kp t) (hfl : ∀ x, x < made → fl x ≤ 6) {w : mM} (hC : CW cI cT q kp Wn made fl num rfs root own tad trm tpl wlk ord met msz cur mend pnx pen st coll mins movd w) (hkp : kp = 1) (hst : st < 1000) (hW4 : Wn ≤ 400) (hcb : cur + 1 < 2147483648) (htb : ∀ t, t < made → tad t < 2147483648) (hwb : ∀ o, o < made → wlk o ≤ cur) (hmt : ∀ k t, met k = some t → t < made) (hKr : ∀ i, i < 16 → ∀ t, root i = some t → Kp t) (hob : ∀ k t, own k = some t → t < made) (hcap : szL fl 0 (flw (okC tad Wn) fl rfs 401 0 (mtN (okC tad Wn) root 16 [])) ≤ Wn / 2) : mC l yX9_collect (wsY yX9_collect cX9_collect 1 (some .int)) { frames := 5, cells := 0, slots := 0, locals := 107 } (dC, dI) vwCl (tyL cI cZ cT) 0 0 w [.ref (q 0)] (fun v w2 => ∃ (mt3 : Nat → Option Nat) (ms3 : Nat) (wl3 od3 : Nat → Nat), v = some (.int (nI (cnt (fun k => (bgn own tad k).isSome) Wn) - nI (flw (okC tad Wn) fl rfs 401 0 (mtN (okC tad Wn) root 16 [])).length)) ∧ CW cI cT q kp Wn made fl num rfs root (((flw (okC tad Wn) fl rfs 401 0 (mtN (okC tad Wn) root 16 [])).foldl (plC fl) ((if st = 0 then Wn / 2 else 0), tad, fillO own 0 Wn none)).2.2) (((flw (okC tad Wn) fl rfs 401 0 (mtN (okC tad Wn) root 16 [])).foldl (plC fl) ((if st = 0 then Wn / 2 else 0), tad, fillO own 0 Wn none)).2.1) trm tpl wl3 od3 mt3 ms3 ((cur + 1)) Wn (((flw (okC tad Wn) fl rfs 401 0 (mtN (okC tad Wn) root 16 [])).foldl (plC fl) ((if st = 0 then Wn / 2 else 0), tad, fillO own 0 Wn none)).1) (((if st = 0 then Wn / 2 else 0) + Wn / 2)) ((if st = 0 then Wn / 2 else 0)) ((coll + 1)) mins ((movd + (flw (okC tad Wn) fl rfs 401 0 (mtN (okC tad Wn) root 16 [])).length)) w2 ∧ LsC made (cur + 1) ms3 mt3 wl3 od3 (flw (okC tad Wn) fl rfs 401 0 (mtN (okC tad Wn) root 16 []))) := by
  refine mC.on (by decide) (Nat.le_of_ble_eq_true rfl) ?_
  intro p e s m args below meth c ls S hr hlk hnm hK hN hG hl
  have hl : lv_has ls 1 [(0, .ref (q 0))] := hl
  generalize hAe : mA w s.heap.size = A at hG ⊢
  refine lv_aload_n S.1 S.2.1 dX9_collect_0 rfl (lv_at hl 0 rfl) ?_
  refine cg_RX9_33 S hK hG hC dX9_collect_1 ?_
  refine mCU (As := []) (rest := []) S (y_gather hB hKm hKf hfl hC hkp hst hW4 hcb htb hwb hmt hKr hob hcap) (va_cwA (owner := "KeptHeap$Keeper") (x := ⟨"KeptHeap$Keeper", "gather", "()I"⟩) 0 S.2.2.2.2 (mGU (own := RX9) (index := 107) (x := ⟨"KeptHeap$Keeper", "gather", "()I"⟩) (owner := "KeptHeap$Keeper") in_319 in_561 in_562 in_564 in_317 in_54) rfl rfl rfl hN.2.2.2 (by decide +kernel) ⟨by decide, by decide⟩) hK hN hG (hC.obj1 hkp) rfl rfl rfl hl.1 (Nat.le_of_ble_eq_true rfl) ⟨by decide, by decide⟩ dX9_collect_4 (fun v w H locs hp hG => ?_)
  obtain ⟨mt5, ms5, wl5, od5, rfl, hC, hLf⟩ := hp
  refine W.eq (g2 := F0 m 7 ls [.int (nI (cnt (fun k => (bgn own tad k).isSome) Wn) - nI (flw (okC tad Wn) fl rfs 401 0 (mtN (okC tad Wn) root 16 [])).length)]) rfl ?_
  exact mw_iret S hr hlk hK hG dX9_collect_7 ⟨mt5, ms5, wl5, od5, rfl, hC, hLf⟩
set_option maxHeartbeats 4000000 in
set_option maxRecDepth 100000 in
theorem h_collect2 {l : Launch} {dC : Nat → ClassId} {dI : Nat → Nat → Nat} {cI cZ cT : ClassId} {q : Nat → Nat} {kp : Nat} {Wn : Nat} {made : Nat} {fl : (Nat → Nat)} {num : (Nat → Nat → Int32)} {rfs : (Nat → Nat → Option Nat)} {root : (Nat → Option Nat)} {own : (Nat → Option Nat)} {tad : (Nat → Nat)} {trm : (Nat → Bool)} {tpl : (Nat → Nat)} {wlk : (Nat → Nat)} {ord : (Nat → Nat)} {met : (Nat → Option Nat)} {msz : Nat} {cur : Nat} {mend : Nat} {pnx : Nat} {pen : Nat} {st : Nat} {coll : Nat} {mins : Nat} {movd : Nat} {Kp : Nat → Prop} (hB : ∀ M : List Nat, M.Nodup → (∀ x ∈ M, Kp x) → M.length ≤ Wn) (hKm : ∀ x, Kp x → x < made) (hKf : ∀ x, Kp x → ∀ i, i < fl x → ∀ t, rfs x i = some t → Kp t) (hfl : ∀ x, x < made → fl x ≤ 6) {w : mM} (hC : CW cI cT q kp Wn made fl num rfs root own tad trm tpl wlk ord met msz cur mend pnx pen st coll mins movd w) (hkp : kp = 2) (hW4 : Wn ≤ 400) (hcb : cur + 2 < 2147483648) (htb : ∀ t, t < made → tad t < 2147483648) (hwb : ∀ o, o < made → wlk o ≤ cur) (hmt : ∀ k t, met k = some t → t < made) (hKr : ∀ i, i < 16 → ∀ t, root i = some t → Kp t) (hob : ∀ k t, own k = some t → t < made) (hKo : ∀ k t, Wn / 4 ≤ k → own k = some t → Kp t) (hLy : LyC made Wn fl tad own) (hcnt : ∀ tp0 ow2 tp2, lay fl Wn (flw (okC tad (Wn / 4)) fl rfs 401 0 (rmb (okC tad (Wn / 4)) fl rfs (swO (dd (Wn / 4) Wn tad (ntL (flw (okC tad Wn) fl rfs 401 0 (mtN (okC tad Wn) root 16 [])))) own) tad trm (Wn / 4) (Wn - Wn / 4) (mtN (okC tad (Wn / 4)) root 16 []))) ((swO (dd (Wn / 4) Wn tad (ntL (flw (okC tad Wn) fl rfs 401 0 (mtN (okC tad Wn) root 16 [])))) own), tp0) = some (ow2, tp2) → (flw (okC tad (Wn / 4)) fl rfs 401 0 (rmb (okC tad (Wn / 4)) fl rfs (swO (dd (Wn / 4) Wn tad (ntL (flw (okC tad Wn) fl rfs 401 0 (mtN (okC tad Wn) root 16 [])))) own) tad trm (Wn / 4) (Wn - Wn / 4) (mtN (okC tad (Wn / 4)) root 16 []))).length ≤ cnt (fun k => (bgn ow2 tad k).isSome) (Wn / 4)) : mC l yX9_collect (wsY yX9_collect cX9_collect 1 (some .int)) { frames := 5, cells := 0, slots := 0, locals := 114 } (dC, dI) vwCl (tyL cI cZ cT) 0 0 w [.ref (q 0)] (fun v w2 => ∃ (mt3 : Nat → Option Nat) (ms3 : Nat) (wl3 od3 : Nat → Nat), LsC made (cur + 1 + 1) ms3 mt3 wl3 od3 (flw (okC tad (Wn / 4)) fl rfs 401 0 (rmb (okC tad (Wn / 4)) fl rfs (swO (dd (Wn / 4) Wn tad (ntL (flw (okC tad Wn) fl rfs 401 0 (mtN (okC tad Wn) root 16 [])))) own) tad trm (Wn / 4) (Wn - Wn / 4) (mtN (okC tad (Wn / 4)) root 16 []))) ∧ ((v = some (.int (-4)) ∧ lay fl Wn (flw (okC tad (Wn / 4)) fl rfs 401 0 (rmb (okC tad (Wn / 4)) fl rfs (swO (dd (Wn / 4) Wn tad (ntL (flw (okC tad Wn) fl rfs 401 0 (mtN (okC tad Wn) root 16 [])))) own) tad trm (Wn / 4) (Wn - Wn / 4) (mtN (okC tad (Wn / 4)) root 16 []))) ((swO (dd (Wn / 4) Wn tad (ntL (flw (okC tad Wn) fl rfs 401 0 (mtN (okC tad Wn) root 16 [])))) own), tpl) = none ∧ ∃ (n2 : Nat) (ow2 : Nat → Option Nat) (tp2 : Nat → Nat), n2 ≤ (flw (okC tad (Wn / 4)) fl rfs 401 0 (rmb (okC tad (Wn / 4)) fl rfs (swO (dd (Wn / 4) Wn tad (ntL (flw (okC tad Wn) fl rfs 401 0 (mtN (okC tad Wn) root 16 [])))) own) tad trm (Wn / 4) (Wn - Wn / 4) (mtN (okC tad (Wn / 4)) root 16 []))).length ∧ lay fl Wn ((flw (okC tad (Wn / 4)) fl rfs 401 0 (rmb (okC tad (Wn / 4)) fl rfs (swO (dd (Wn / 4) Wn tad (ntL (flw (okC tad Wn) fl rfs 401 0 (mtN (okC tad Wn) root 16 [])))) own) tad trm (Wn / 4) (Wn - Wn / 4) (mtN (okC tad (Wn / 4)) root 16 []))).take n2) ((swO (dd (Wn / 4) Wn tad (ntL (flw (okC tad Wn) fl rfs 401 0 (mtN (okC tad Wn) root 16 [])))) own), tpl) = some (ow2, tp2) ∧ CW cI cT q kp Wn made fl num rfs root ((gbO fl tp2 ow2 ((flw (okC tad (Wn / 4)) fl rfs 401 0 (rmb (okC tad (Wn / 4)) fl rfs (swO (dd (Wn / 4) Wn tad (ntL (flw (okC tad Wn) fl rfs 401 0 (mtN (okC tad Wn) root 16 [])))) own) tad trm (Wn / 4) (Wn - Wn / 4) (mtN (okC tad (Wn / 4)) root 16 []))).take n2))) tad trm tp2 wl3 od3 mt3 ms3 ((cur + 1 + 1)) ((Wn / 4)) pnx pen st ((coll + 1)) mins movd w2) ∨ ∃ (ow2 : Nat → Option Nat) (tp2 : Nat → Nat), lay fl Wn (flw (okC tad (Wn / 4)) fl rfs 401 0 (rmb (okC tad (Wn / 4)) fl rfs (swO (dd (Wn / 4) Wn tad (ntL (flw (okC tad Wn) fl rfs 401 0 (mtN (okC tad Wn) root 16 [])))) own) tad trm (Wn / 4) (Wn - Wn / 4) (mtN (okC tad (Wn / 4)) root 16 []))) ((swO (dd (Wn / 4) Wn tad (ntL (flw (okC tad Wn) fl rfs 401 0 (mtN (okC tad Wn) root 16 [])))) own), tpl) = some (ow2, tp2) ∧ v = some (.int (nI (cnt (cw (Wn / 4) own tad (ntL (flw (okC tad Wn) fl rfs 401 0 (mtN (okC tad Wn) root 16 [])))) Wn + (cnt (fun k => (bgn ow2 tad k).isSome) (Wn / 4) - (flw (okC tad (Wn / 4)) fl rfs 401 0 (rmb (okC tad (Wn / 4)) fl rfs (swO (dd (Wn / 4) Wn tad (ntL (flw (okC tad Wn) fl rfs 401 0 (mtN (okC tad Wn) root 16 [])))) own) tad trm (Wn / 4) (Wn - Wn / 4) (mtN (okC tad (Wn / 4)) root 16 []))).length)))) ∧ CW cI cT q kp Wn made fl num rfs root ((fillO ow2 0 (Wn / 4) none)) ((goT tp2 tad (flw (okC tad (Wn / 4)) fl rfs 401 0 (rmb (okC tad (Wn / 4)) fl rfs (swO (dd (Wn / 4) Wn tad (ntL (flw (okC tad Wn) fl rfs 401 0 (mtN (okC tad Wn) root 16 [])))) own) tad trm (Wn / 4) (Wn - Wn / 4) (mtN (okC tad (Wn / 4)) root 16 []))))) ((fgt (fillO ow2 0 (Wn / 4) none) (goT tp2 tad (flw (okC tad (Wn / 4)) fl rfs 401 0 (rmb (okC tad (Wn / 4)) fl rfs (swO (dd (Wn / 4) Wn tad (ntL (flw (okC tad Wn) fl rfs 401 0 (mtN (okC tad Wn) root 16 [])))) own) tad trm (Wn / 4) (Wn - Wn / 4) (mtN (okC tad (Wn / 4)) root 16 [])))) (Wn / 4) (Wn - Wn / 4) trm)) tp2 wl3 od3 mt3 ms3 ((cur + 1 + 1)) ((Wn / 4)) 0 ((Wn / 4)) st ((coll + 1)) ((mins + 1)) ((movd + (flw (okC tad (Wn / 4)) fl rfs 401 0 (rmb (okC tad (Wn / 4)) fl rfs (swO (dd (Wn / 4) Wn tad (ntL (flw (okC tad Wn) fl rfs 401 0 (mtN (okC tad Wn) root 16 [])))) own) tad trm (Wn / 4) (Wn - Wn / 4) (mtN (okC tad (Wn / 4)) root 16 []))).length)) w2)) := by
  refine mC.on (by decide) (Nat.le_of_ble_eq_true rfl) ?_
  intro p e s m args below meth c ls S hr hlk hnm hK hN hG hl
  have hl : lv_has ls 1 [(0, .ref (q 0))] := hl
  generalize hAe : mA w s.heap.size = A at hG ⊢
  refine lv_aload_n S.1 S.2.1 dX9_collect_0 rfl (lv_at hl 0 rfl) ?_
  refine cg_RX9_33 S hK hG hC dX9_collect_1 ?_
  refine mCU (As := []) (rest := []) S (g_gather hB hKm hKf hfl hC hkp hW4 hcb htb hwb hmt hKr hob hKo hLy hcnt) (va_cwA (owner := "KeptHeap$Keeper") (x := ⟨"KeptHeap$Keeper", "gather", "()I"⟩) 0 S.2.2.2.2 (mGU (own := RX9) (index := 107) (x := ⟨"KeptHeap$Keeper", "gather", "()I"⟩) (owner := "KeptHeap$Keeper") in_290 in_561 in_562 in_563 in_288 in_57) rfl rfl rfl hN.2.2.2 (by decide +kernel) ⟨by decide, by decide⟩) hK hN hG (hC.obj0 hkp) rfl rfl rfl hl.1 (Nat.le_of_ble_eq_true rfl) ⟨by decide, by decide⟩ dX9_collect_4 (fun v w H locs hp hG => ?_)
  obtain ⟨mt6, ms6, wl6, od6, hLg, hcase⟩ := hp
  rcases hcase with ⟨rfl, hno, n2, ow2, tp2, hn2, hla, hC⟩ | ⟨ow2, tp2, hla, rfl, hC⟩
  · refine W.eq (g2 := F0 m 7 ls [.int (-4)]) rfl ?_
    exact mw_iret S hr hlk hK hG dX9_collect_7 ⟨mt6, ms6, wl6, od6, hLg, Or.inl ⟨rfl, hno, n2, ow2, tp2, hn2, hla, hC⟩⟩
  · refine W.eq (g2 := F0 m 7 ls [.int (nI (cnt (cw (Wn / 4) own tad (ntL (flw (okC tad Wn) fl rfs 401 0 (mtN (okC tad Wn) root 16 [])))) Wn + (cnt (fun k => (bgn ow2 tad k).isSome) (Wn / 4) - (flw (okC tad (Wn / 4)) fl rfs 401 0 (rmb (okC tad (Wn / 4)) fl rfs (swO (dd (Wn / 4) Wn tad (ntL (flw (okC tad Wn) fl rfs 401 0 (mtN (okC tad Wn) root 16 [])))) own) tad trm (Wn / 4) (Wn - Wn / 4) (mtN (okC tad (Wn / 4)) root 16 []))).length)))]) rfl ?_
    exact mw_iret S hr hlk hK hG dX9_collect_7 ⟨mt6, ms6, wl6, od6, hLg, Or.inr ⟨ow2, tp2, hla, rfl, hC⟩⟩
theorem cal_X9_minor : mCal yX9_minor cX9_minor 1 0 (some .int) := ⟨in_573, by decide +kernel⟩
set_option maxHeartbeats 4000000 in
set_option maxRecDepth 100000 in
theorem h_minor0 {l : Launch} {dC : Nat → ClassId} {dI : Nat → Nat → Nat} {cI cZ cT : ClassId} {q : Nat → Nat} {kp : Nat} {Wn : Nat} {made : Nat} {fl : (Nat → Nat)} {num : (Nat → Nat → Int32)} {rfs : (Nat → Nat → Option Nat)} {root : (Nat → Option Nat)} {own : (Nat → Option Nat)} {tad : (Nat → Nat)} {trm : (Nat → Bool)} {tpl : (Nat → Nat)} {wlk : (Nat → Nat)} {ord : (Nat → Nat)} {met : (Nat → Option Nat)} {msz : Nat} {cur : Nat} {mend : Nat} {pnx : Nat} {pen : Nat} {st : Nat} {coll : Nat} {mins : Nat} {movd : Nat} {w : mM} (hC : CW cI cT q kp Wn made fl num rfs root own tad trm tpl wlk ord met msz cur mend pnx pen st coll mins movd w) (hkp : kp = 0) : mC l yX9_minor (wsY yX9_minor cX9_minor 1 (some .int)) { frames := 1, cells := 0, slots := 0, locals := 20 } (dC, dI) vwCl (tyL cI cZ cT) 0 0 w [.ref (q 0)] (fun v w2 => v = some (.int (-2)) ∧ CW cI cT q kp Wn made fl num rfs root own tad trm tpl wlk ord met msz cur mend pnx pen st coll mins movd w2) := by
  refine mC.on (by decide) (Nat.le_of_ble_eq_true rfl) ?_
  intro p e s m args below meth c ls S hr hlk hnm hK hN hG hl
  have hl : lv_has ls 1 [(0, .ref (q 0))] := hl
  generalize hAe : mA w s.heap.size = A at hG ⊢
  refine lv_aload_n S.1 S.2.1 dX9_minor_0 rfl (lv_at hl 0 rfl) ?_
  refine cg_RX9_33 S hK hG hC dX9_minor_1 ?_
  refine mCU (As := []) (rest := []) S (e_gatherYoung hC) (va_cwO (owner := "KeptHeap$Keeper") (x := ⟨"KeptHeap$Keeper", "gatherYoung", "()I"⟩) 0 S.2.2.2.2 (mGO (own := RX9) (index := 111) (x := ⟨"KeptHeap$Keeper", "gatherYoung", "()I"⟩) (owner := "KeptHeap$Keeper") in_578 in_574 in_575 in_576 in_581 in_580 in_72) rfl rfl rfl in_578 (by decide +kernel) ⟨by decide, by decide⟩) hK hN hG (hC.obj5 hkp) rfl rfl rfl hl.1 (Nat.le_of_ble_eq_true rfl) ⟨by decide, by decide⟩ dX9_minor_4 (fun v w H locs hp hG => ?_)
  obtain ⟨rfl, hw9⟩ := hp
  have hw9 := hw9.symm
  subst hw9
  refine W.eq (g2 := F0 m 7 ls [.int (-2)]) rfl ?_
  exact mw_iret S hr hlk hK hG dX9_minor_7 ⟨rfl, hC⟩
set_option maxHeartbeats 4000000 in
set_option maxRecDepth 100000 in
theorem h_minor1 {l : Launch} {dC : Nat → ClassId} {dI : Nat → Nat → Nat} {cI cZ cT : ClassId} {q : Nat → Nat} {kp : Nat} {Wn : Nat} {made : Nat} {fl : (Nat → Nat)} {num : (Nat → Nat → Int32)} {rfs : (Nat → Nat → Option Nat)} {root : (Nat → Option Nat)} {own : (Nat → Option Nat)} {tad : (Nat → Nat)} {trm : (Nat → Bool)} {tpl : (Nat → Nat)} {wlk : (Nat → Nat)} {ord : (Nat → Nat)} {met : (Nat → Option Nat)} {msz : Nat} {cur : Nat} {mend : Nat} {pnx : Nat} {pen : Nat} {st : Nat} {coll : Nat} {mins : Nat} {movd : Nat} {w : mM} (hC : CW cI cT q kp Wn made fl num rfs root own tad trm tpl wlk ord met msz cur mend pnx pen st coll mins movd w) (hkp : kp = 1) : mC l yX9_minor (wsY yX9_minor cX9_minor 1 (some .int)) { frames := 1, cells := 0, slots := 0, locals := 20 } (dC, dI) vwCl (tyL cI cZ cT) 0 0 w [.ref (q 0)] (fun v w2 => v = some (.int (-2)) ∧ CW cI cT q kp Wn made fl num rfs root own tad trm tpl wlk ord met msz cur mend pnx pen st coll mins movd w2) := by
  refine mC.on (by decide) (Nat.le_of_ble_eq_true rfl) ?_
  intro p e s m args below meth c ls S hr hlk hnm hK hN hG hl
  have hl : lv_has ls 1 [(0, .ref (q 0))] := hl
  generalize hAe : mA w s.heap.size = A at hG ⊢
  refine lv_aload_n S.1 S.2.1 dX9_minor_0 rfl (lv_at hl 0 rfl) ?_
  refine cg_RX9_33 S hK hG hC dX9_minor_1 ?_
  refine mCU (As := []) (rest := []) S (e_gatherYoung hC) (va_cwO (owner := "KeptHeap$Keeper") (x := ⟨"KeptHeap$Keeper", "gatherYoung", "()I"⟩) 0 S.2.2.2.2 (mGO (own := RX9) (index := 111) (x := ⟨"KeptHeap$Keeper", "gatherYoung", "()I"⟩) (owner := "KeptHeap$Keeper") in_578 in_574 in_575 in_576 in_579 in_580 in_72) rfl rfl rfl in_578 (by decide +kernel) ⟨by decide, by decide⟩) hK hN hG (hC.obj1 hkp) rfl rfl rfl hl.1 (Nat.le_of_ble_eq_true rfl) ⟨by decide, by decide⟩ dX9_minor_4 (fun v w H locs hp hG => ?_)
  obtain ⟨rfl, hw9⟩ := hp
  have hw9 := hw9.symm
  subst hw9
  refine W.eq (g2 := F0 m 7 ls [.int (-2)]) rfl ?_
  exact mw_iret S hr hlk hK hG dX9_minor_7 ⟨rfl, hC⟩
set_option maxHeartbeats 4000000 in
set_option maxRecDepth 100000 in
theorem h_minor2 {l : Launch} {dC : Nat → ClassId} {dI : Nat → Nat → Nat} {cI cZ cT : ClassId} {q : Nat → Nat} {kp : Nat} {Wn : Nat} {made : Nat} {fl : (Nat → Nat)} {num : (Nat → Nat → Int32)} {rfs : (Nat → Nat → Option Nat)} {root : (Nat → Option Nat)} {own : (Nat → Option Nat)} {tad : (Nat → Nat)} {trm : (Nat → Bool)} {tpl : (Nat → Nat)} {wlk : (Nat → Nat)} {ord : (Nat → Nat)} {met : (Nat → Option Nat)} {msz : Nat} {cur : Nat} {mend : Nat} {pnx : Nat} {pen : Nat} {st : Nat} {coll : Nat} {mins : Nat} {movd : Nat} {Kp : Nat → Prop} (hB : ∀ M : List Nat, M.Nodup → (∀ x ∈ M, Kp x) → M.length ≤ Wn) (hKm : ∀ x, Kp x → x < made) (hKf : ∀ x, Kp x → ∀ i, i < fl x → ∀ t, rfs x i = some t → Kp t) (hfl : ∀ x, x < made → fl x ≤ 6) {w : mM} (hC : CW cI cT q kp Wn made fl num rfs root own tad trm tpl wlk ord met msz cur mend pnx pen st coll mins movd w) (hkp : kp = 2) (hW4 : Wn ≤ 400) (hcb : cur + 1 < 2147483648) (htb : ∀ t, t < made → tad t < 2147483648) (hwb : ∀ o, o < made → wlk o ≤ cur) (hmt : ∀ k t, met k = some t → t < made) (hKr : ∀ i, i < 16 → ∀ t, root i = some t → Kp t) (hob : ∀ k t, own k = some t → t < made) (hKo : ∀ k t, Wn / 4 ≤ k → own k = some t → Kp t) (hcnt : ∀ ow2 tp2, lay fl Wn (flw (okC tad (Wn / 4)) fl rfs 401 0 (rmb (okC tad (Wn / 4)) fl rfs own tad trm (Wn / 4) (Wn - Wn / 4) (mtN (okC tad (Wn / 4)) root 16 []))) (own, tpl) = some (ow2, tp2) → (flw (okC tad (Wn / 4)) fl rfs 401 0 (rmb (okC tad (Wn / 4)) fl rfs own tad trm (Wn / 4) (Wn - Wn / 4) (mtN (okC tad (Wn / 4)) root 16 []))).length ≤ cnt (fun k => (bgn ow2 tad k).isSome) (Wn / 4)) : mC l yX9_minor (wsY yX9_minor cX9_minor 1 (some .int)) { frames := 4, cells := 0, slots := 0, locals := 92 } (dC, dI) vwCl (tyL cI cZ cT) 0 0 w [.ref (q 0)] (fun v w2 => ∃ (mt3 : Nat → Option Nat) (ms3 : Nat) (wl3 od3 : Nat → Nat), LsC made (cur + 1) ms3 mt3 wl3 od3 (flw (okC tad (Wn / 4)) fl rfs 401 0 (rmb (okC tad (Wn / 4)) fl rfs own tad trm (Wn / 4) (Wn - Wn / 4) (mtN (okC tad (Wn / 4)) root 16 []))) ∧ ((v = some (.int (-4)) ∧ lay fl Wn (flw (okC tad (Wn / 4)) fl rfs 401 0 (rmb (okC tad (Wn / 4)) fl rfs own tad trm (Wn / 4) (Wn - Wn / 4) (mtN (okC tad (Wn / 4)) root 16 []))) (own, tpl) = none ∧ ∃ (n2 : Nat) (ow2 : Nat → Option Nat) (tp2 : Nat → Nat), n2 ≤ (flw (okC tad (Wn / 4)) fl rfs 401 0 (rmb (okC tad (Wn / 4)) fl rfs own tad trm (Wn / 4) (Wn - Wn / 4) (mtN (okC tad (Wn / 4)) root 16 []))).length ∧ lay fl Wn ((flw (okC tad (Wn / 4)) fl rfs 401 0 (rmb (okC tad (Wn / 4)) fl rfs own tad trm (Wn / 4) (Wn - Wn / 4) (mtN (okC tad (Wn / 4)) root 16 []))).take n2) (own, tpl) = some (ow2, tp2) ∧ CW cI cT q kp Wn made fl num rfs root ((gbO fl tp2 ow2 ((flw (okC tad (Wn / 4)) fl rfs 401 0 (rmb (okC tad (Wn / 4)) fl rfs own tad trm (Wn / 4) (Wn - Wn / 4) (mtN (okC tad (Wn / 4)) root 16 []))).take n2))) tad trm tp2 wl3 od3 mt3 ms3 ((cur + 1)) ((Wn / 4)) pnx pen st coll mins movd w2) ∨ ∃ (ow2 : Nat → Option Nat) (tp2 : Nat → Nat), lay fl Wn (flw (okC tad (Wn / 4)) fl rfs 401 0 (rmb (okC tad (Wn / 4)) fl rfs own tad trm (Wn / 4) (Wn - Wn / 4) (mtN (okC tad (Wn / 4)) root 16 []))) (own, tpl) = some (ow2, tp2) ∧ v = some (.int (nI (cnt (fun k => (bgn ow2 tad k).isSome) (Wn / 4) - (flw (okC tad (Wn / 4)) fl rfs 401 0 (rmb (okC tad (Wn / 4)) fl rfs own tad trm (Wn / 4) (Wn - Wn / 4) (mtN (okC tad (Wn / 4)) root 16 []))).length))) ∧ CW cI cT q kp Wn made fl num rfs root ((fillO ow2 0 (Wn / 4) none)) ((goT tp2 tad (flw (okC tad (Wn / 4)) fl rfs 401 0 (rmb (okC tad (Wn / 4)) fl rfs own tad trm (Wn / 4) (Wn - Wn / 4) (mtN (okC tad (Wn / 4)) root 16 []))))) ((fgt (fillO ow2 0 (Wn / 4) none) (goT tp2 tad (flw (okC tad (Wn / 4)) fl rfs 401 0 (rmb (okC tad (Wn / 4)) fl rfs own tad trm (Wn / 4) (Wn - Wn / 4) (mtN (okC tad (Wn / 4)) root 16 [])))) (Wn / 4) (Wn - Wn / 4) trm)) tp2 wl3 od3 mt3 ms3 ((cur + 1)) ((Wn / 4)) 0 ((Wn / 4)) st coll ((mins + 1)) ((movd + (flw (okC tad (Wn / 4)) fl rfs 401 0 (rmb (okC tad (Wn / 4)) fl rfs own tad trm (Wn / 4) (Wn - Wn / 4) (mtN (okC tad (Wn / 4)) root 16 []))).length)) w2)) := by
  refine mC.on (by decide) (Nat.le_of_ble_eq_true rfl) ?_
  intro p e s m args below meth c ls S hr hlk hnm hK hN hG hl
  have hl : lv_has ls 1 [(0, .ref (q 0))] := hl
  generalize hAe : mA w s.heap.size = A at hG ⊢
  refine lv_aload_n S.1 S.2.1 dX9_minor_0 rfl (lv_at hl 0 rfl) ?_
  refine cg_RX9_33 S hK hG hC dX9_minor_1 ?_
  refine mCU (As := []) (rest := []) S (g_gatherYoung hB hKm hKf hfl hC hkp hW4 hcb htb hwb hmt hKr hob hKo hcnt) (va_cwO (owner := "KeptHeap$Keeper") (x := ⟨"KeptHeap$Keeper", "gatherYoung", "()I"⟩) 0 S.2.2.2.2 (mGO (own := RX9) (index := 111) (x := ⟨"KeptHeap$Keeper", "gatherYoung", "()I"⟩) (owner := "KeptHeap$Keeper") in_178 in_574 in_575 in_576 in_577 in_176 in_57) rfl rfl rfl in_578 (by decide +kernel) ⟨by decide, by decide⟩) hK hN hG (hC.obj0 hkp) rfl rfl rfl hl.1 (Nat.le_of_ble_eq_true rfl) ⟨by decide, by decide⟩ dX9_minor_4 (fun v w H locs hp hG => ?_)
  obtain ⟨mt6, ms6, wl6, od6, hLg, hcase⟩ := hp
  rcases hcase with ⟨rfl, hno, n2, ow2, tp2, hn2, hla, hC⟩ | ⟨ow2, tp2, hla, rfl, hC⟩
  · refine W.eq (g2 := F0 m 7 ls [.int (-4)]) rfl ?_
    exact mw_iret S hr hlk hK hG dX9_minor_7 ⟨mt6, ms6, wl6, od6, hLg, Or.inl ⟨rfl, hno, n2, ow2, tp2, hn2, hla, hC⟩⟩
  · refine W.eq (g2 := F0 m 7 ls [.int (nI (cnt (fun k => (bgn ow2 tad k).isSome) (Wn / 4) - (flw (okC tad (Wn / 4)) fl rfs 401 0 (rmb (okC tad (Wn / 4)) fl rfs own tad trm (Wn / 4) (Wn - Wn / 4) (mtN (okC tad (Wn / 4)) root 16 []))).length))]) rfl ?_
    exact mw_iret S hr hlk hK hG dX9_minor_7 ⟨mt6, ms6, wl6, od6, hLg, Or.inr ⟨ow2, tp2, hla, rfl, hC⟩⟩
theorem cal_X9_count : mCal yX9_count cX9_count 2 1 (some .int) := ⟨in_609, by decide +kernel⟩
set_option maxHeartbeats 4000000 in
set_option maxRecDepth 100000 in
theorem h_count {l : Launch} {dC : Nat → ClassId} {dI : Nat → Nat → Nat} {cI cZ cT : ClassId} {q : Nat → Nat} {kp : Nat} {Wn : Nat} {made : Nat} {fl : (Nat → Nat)} {num : (Nat → Nat → Int32)} {rfs : (Nat → Nat → Option Nat)} {root : (Nat → Option Nat)} {own : (Nat → Option Nat)} {tad : (Nat → Nat)} {trm : (Nat → Bool)} {tpl : (Nat → Nat)} {wlk : (Nat → Nat)} {ord : (Nat → Nat)} {met : (Nat → Option Nat)} {msz : Nat} {cur : Nat} {mend : Nat} {pnx : Nat} {pen : Nat} {st : Nat} {coll : Nat} {mins : Nat} {movd : Nat} {Kp : Nat → Prop} (hB : ∀ M : List Nat, M.Nodup → (∀ x ∈ M, Kp x) → M.length ≤ Wn) (hKm : ∀ x, Kp x → x < made) (hKf : ∀ x, Kp x → ∀ i, i < fl x → ∀ t, rfs x i = some t → Kp t) (hfl : ∀ x, x < made → fl x ≤ 6) {w : mM} (hC : CW cI cT q kp Wn made fl num rfs root own tad trm tpl wlk ord met msz cur mend pnx pen st coll mins movd w) (hW4 : Wn ≤ 400) (hcb : cur + 1 < 2147483648) (htb : ∀ t, t < made → tad t < 2147483648) (hwb : ∀ o, o < made → wlk o ≤ cur) (hmt : ∀ k t, met k = some t → t < made) (hKr : ∀ i, i < 16 → ∀ t, root i = some t → Kp t) (hkp3 : kp ≤ 2) (hob : ∀ k t, own k = some t → t < made) (y : Int32) : mC l yX9_count (wsY yX9_count cX9_count 2 (some .int)) { frames := 5, cells := 0, slots := 0, locals := 104 } (dC, dI) vwCl (tyL cI cZ cT) 0 0 w [.ref (q 0), .int (y)] (fun v w2 => v = some (.int (if y = nI 0 then nI (cnt (fun k => (bgn own tad k).isSome) Wn) else if y = nI 1 then nI (cnt (fun k => (own k).isSome) Wn) else if y = nI 2 then nI made else if y = nI 3 then nI coll else if y = nI 4 then nI mins else if y = nI 5 then nI movd else if y = nI 6 then nI (cnt (fun k => match bgn own tad k with | none => false | some t => trm t) Wn) else if y = nI 7 then nI (flw (okC tad Wn) fl rfs 401 0 (mtN (okC tad Wn) root 16 [])).length else if y = nI 8 then nI Wn else -2)) ∧ ∃ (mt3 : Nat → Option Nat) (ms3 : Nat) (wl3 od3 : Nat → Nat) (cur3 mend3 : Nat), CW cI cT q kp Wn made fl num rfs root own tad trm tpl wl3 od3 mt3 ms3 cur3 mend3 pnx pen st coll mins movd w2 ∧ (∀ o, o < made → wl3 o ≤ cur3) ∧ (∀ k t, mt3 k = some t → t < made) ∧ cur3 ≤ cur + 1) := by
  refine mC.on (by decide) (Nat.le_of_ble_eq_true rfl) ?_
  intro p e s m args below meth c ls S hr hlk hnm hK hN hG hl
  have hl : lv_has ls 2 [(0, .ref (q 0)), (1, .int (y))] := hl
  generalize hAe : mA w s.heap.size = A at hG ⊢
  refine lv_iload_n S.1 S.2.1 dX9_count_0 rfl (lv_at hl 1 rfl) ?_
  by_cases hy : inR 9 y = true
  · obtain ⟨i, hi, rfl⟩ := inR_ex (by decide) hy
    rcases (show i = 0 ∨ i = 1 ∨ i = 2 ∨ i = 3 ∨ i = 4 ∨ i = 5 ∨ i = 6 ∨ i = 7 ∨ i = 8 by omega) with rfl | rfl | rfl | rfl | rfl | rfl | rfl | rfl | rfl
    · refine lv_tableIn (tgt := 52) (off := 51) S.1 S.2.1 dX9_count_1 (by decide) (by decide) (by decide) (by decide) ?_
      refine lv_aload_n S.1 S.2.1 dX9_count_52 rfl (lv_at hl 0 rfl) ?_
      refine cg_RX9_21 S hK hG hC dX9_count_53 ?_
      refine lv_aload_n S.1 S.2.1 dX9_count_56 rfl (lv_at hl 0 rfl) ?_
      refine cg_RX9_21 S hK hG hC dX9_count_57 ?_
      refine mCV (As := []) (rest := [.ref (q 1)]) S (w_length hC) cal_X8_length in_600 in_85 in_86 in_18 hK hN hG hC.obj8 rfl rfl rfl hl.1 (Nat.le_of_ble_eq_true rfl) ⟨by decide, by decide⟩ ⟨rfl, rfl⟩ ⟨by decide, by decide⟩ dX9_count_60 (fun v w H locs hp hG => ?_)
      obtain ⟨rfl, hw9⟩ := hp
      have hw9 := hw9.symm
      subst hw9
      refine W.eq (g2 := F0 m 63 ls [.int (nI (Wn)), .ref (q 1)]) rfl ?_
      refine mCV (As := [.int (nI (Wn))]) (rest := []) S (w_thingsBelow hC hob (by omega) htb Wn (Nat.le_refl Wn)) cal_X8_thingsBelow in_613 in_268 in_269 in_18 hK hN hG hC.obj8 rfl rfl rfl hl.1 (Nat.le_of_ble_eq_true rfl) ⟨by decide, by decide⟩ ⟨rfl, rfl⟩ ⟨by decide, by decide⟩ dX9_count_63 (fun v w H locs hp hG => ?_)
      obtain ⟨rfl, hw9⟩ := hp
      have hw9 := hw9.symm
      subst hw9
      refine W.eq (g2 := F0 m 66 ls [.int (nI (cnt (fun k => (bgn own tad k).isSome) Wn))]) rfl ?_
      exact mw_iret S hr hlk hK hG dX9_count_66 ⟨by rw [if_pos rfl], met, msz, wlk, ord, cur, mend, hC, hwb, hmt, by omega⟩
    · refine lv_tableIn (tgt := 67) (off := 66) S.1 S.2.1 dX9_count_1 (by decide) (by decide) (by decide) (by decide) ?_
      refine lv_aload_n S.1 S.2.1 dX9_count_67 rfl (lv_at hl 0 rfl) ?_
      refine cg_RX9_21 S hK hG hC dX9_count_68 ?_
      refine mCV (As := []) (rest := []) S (w_taken hC (by omega)) cal_X8_taken in_614 in_615 in_616 in_18 hK hN hG hC.obj8 rfl rfl rfl hl.1 (Nat.le_of_ble_eq_true rfl) ⟨by decide, by decide⟩ ⟨rfl, rfl⟩ ⟨by decide, by decide⟩ dX9_count_71 (fun v w H locs hp hG => ?_)
      obtain ⟨rfl, hw9⟩ := hp
      have hw9 := hw9.symm
      subst hw9
      refine W.eq (g2 := F0 m 74 ls [.int (nI (cnt (fun k => (own k).isSome) Wn))]) rfl ?_
      exact mw_iret S hr hlk hK hG dX9_count_74 ⟨by rw [if_neg (show ¬ nI 1 = nI 0 by decide), if_pos rfl], met, msz, wlk, ord, cur, mend, hC, hwb, hmt, by omega⟩
    · refine lv_tableIn (tgt := 75) (off := 74) S.1 S.2.1 dX9_count_1 (by decide) (by decide) (by decide) (by decide) ?_
      refine lv_aload_n S.1 S.2.1 dX9_count_75 rfl (lv_at hl 0 rfl) ?_
      refine cg_RX9_37 S hK hG hC dX9_count_76 ?_
      exact mw_iret S hr hlk hK hG dX9_count_79 ⟨by rw [if_neg (show ¬ nI 2 = nI 0 by decide), if_neg (show ¬ nI 2 = nI 1 by decide), if_pos rfl], met, msz, wlk, ord, cur, mend, hC, hwb, hmt, by omega⟩
    · refine lv_tableIn (tgt := 80) (off := 79) S.1 S.2.1 dX9_count_1 (by decide) (by decide) (by decide) (by decide) ?_
      refine lv_aload_n S.1 S.2.1 dX9_count_80 rfl (lv_at hl 0 rfl) ?_
      refine cg_RX9_33 S hK hG hC dX9_count_81 ?_
      refine cg_RX9_132 S hK hG hC dX9_count_84 ?_
      exact mw_iret S hr hlk hK hG dX9_count_87 ⟨by rw [if_neg (show ¬ nI 3 = nI 0 by decide), if_neg (show ¬ nI 3 = nI 1 by decide), if_neg (show ¬ nI 3 = nI 2 by decide), if_pos rfl], met, msz, wlk, ord, cur, mend, hC, hwb, hmt, by omega⟩
    · refine lv_tableIn (tgt := 88) (off := 87) S.1 S.2.1 dX9_count_1 (by decide) (by decide) (by decide) (by decide) ?_
      refine lv_aload_n S.1 S.2.1 dX9_count_88 rfl (lv_at hl 0 rfl) ?_
      refine cg_RX9_33 S hK hG hC dX9_count_89 ?_
      refine cg_RX9_135 S hK hG hC dX9_count_92 ?_
      exact mw_iret S hr hlk hK hG dX9_count_95 ⟨by rw [if_neg (show ¬ nI 4 = nI 0 by decide), if_neg (show ¬ nI 4 = nI 1 by decide), if_neg (show ¬ nI 4 = nI 2 by decide), if_neg (show ¬ nI 4 = nI 3 by decide), if_pos rfl], met, msz, wlk, ord, cur, mend, hC, hwb, hmt, by omega⟩
    · refine lv_tableIn (tgt := 96) (off := 95) S.1 S.2.1 dX9_count_1 (by decide) (by decide) (by decide) (by decide) ?_
      refine lv_aload_n S.1 S.2.1 dX9_count_96 rfl (lv_at hl 0 rfl) ?_
      refine cg_RX9_33 S hK hG hC dX9_count_97 ?_
      refine cg_RX9_138 S hK hG hC dX9_count_100 ?_
      exact mw_iret S hr hlk hK hG dX9_count_103 ⟨by rw [if_neg (show ¬ nI 5 = nI 0 by decide), if_neg (show ¬ nI 5 = nI 1 by decide), if_neg (show ¬ nI 5 = nI 2 by decide), if_neg (show ¬ nI 5 = nI 3 by decide), if_neg (show ¬ nI 5 = nI 4 by decide), if_pos rfl], met, msz, wlk, ord, cur, mend, hC, hwb, hmt, by omega⟩
    · refine lv_tableIn (tgt := 104) (off := 103) S.1 S.2.1 dX9_count_1 (by decide) (by decide) (by decide) (by decide) ?_
      refine lv_aload_n S.1 S.2.1 dX9_count_104 rfl (lv_at hl 0 rfl) ?_
      refine cg_RX9_21 S hK hG hC dX9_count_105 ?_
      refine mCV (As := []) (rest := []) S (w_rememberedThings hC hob (by omega) htb) cal_X8_rememberedThings in_618 in_619 in_620 in_18 hK hN hG hC.obj8 rfl rfl rfl hl.1 (Nat.le_of_ble_eq_true rfl) ⟨by decide, by decide⟩ ⟨rfl, rfl⟩ ⟨by decide, by decide⟩ dX9_count_108 (fun v w H locs hp hG => ?_)
      obtain ⟨rfl, hw9⟩ := hp
      have hw9 := hw9.symm
      subst hw9
      refine W.eq (g2 := F0 m 111 ls [.int (nI (cnt (fun k => match bgn own tad k with | none => false | some t => trm t) Wn))]) rfl ?_
      exact mw_iret S hr hlk hK hG dX9_count_111 ⟨by rw [if_neg (show ¬ nI 6 = nI 0 by decide), if_neg (show ¬ nI 6 = nI 1 by decide), if_neg (show ¬ nI 6 = nI 2 by decide), if_neg (show ¬ nI 6 = nI 3 by decide), if_neg (show ¬ nI 6 = nI 4 by decide), if_neg (show ¬ nI 6 = nI 5 by decide), if_pos rfl], met, msz, wlk, ord, cur, mend, hC, hwb, hmt, by omega⟩
    · refine lv_tableIn (tgt := 112) (off := 111) S.1 S.2.1 dX9_count_1 (by decide) (by decide) (by decide) (by decide) ?_
      refine lv_aload_n S.1 S.2.1 dX9_count_112 rfl (lv_at hl 0 rfl) ?_
      refine cg_RX9_33 S hK hG hC dX9_count_113 ?_
      rcases (show kp = 0 ∨ kp = 1 ∨ kp = 2 by omega) with hkp | hkp | hkp
      · refine mCU (As := []) (rest := []) S (e_reachedThings hB hKm hKf hfl hC hW4 hcb htb hwb hmt hKr hkp3) (va_cwU (owner := "KeptHeap$Keeper") (x := ⟨"KeptHeap$Keeper", "reachedThings", "()I"⟩) 0 S.2.2.2.2 (mGU (own := RX9) (index := 144) (x := ⟨"KeptHeap$Keeper", "reachedThings", "()I"⟩) (owner := "KeptHeap$Keeper") in_627 in_623 in_624 in_635 in_626 in_72) rfl rfl rfl rfl (by decide +kernel) ⟨by decide, by decide⟩) hK hN hG (hC.obj5 hkp) rfl rfl rfl hl.1 (Nat.le_of_ble_eq_true rfl) ⟨by decide, by decide⟩ dX9_count_116 (fun v w H locs hp hG => ?_)
        obtain ⟨rfl, mt5, ms5, wl5, od5, hC, hLf⟩ := hp
        refine W.eq (g2 := F0 m 119 ls [.int (nI ((flw (okC tad Wn) fl rfs 401 0 (mtN (okC tad Wn) root 16 [])).length))]) rfl ?_
        exact mw_iret S hr hlk hK hG dX9_count_119 ⟨by rw [if_neg (show ¬ nI 7 = nI 0 by decide), if_neg (show ¬ nI 7 = nI 1 by decide), if_neg (show ¬ nI 7 = nI 2 by decide), if_neg (show ¬ nI 7 = nI 3 by decide), if_neg (show ¬ nI 7 = nI 4 by decide), if_neg (show ¬ nI 7 = nI 5 by decide), if_neg (show ¬ nI 7 = nI 6 by decide), if_pos rfl], mt5, ms5, wl5, od5, cur + 1, Wn, hC, hLf.hw, hLf.hm, Nat.le_refl _⟩
      · refine mCU (As := []) (rest := []) S (e_reachedThings hB hKm hKf hfl hC hW4 hcb htb hwb hmt hKr hkp3) (va_cwU (owner := "KeptHeap$Keeper") (x := ⟨"KeptHeap$Keeper", "reachedThings", "()I"⟩) 0 S.2.2.2.2 (mGU (own := RX9) (index := 144) (x := ⟨"KeptHeap$Keeper", "reachedThings", "()I"⟩) (owner := "KeptHeap$Keeper") in_627 in_623 in_624 in_634 in_626 in_72) rfl rfl rfl rfl (by decide +kernel) ⟨by decide, by decide⟩) hK hN hG (hC.obj1 hkp) rfl rfl rfl hl.1 (Nat.le_of_ble_eq_true rfl) ⟨by decide, by decide⟩ dX9_count_116 (fun v w H locs hp hG => ?_)
        obtain ⟨rfl, mt5, ms5, wl5, od5, hC, hLf⟩ := hp
        refine W.eq (g2 := F0 m 119 ls [.int (nI ((flw (okC tad Wn) fl rfs 401 0 (mtN (okC tad Wn) root 16 [])).length))]) rfl ?_
        exact mw_iret S hr hlk hK hG dX9_count_119 ⟨by rw [if_neg (show ¬ nI 7 = nI 0 by decide), if_neg (show ¬ nI 7 = nI 1 by decide), if_neg (show ¬ nI 7 = nI 2 by decide), if_neg (show ¬ nI 7 = nI 3 by decide), if_neg (show ¬ nI 7 = nI 4 by decide), if_neg (show ¬ nI 7 = nI 5 by decide), if_neg (show ¬ nI 7 = nI 6 by decide), if_pos rfl], mt5, ms5, wl5, od5, cur + 1, Wn, hC, hLf.hw, hLf.hm, Nat.le_refl _⟩
      · refine mCU (As := []) (rest := []) S (e_reachedThings hB hKm hKf hfl hC hW4 hcb htb hwb hmt hKr hkp3) (va_cwU (owner := "KeptHeap$Keeper") (x := ⟨"KeptHeap$Keeper", "reachedThings", "()I"⟩) 0 S.2.2.2.2 (mGU (own := RX9) (index := 144) (x := ⟨"KeptHeap$Keeper", "reachedThings", "()I"⟩) (owner := "KeptHeap$Keeper") in_627 in_623 in_624 in_625 in_626 in_72) rfl rfl rfl rfl (by decide +kernel) ⟨by decide, by decide⟩) hK hN hG (hC.obj0 hkp) rfl rfl rfl hl.1 (Nat.le_of_ble_eq_true rfl) ⟨by decide, by decide⟩ dX9_count_116 (fun v w H locs hp hG => ?_)
        obtain ⟨rfl, mt5, ms5, wl5, od5, hC, hLf⟩ := hp
        refine W.eq (g2 := F0 m 119 ls [.int (nI ((flw (okC tad Wn) fl rfs 401 0 (mtN (okC tad Wn) root 16 [])).length))]) rfl ?_
        exact mw_iret S hr hlk hK hG dX9_count_119 ⟨by rw [if_neg (show ¬ nI 7 = nI 0 by decide), if_neg (show ¬ nI 7 = nI 1 by decide), if_neg (show ¬ nI 7 = nI 2 by decide), if_neg (show ¬ nI 7 = nI 3 by decide), if_neg (show ¬ nI 7 = nI 4 by decide), if_neg (show ¬ nI 7 = nI 5 by decide), if_neg (show ¬ nI 7 = nI 6 by decide), if_pos rfl], mt5, ms5, wl5, od5, cur + 1, Wn, hC, hLf.hw, hLf.hm, Nat.le_refl _⟩
    · refine lv_tableIn (tgt := 120) (off := 119) S.1 S.2.1 dX9_count_1 (by decide) (by decide) (by decide) (by decide) ?_
      refine lv_aload_n S.1 S.2.1 dX9_count_120 rfl (lv_at hl 0 rfl) ?_
      refine cg_RX9_21 S hK hG hC dX9_count_121 ?_
      refine mCV (As := []) (rest := []) S (w_length hC) cal_X8_length in_600 in_85 in_86 in_18 hK hN hG hC.obj8 rfl rfl rfl hl.1 (Nat.le_of_ble_eq_true rfl) ⟨by decide, by decide⟩ ⟨rfl, rfl⟩ ⟨by decide, by decide⟩ dX9_count_124 (fun v w H locs hp hG => ?_)
      obtain ⟨rfl, hw9⟩ := hp
      have hw9 := hw9.symm
      subst hw9
      refine W.eq (g2 := F0 m 127 ls [.int (nI (Wn))]) rfl ?_
      exact mw_iret S hr hlk hK hG dX9_count_127 ⟨by rw [if_neg (show ¬ nI 8 = nI 0 by decide), if_neg (show ¬ nI 8 = nI 1 by decide), if_neg (show ¬ nI 8 = nI 2 by decide), if_neg (show ¬ nI 8 = nI 3 by decide), if_neg (show ¬ nI 8 = nI 4 by decide), if_neg (show ¬ nI 8 = nI 5 by decide), if_neg (show ¬ nI 8 = nI 6 by decide), if_neg (show ¬ nI 8 = nI 7 by decide), if_pos rfl], met, msz, wlk, ord, cur, mend, hC, hwb, hmt, by omega⟩
  · refine lv_tableOut (tgt := 128) S.1 S.2.1 dX9_count_1 (inR_out (n := 8) hy) (by decide) ?_
    refine lv_bipush (v := -2) S.1 S.2.1 dX9_count_128 (by decide) ?_
    exact mw_iret S hr hlk hK hG dX9_count_130 ⟨by rw [if_neg (show ¬ y = nI 0 from fun z => hy (by rw [z]; decide)), if_neg (show ¬ y = nI 1 from fun z => hy (by rw [z]; decide)), if_neg (show ¬ y = nI 2 from fun z => hy (by rw [z]; decide)), if_neg (show ¬ y = nI 3 from fun z => hy (by rw [z]; decide)), if_neg (show ¬ y = nI 4 from fun z => hy (by rw [z]; decide)), if_neg (show ¬ y = nI 5 from fun z => hy (by rw [z]; decide)), if_neg (show ¬ y = nI 6 from fun z => hy (by rw [z]; decide)), if_neg (show ¬ y = nI 7 from fun z => hy (by rw [z]; decide)), if_neg (show ¬ y = nI 8 from fun z => hy (by rw [z]; decide))], met, msz, wlk, ord, cur, mend, hC, hwb, hmt, by omega⟩
theorem cal_X9_sum : mCal yX9_sum cX9_sum 3 1 (some .long) := ⟨in_651, by decide +kernel⟩
set_option maxHeartbeats 4000000 in
set_option maxRecDepth 100000 in
theorem h_sum {l : Launch} {dC : Nat → ClassId} {dI : Nat → Nat → Nat} {cI cZ cT : ClassId} {q : Nat → Nat} {kp : Nat} {Wn : Nat} {made : Nat} {fl : (Nat → Nat)} {num : (Nat → Nat → Int32)} {rfs : (Nat → Nat → Option Nat)} {root : (Nat → Option Nat)} {own : (Nat → Option Nat)} {tad : (Nat → Nat)} {trm : (Nat → Bool)} {tpl : (Nat → Nat)} {wlk : (Nat → Nat)} {ord : (Nat → Nat)} {met : (Nat → Option Nat)} {msz : Nat} {cur : Nat} {mend : Nat} {pnx : Nat} {pen : Nat} {st : Nat} {coll : Nat} {mins : Nat} {movd : Nat} {Kp : Nat → Prop} (hB : ∀ M : List Nat, M.Nodup → (∀ x ∈ M, Kp x) → M.length ≤ Wn) (hKm : ∀ x, Kp x → x < made) (hKf : ∀ x, Kp x → ∀ i, i < fl x → ∀ t, rfs x i = some t → Kp t) (hfl : ∀ x, x < made → fl x ≤ 6) {w : mM} (hC : CW cI cT q kp Wn made fl num rfs root own tad trm tpl wlk ord met msz cur mend pnx pen st coll mins movd w) (hW4 : Wn ≤ 400) (hcb : cur + 1 < 2147483648) (htb : ∀ t, t < made → tad t < 2147483648) (hwb : ∀ o, o < made → wlk o ≤ cur) (hmt : ∀ k t, met k = some t → t < made) (hKr : ∀ i, i < 16 → ∀ t, root i = some t → Kp t) (hkp3 : kp ≤ 2) (x : Int32) : mC l yX9_sum (wsY yX9_sum cX9_sum 3 (some .long)) { frames := 4, cells := 0, slots := 0, locals := 89 } (dC, dI) vwCl (tyL cI cZ cT) 0 0 w [.ref (q 0), .int (x)] (fun v w2 => ∃ (mt3 : Nat → Option Nat) (ms3 : Nat) (wl3 od3 : Nat → Nat) (cur3 mend3 : Nat), CW cI cT q kp Wn made fl num rfs root own tad trm tpl wl3 od3 mt3 ms3 cur3 mend3 pnx pen st coll mins movd w2 ∧ (∀ o, o < made → wl3 o ≤ cur3) ∧ (∀ k t, mt3 k = some t → t < made) ∧ cur3 ≤ cur + 1 ∧ ((inR 16 x = false ∧ v = some (.long (-2))) ∨ (∃ j, j < 16 ∧ x = nI j ∧ root j = none ∧ v = some (.long 0)) ∨ ∃ j k, j < 16 ∧ x = nI j ∧ root j = some k ∧ v = some (.long ((flw (okC tad Wn) fl rfs 401 0 (mtL (okC tad Wn) [] (some k))).foldl (smO fl num rfs od3) 7)) ∧ LsC made cur3 ms3 mt3 wl3 od3 (flw (okC tad Wn) fl rfs 401 0 (mtL (okC tad Wn) [] (some k))))) := by
  refine mC.on (by decide) (Nat.le_of_ble_eq_true rfl) ?_
  intro p e s m args below meth c ls S hr hlk hnm hK hN hG hl
  have hl : lv_has ls 3 [(0, .ref (q 0)), (1, .int (x))] := hl
  generalize hAe : mA w s.heap.size = A at hG ⊢
  refine lv_aload_n S.1 S.2.1 dX9_sum_0 rfl (lv_at hl 0 rfl) ?_
  refine cg_RX9_25 S hK hG hC dX9_sum_1 ?_
  refine lv_iload_n S.1 S.2.1 dX9_sum_4 rfl (lv_at hl 1 rfl) ?_
  refine mCV (As := [.int (x)]) (rest := []) S (o_has hC x) cal_X4_has in_144 in_145 in_146 in_21 hK hN hG hC.obj4 rfl rfl rfl hl.1 (Nat.le_of_ble_eq_true rfl) ⟨by decide, by decide⟩ ⟨rfl, rfl⟩ ⟨by decide, by decide⟩ dX9_sum_5 (fun v w H locs hp hG => ?_)
  obtain ⟨rfl, hw9⟩ := hp
  have hw9 := hw9.symm
  subst hw9
  refine W.eq (g2 := F0 m 8 ls [.int (bI (inR 16 x))]) rfl ?_
  refine lv_if_ne (tgt := 15) S.1 S.2.1 dX9_sum_8 (by decide) (fun c1 => ?_) (fun c1 => ?_)
  · obtain ⟨j, hj, rfl⟩ := inR_ex (by decide) (bI_t c1)
    refine lv_aload_n S.1 S.2.1 dX9_sum_15 rfl (lv_at hl 0 rfl) ?_
    refine cg_RX9_25 S hK hG hC dX9_sum_16 ?_
    refine lv_iload_n S.1 S.2.1 dX9_sum_19 rfl (lv_at hl 1 rfl) ?_
    refine mCV (As := [.int (nI (j))]) (rest := []) S (o_thingOf hC (by omega) (nI j)) cal_X4_thingOf in_465 in_196 in_197 in_21 hK hN hG hC.obj4 rfl rfl rfl hl.1 (Nat.le_of_ble_eq_true rfl) ⟨by decide, by decide⟩ ⟨rfl, rfl⟩ ⟨by decide, by decide⟩ dX9_sum_20 (fun v w H locs hp hG => ?_)
    obtain ⟨rfl, hw9⟩ := hp
    have hw9 := hw9.symm
    subst hw9
    rw [if_pos (inR_nI hj (by omega)), nI_clamp (by omega)]
    refine W.eq (g2 := F0 m 23 ls [va_rf ((root j).map (tq q))]) rfl ?_
    refine lw_astore_n (lv' := [(2, va_rf ((root j).map (tq q))), (0, .ref (q 0)), (1, .int (nI (j)))]) S.1 S.2.1 dX9_sum_23 rfl hl (by decide) rfl (fun ls hl => ?_)
    refine lw_aload_n S.1 S.2.1 dX9_sum_24 rfl (lv_at hl 0 rfl) ?_
    refine lw_ifnonnull (x := root j) (tgt := 32) S.1 S.2.1 dX9_sum_25 (by decide) (fun c2 => ?_) (fun k c2 => ?_)
    · refine lv_lconst (v := 0) S.1 S.2.1 dX9_sum_28 (by decide) ?_
      refine lv_goto (tgt := 40) S.1 S.2.1 dX9_sum_29 (by decide) ?_
      exact mw_lret S hr hlk hK hG dX9_sum_40 ⟨met, msz, wlk, ord, cur, mend, hC, hwb, hmt, by omega, Or.inr (Or.inl ⟨j, hj, rfl, c2, rfl⟩)⟩
    · have hKk := hKr j hj k c2
      have hkm := hKm k hKk
      rw [c2] at hl
      have hl : lv_has ls 3 [(2, .ref (tq q k)), (0, .ref (q 0)), (1, .int (nI (j)))] := hl
      refine lv_aload_n S.1 S.2.1 dX9_sum_32 rfl (lv_at hl 1 rfl) ?_
      refine cg_RX9_33 S hK hG hC dX9_sum_33 ?_
      refine lv_aload_n S.1 S.2.1 dX9_sum_36 rfl (lv_at hl 0 rfl) ?_
      rcases (show kp = 0 ∨ kp = 1 ∨ kp = 2 by omega) with hkp | hkp | hkp
      · refine mCU (As := [.ref (tq q k)]) (rest := []) S (e_sumFrom hB hKm hKf hfl hC hW4 hcb htb hwb hmt k hKk) (va_cwU (owner := "KeptHeap$Keeper") (x := ⟨"KeptHeap$Keeper", "sumFrom", "(LKeptHeap$Thing;)J"⟩) 1 S.2.2.2.2 (mGU (own := RX9) (index := 149) (x := ⟨"KeptHeap$Keeper", "sumFrom", "(LKeptHeap$Thing;)J"⟩) (owner := "KeptHeap$Keeper") in_657 in_653 in_654 in_671 in_656 in_72) rfl rfl rfl rfl (by decide +kernel) ⟨by decide, by decide⟩) hK hN hG (hC.obj5 hkp) rfl rfl rfl hl.1 (Nat.le_of_ble_eq_true rfl) ⟨by decide, by decide⟩ dX9_sum_37 (fun v w H locs hp hG => ?_)
        obtain ⟨mt5, ms5, wl5, od5, rfl, hC, hLf⟩ := hp
        refine W.eq (g2 := F0 m 40 ls [.long ((flw (okC tad Wn) fl rfs 401 0 (mtL (okC tad Wn) [] (some k))).foldl (smO fl num rfs od5) 7)]) rfl ?_
        exact mw_lret S hr hlk hK hG dX9_sum_40 ⟨mt5, ms5, wl5, od5, cur + 1, Wn, hC, hLf.hw, hLf.hm, Nat.le_refl _, Or.inr (Or.inr ⟨j, k, hj, rfl, c2, rfl, hLf⟩)⟩
      · refine mCU (As := [.ref (tq q k)]) (rest := []) S (e_sumFrom hB hKm hKf hfl hC hW4 hcb htb hwb hmt k hKk) (va_cwU (owner := "KeptHeap$Keeper") (x := ⟨"KeptHeap$Keeper", "sumFrom", "(LKeptHeap$Thing;)J"⟩) 1 S.2.2.2.2 (mGU (own := RX9) (index := 149) (x := ⟨"KeptHeap$Keeper", "sumFrom", "(LKeptHeap$Thing;)J"⟩) (owner := "KeptHeap$Keeper") in_657 in_653 in_654 in_670 in_656 in_72) rfl rfl rfl rfl (by decide +kernel) ⟨by decide, by decide⟩) hK hN hG (hC.obj1 hkp) rfl rfl rfl hl.1 (Nat.le_of_ble_eq_true rfl) ⟨by decide, by decide⟩ dX9_sum_37 (fun v w H locs hp hG => ?_)
        obtain ⟨mt5, ms5, wl5, od5, rfl, hC, hLf⟩ := hp
        refine W.eq (g2 := F0 m 40 ls [.long ((flw (okC tad Wn) fl rfs 401 0 (mtL (okC tad Wn) [] (some k))).foldl (smO fl num rfs od5) 7)]) rfl ?_
        exact mw_lret S hr hlk hK hG dX9_sum_40 ⟨mt5, ms5, wl5, od5, cur + 1, Wn, hC, hLf.hw, hLf.hm, Nat.le_refl _, Or.inr (Or.inr ⟨j, k, hj, rfl, c2, rfl, hLf⟩)⟩
      · refine mCU (As := [.ref (tq q k)]) (rest := []) S (e_sumFrom hB hKm hKf hfl hC hW4 hcb htb hwb hmt k hKk) (va_cwU (owner := "KeptHeap$Keeper") (x := ⟨"KeptHeap$Keeper", "sumFrom", "(LKeptHeap$Thing;)J"⟩) 1 S.2.2.2.2 (mGU (own := RX9) (index := 149) (x := ⟨"KeptHeap$Keeper", "sumFrom", "(LKeptHeap$Thing;)J"⟩) (owner := "KeptHeap$Keeper") in_657 in_653 in_654 in_655 in_656 in_72) rfl rfl rfl rfl (by decide +kernel) ⟨by decide, by decide⟩) hK hN hG (hC.obj0 hkp) rfl rfl rfl hl.1 (Nat.le_of_ble_eq_true rfl) ⟨by decide, by decide⟩ dX9_sum_37 (fun v w H locs hp hG => ?_)
        obtain ⟨mt5, ms5, wl5, od5, rfl, hC, hLf⟩ := hp
        refine W.eq (g2 := F0 m 40 ls [.long ((flw (okC tad Wn) fl rfs 401 0 (mtL (okC tad Wn) [] (some k))).foldl (smO fl num rfs od5) 7)]) rfl ?_
        exact mw_lret S hr hlk hK hG dX9_sum_40 ⟨mt5, ms5, wl5, od5, cur + 1, Wn, hC, hLf.hw, hLf.hm, Nat.le_refl _, Or.inr (Or.inr ⟨j, k, hj, rfl, c2, rfl, hLf⟩)⟩
  · refine lv_ldc2 S.1 S.2.1 S.2.2.2.1 (S.2.2.2.2 _ in_652) dX9_sum_11 ?_
    exact mw_lret S hr hlk hK hG dX9_sum_14 ⟨met, msz, wlk, ord, cur, mend, hC, hwb, hmt, by omega, Or.inl ⟨bI_f c1, rfl⟩⟩
