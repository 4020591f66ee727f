theorem goT_at (tpl tad : Nat → Nat) : ∀ (L : List Nat) (t : Nat), goT tpl tad L t = if t ∈ L then tpl t else tad t := by
  suffices h : ∀ (L : List Nat) (td : Nat → Nat) (t : Nat), L.foldl (fun td x => va_up td x (tpl x)) td t = if t ∈ L then tpl t else td t from fun L t => h L tad t
  intro L
  induction L with
  | nil => intro td t; rw [if_neg List.not_mem_nil]; rfl
  | cons x l ih =>
    intro td t
    show l.foldl _ (va_up td x (tpl x)) t = _
    rw [ih]
    by_cases h : t ∈ l
    · rw [if_pos h, if_pos (List.mem_cons_of_mem _ h)]
    · rw [if_neg h]
      unfold va_up
      by_cases h2 : t = x
      · rw [if_pos h2, if_pos (by rw [h2]; exact List.mem_cons_self), h2]
      · rw [if_neg h2, if_neg (fun z => (List.mem_cons.mp z).elim h2 h)]
theorem nI_m4 {k : Nat} (h : k < 2147483648) : ¬ nI k = -4 := fun z => by
  have h2 := nI_toInt h
  rw [z] at h2
  have h3 : ((-4 : Int32)).toInt = -4 := by decide
  rw [h3] at h2
  omega
theorem cal_X0_gatherYoung : mCal yX0_gatherYoung cX0_gatherYoung 3 0 (some .int) := ⟨in_178, by decide +kernel⟩
set_option maxHeartbeats 4000000 in
set_option maxRecDepth 100000 in
theorem g_gatherYoung {l : Launch} {dC : Nat → ClassId} {dI : Nat → Nat → Nat} {cI cZ cT : ClassId} {q : Nat → Nat} {kp : Nat} {Wn : Nat} {made : Nat} {fl : (Nat → Nat)} {num : (Nat → Nat → Int32)} {rfs : (Nat → Nat → Option Nat)} {root : (Nat → Option Nat)} {own : (Nat → Option Nat)} {tad : (Nat → Nat)} {trm : (Nat → Bool)} {tpl : (Nat → Nat)} {wlk : (Nat → Nat)} {ord : (Nat → Nat)} {met : (Nat → Option Nat)} {msz : Nat} {cur : Nat} {mend : Nat} {pnx : Nat} {pen : Nat} {st : Nat} {coll : Nat} {mins : Nat} {movd : Nat} {Kp : Nat → Prop} (hB : ∀ M : List Nat, M.Nodup → (∀ x ∈ M, Kp x) → M.length ≤ Wn) (hKm : ∀ x, Kp x → x < made) (hKf : ∀ x, Kp x → ∀ i, i < fl x → ∀ t, rfs x i = some t → Kp t) (hfl : ∀ x, x < made → fl x ≤ 6) {w : mM} (hC : CW cI cT q kp Wn made fl num rfs root own tad trm tpl wlk ord met msz cur mend pnx pen st coll mins movd w) (hkp : kp = 2) (hW4 : Wn ≤ 400) (hcb : cur + 1 < 2147483648) (htb : ∀ t, t < made → tad t < 2147483648) (hwb : ∀ o, o < made → wlk o ≤ cur) (hmt : ∀ k t, met k = some t → t < made) (hKr : ∀ i, i < 16 → ∀ t, root i = some t → Kp t) (hob : ∀ k t, own k = some t → t < made) (hKo : ∀ k t, Wn / 4 ≤ k → own k = some t → Kp t) (hcnt : ∀ ow2 tp2, lay fl Wn (flw (okC tad (Wn / 4)) fl rfs 401 0 (rmb (okC tad (Wn / 4)) fl rfs own tad trm (Wn / 4) (Wn - Wn / 4) (mtN (okC tad (Wn / 4)) root 16 []))) (own, tpl) = some (ow2, tp2) → (flw (okC tad (Wn / 4)) fl rfs 401 0 (rmb (okC tad (Wn / 4)) fl rfs own tad trm (Wn / 4) (Wn - Wn / 4) (mtN (okC tad (Wn / 4)) root 16 []))).length ≤ cnt (fun k => (bgn ow2 tad k).isSome) (Wn / 4)) : mC l yX0_gatherYoung (wsY yX0_gatherYoung cX0_gatherYoung 3 (some .int)) { frames := 3, cells := 0, slots := 0, locals := 70 } (dC, dI) vwCl (tyL cI cZ cT) 0 0 w [.ref (q 5)] (fun v w2 => ∃ (mt3 : Nat → Option Nat) (ms3 : Nat) (wl3 od3 : Nat → Nat), LsC made (cur + 1) ms3 mt3 wl3 od3 (flw (okC tad (Wn / 4)) fl rfs 401 0 (rmb (okC tad (Wn / 4)) fl rfs own tad trm (Wn / 4) (Wn - Wn / 4) (mtN (okC tad (Wn / 4)) root 16 []))) ∧ ((v = some (.int (-4)) ∧ lay fl Wn (flw (okC tad (Wn / 4)) fl rfs 401 0 (rmb (okC tad (Wn / 4)) fl rfs own tad trm (Wn / 4) (Wn - Wn / 4) (mtN (okC tad (Wn / 4)) root 16 []))) (own, tpl) = none ∧ ∃ (n2 : Nat) (ow2 : Nat → Option Nat) (tp2 : Nat → Nat), n2 ≤ (flw (okC tad (Wn / 4)) fl rfs 401 0 (rmb (okC tad (Wn / 4)) fl rfs own tad trm (Wn / 4) (Wn - Wn / 4) (mtN (okC tad (Wn / 4)) root 16 []))).length ∧ lay fl Wn ((flw (okC tad (Wn / 4)) fl rfs 401 0 (rmb (okC tad (Wn / 4)) fl rfs own tad trm (Wn / 4) (Wn - Wn / 4) (mtN (okC tad (Wn / 4)) root 16 []))).take n2) (own, tpl) = some (ow2, tp2) ∧ CW cI cT q kp Wn made fl num rfs root ((gbO fl tp2 ow2 ((flw (okC tad (Wn / 4)) fl rfs 401 0 (rmb (okC tad (Wn / 4)) fl rfs own tad trm (Wn / 4) (Wn - Wn / 4) (mtN (okC tad (Wn / 4)) root 16 []))).take n2))) tad trm tp2 wl3 od3 mt3 ms3 ((cur + 1)) ((Wn / 4)) pnx pen st coll mins movd w2) ∨ ∃ (ow2 : Nat → Option Nat) (tp2 : Nat → Nat), lay fl Wn (flw (okC tad (Wn / 4)) fl rfs 401 0 (rmb (okC tad (Wn / 4)) fl rfs own tad trm (Wn / 4) (Wn - Wn / 4) (mtN (okC tad (Wn / 4)) root 16 []))) (own, tpl) = some (ow2, tp2) ∧ v = some (.int (nI (cnt (fun k => (bgn ow2 tad k).isSome) (Wn / 4) - (flw (okC tad (Wn / 4)) fl rfs 401 0 (rmb (okC tad (Wn / 4)) fl rfs own tad trm (Wn / 4) (Wn - Wn / 4) (mtN (okC tad (Wn / 4)) root 16 []))).length))) ∧ CW cI cT q kp Wn made fl num rfs root ((fillO ow2 0 (Wn / 4) none)) ((goT tp2 tad (flw (okC tad (Wn / 4)) fl rfs 401 0 (rmb (okC tad (Wn / 4)) fl rfs own tad trm (Wn / 4) (Wn - Wn / 4) (mtN (okC tad (Wn / 4)) root 16 []))))) ((fgt (fillO ow2 0 (Wn / 4) none) (goT tp2 tad (flw (okC tad (Wn / 4)) fl rfs 401 0 (rmb (okC tad (Wn / 4)) fl rfs own tad trm (Wn / 4) (Wn - Wn / 4) (mtN (okC tad (Wn / 4)) root 16 [])))) (Wn / 4) (Wn - Wn / 4) trm)) tp2 wl3 od3 mt3 ms3 ((cur + 1)) ((Wn / 4)) 0 ((Wn / 4)) st coll ((mins + 1)) ((movd + (flw (okC tad (Wn / 4)) fl rfs 401 0 (rmb (okC tad (Wn / 4)) fl rfs own tad trm (Wn / 4) (Wn - Wn / 4) (mtN (okC tad (Wn / 4)) root 16 []))).length)) w2)) := by
  refine mC.on (by decide) (Nat.le_of_ble_eq_true rfl) ?_
  intro p e s m args below meth c ls S hr hlk hnm hK hN hG hl
  have hl : lv_has ls 3 [(0, .ref (q 5))] := hl
  generalize hAe : mA w s.heap.size = A at hG ⊢
  refine lv_aload_n S.1 S.2.1 dX0_gatherYoung_0 rfl (lv_at hl 0 rfl) ?_
  refine cg_RX0_55 S hK hG hC hkp dX0_gatherYoung_1 ?_
  refine lv_aload_n S.1 S.2.1 dX0_gatherYoung_4 rfl (lv_at hl 0 rfl) ?_
  refine cg_RX0_15 S hK hG hC hkp dX0_gatherYoung_5 ?_
  refine mCV (As := [.int (nI (Wn / 4))]) (rest := []) S (k_begin hC (Wn / 4)) cal_X7_begin in_187 in_188 in_189 in_79 hK hN hG hC.obj7 rfl rfl rfl hl.1 (Nat.le_of_ble_eq_true rfl) ⟨by decide, by decide⟩ ⟨rfl, rfl⟩ ⟨by decide, by decide⟩ dX0_gatherYoung_8 (fun v w H locs hp hG => ?_)
  obtain ⟨rfl, hC⟩ := hp
  refine W.eq (g2 := F0 m 11 ls []) rfl ?_
  have hn1 : ∀ x ∈ mtN (okC tad (Wn / 4)) root 16 [], Kp x := mtN_all (fun x hx => absurd hx List.not_mem_nil) 16 (fun i hi t ht _ => hKr i hi t ht)
  refine lv_aload_n S.1 S.2.1 dX0_gatherYoung_11 rfl (lv_at hl 0 rfl) ?_
  refine cg_RX0_55 S hK hG hC hkp dX0_gatherYoung_12 ?_
  refine lv_aload_n S.1 S.2.1 dX0_gatherYoung_15 rfl (lv_at hl 0 rfl) ?_
  refine cg_RX0_65 S hK hG hC hkp dX0_gatherYoung_16 ?_
  refine mCV (As := [.ref (q 3)]) (rest := []) S (k_meetRoots hB hKm hKf hfl hC hW4 hcb (by omega) htb (LsC_nil hwb hmt) (fun x hx => absurd hx List.not_mem_nil) hKr) cal_X7_meetRoots in_191 in_192 in_193 in_79 hK hN hG hC.obj7 rfl rfl rfl hl.1 (Nat.le_of_ble_eq_true rfl) ⟨by decide, by decide⟩ ⟨rfl, rfl⟩ ⟨by decide, by decide⟩ dX0_gatherYoung_19 (fun v w H locs hp hG => ?_)
  obtain ⟨rfl, mt4, ms4, wl4, od4, hC, hLe⟩ := hp
  refine W.eq (g2 := F0 m 22 ls []) rfl ?_
  have hn2 : ∀ x ∈ rmb (okC tad (Wn / 4)) fl rfs own tad trm (Wn / 4) (Wn - Wn / 4) (mtN (okC tad (Wn / 4)) root 16 []), Kp x := rmb_all hn1 _ (fun k hk t ht i hi u hu _ => hKf t (hKo _ t (by omega) (bgn_own ht).1) i hi u hu)
  refine lv_aload_n S.1 S.2.1 dX0_gatherYoung_22 rfl (lv_at hl 0 rfl) ?_
  refine mCV (As := []) (rest := []) S (g_meetByRemembered hB hKm hKf hfl hC hkp hW4 hcb (by omega) htb hob hKo hLe hn1) cal_X0_meetByRemembered in_207 in_208 in_209 in_57 hK hN hG (hC.obj0 hkp) rfl rfl rfl hl.1 (Nat.le_of_ble_eq_true rfl) ⟨by decide, by decide⟩ ⟨rfl, rfl⟩ ⟨by decide, by decide⟩ dX0_gatherYoung_23 (fun v w H locs hp hG => ?_)
  obtain ⟨rfl, mt5, ms5, wl5, od5, hC, hLf⟩ := hp
  refine W.eq (g2 := F0 m 26 ls []) rfl ?_
  refine lv_aload_n S.1 S.2.1 dX0_gatherYoung_26 rfl (lv_at hl 0 rfl) ?_
  refine cg_RX0_55 S hK hG hC hkp dX0_gatherYoung_27 ?_
  refine mCV (As := []) (rest := []) S (k_follow hB hKm hKf hfl hC hW4 hcb (by omega) htb hLf hn2) cal_X7_follow in_235 in_236 in_237 in_79 hK hN hG hC.obj7 rfl rfl rfl hl.1 (Nat.le_of_ble_eq_true rfl) ⟨by decide, by decide⟩ ⟨rfl, rfl⟩ ⟨by decide, by decide⟩ dX0_gatherYoung_30 (fun v w H locs hp hG => ?_)
  obtain ⟨rfl, mt6, ms6, wl6, od6, hC, hLg⟩ := hp
  refine W.eq (g2 := F0 m 33 ls []) rfl ?_
  have hn3 : ∀ x ∈ flw (okC tad (Wn / 4)) fl rfs 401 0 (rmb (okC tad (Wn / 4)) fl rfs own tad trm (Wn / 4) (Wn - Wn / 4) (mtN (okC tad (Wn / 4)) root 16 [])), Kp x := flw_all (fun x hx i hi t ht _ => hKf x hx i hi t ht) 401 0 _ hn2
  have hlen := hB _ hLg.1 hn3
  have hmsz := hLg.2.1
  generalize hLL : flw (okC tad (Wn / 4)) fl rfs 401 0 (rmb (okC tad (Wn / 4)) fl rfs own tad trm (Wn / 4) (Wn - Wn / 4) (mtN (okC tad (Wn / 4)) root 16 [])) = L at hLg hn3 hlen hmsz hcnt ⊢
  refine lv_aload_n S.1 S.2.1 dX0_gatherYoung_33 rfl (lv_at hl 0 rfl) ?_
  refine mCV (As := []) (rest := []) S (g_reserve hC hkp hLg hlen hW4 hfl) cal_X0_reserve in_240 in_241 in_242 in_57 hK hN hG (hC.obj0 hkp) rfl rfl rfl hl.1 (Nat.le_of_ble_eq_true rfl) ⟨by decide, by decide⟩ ⟨rfl, rfl⟩ ⟨by decide, by decide⟩ dX0_gatherYoung_34 (fun v w H locs hp hG => ?_)
  obtain ⟨n2, ow2, tp2, rfl, hC, hn4, hLay, hnx⟩ := hp
  refine W.eq (g2 := F0 m 37 ls [.int (nI (n2))]) rfl ?_
  have hplc := lay_pl _ _ _ hLay
  have hxm : ∀ x ∈ L, x < made := fun x hx => hKm x (hn3 x hx)
  refine lv_istore_n (lv' := [(1, .int (nI (n2))), (0, .ref (q 5))]) S.1 S.2.1 dX0_gatherYoung_37 rfl hl (by decide) rfl (fun ls hl => ?_)
  refine lv_iload_n S.1 S.2.1 dX0_gatherYoung_38 rfl (lv_at hl 0 rfl) ?_
  refine lv_aload_n S.1 S.2.1 dX0_gatherYoung_39 rfl (lv_at hl 1 rfl) ?_
  refine cg_RX0_55 S hK hG hC hkp dX0_gatherYoung_40 ?_
  refine mCV (As := []) (rest := [.int (nI (n2))]) S (k_size hC) cal_X7_size in_245 in_246 in_247 in_79 hK hN hG hC.obj7 rfl rfl rfl hl.1 (Nat.le_of_ble_eq_true rfl) ⟨by decide, by decide⟩ ⟨rfl, rfl⟩ ⟨by decide, by decide⟩ dX0_gatherYoung_43 (fun v w H locs hp hG => ?_)
  obtain ⟨rfl, hw9⟩ := hp
  have hw9 := hw9.symm
  subst hw9
  refine W.eq (g2 := F0 m 46 ls [.int (nI (ms6)), .int (nI (n2))]) rfl ?_
  refine lv_icmp_ge (tgt := 57) S.1 S.2.1 dX0_gatherYoung_46 (by decide) (fun c1 => ?_) (fun c1 => ?_)
  · have c1 : ms6 ≤ n2 := (nI_leI (a := ms6) (b := n2) (by omega) (by omega)).mp c1
    have hn5 : n2 = L.length := by omega
    rw [hn5, take_all (Nat.le_refl _)] at hLay hplc
    have hcn := hcnt ow2 tp2 hLay
    have hob2 := lay_b L (own, tpl) (ow2, tp2) hxm hob hLay
    refine lv_aload_n S.1 S.2.1 dX0_gatherYoung_57 rfl (lv_at hl 1 rfl) ?_
    refine cg_RX0_88 S hK hG hC hkp dX0_gatherYoung_58 ?_
    refine lv_aload_n S.1 S.2.1 dX0_gatherYoung_61 rfl (lv_at hl 1 rfl) ?_
    refine cg_RX0_15 S hK hG hC hkp dX0_gatherYoung_62 ?_
    refine mCV (As := [.int (nI (Wn / 4))]) (rest := []) S (w_thingsBelow hC hob2 (by omega) htb (Wn / 4) (by omega)) cal_X8_thingsBelow in_267 in_268 in_269 in_18 hK hN hG hC.obj8 rfl rfl rfl hl.1 (Nat.le_of_ble_eq_true rfl) ⟨by decide, by decide⟩ ⟨rfl, rfl⟩ ⟨by decide, by decide⟩ dX0_gatherYoung_65 (fun v w H locs hp hG => ?_)
    obtain ⟨rfl, hw9⟩ := hp
    have hw9 := hw9.symm
    subst hw9
    refine W.eq (g2 := F0 m 68 ls [.int (nI (cnt (fun k => (bgn ow2 tad k).isSome) (Wn / 4)))]) rfl ?_
    refine lv_istore_n (lv' := [(2, .int (nI (cnt (fun k => (bgn ow2 tad k).isSome) (Wn / 4)))), (1, .int (nI (n2))), (0, .ref (q 5))]) S.1 S.2.1 dX0_gatherYoung_68 rfl hl (by decide) rfl (fun ls hl => ?_)
    refine lv_aload_n S.1 S.2.1 dX0_gatherYoung_69 rfl (lv_at hl 2 rfl) ?_
    refine cg_RX0_88 S hK hG hC hkp dX0_gatherYoung_70 ?_
    refine lv_iconst (v := nI (0)) S.1 S.2.1 dX0_gatherYoung_73 (by decide) ?_
    refine lv_aload_n S.1 S.2.1 dX0_gatherYoung_74 rfl (lv_at hl 2 rfl) ?_
    refine cg_RX0_15 S hK hG hC hkp dX0_gatherYoung_75 ?_
    refine lv_null S.1 S.2.1 dX0_gatherYoung_78 ?_
    refine mCV (As := [.int (nI (0)), .int (nI (Wn / 4)), .null]) (rest := []) S (w_fill hC (by omega) 0 (Wn / 4) (by omega) none (fun u hu => by cases hu)) cal_X8_fill in_258 in_259 in_260 in_18 hK hN hG hC.obj8 rfl rfl rfl hl.1 (Nat.le_of_ble_eq_true rfl) ⟨by decide, by decide⟩ ⟨rfl, rfl⟩ ⟨by decide, by decide⟩ dX0_gatherYoung_79 (fun v w H locs hp hG => ?_)
    obtain ⟨rfl, hC⟩ := hp
    refine W.eq (g2 := F0 m 82 ls []) rfl ?_
    refine lv_aload_n S.1 S.2.1 dX0_gatherYoung_82 rfl (lv_at hl 2 rfl) ?_
    refine mCV (As := []) (rest := []) S (g_goOver hC hkp hLg hlen hW4 hfl) cal_X0_goOver in_272 in_273 in_274 in_57 hK hN hG (hC.obj0 hkp) rfl rfl rfl hl.1 (Nat.le_of_ble_eq_true rfl) ⟨by decide, by decide⟩ ⟨rfl, rfl⟩ ⟨by decide, by decide⟩ dX0_gatherYoung_83 (fun v w H locs hp hG => ?_)
    obtain ⟨rfl, hC⟩ := hp
    refine W.eq (g2 := F0 m 86 ls []) rfl ?_
    have hob3 : ∀ k t, fillO ow2 0 (Wn / 4) none k = some t → t < made := fun k t ht => by
      unfold fillO at ht
      split at ht
      · cases ht
      · exact hob2 k t ht
    have htb3 : ∀ t, t < made → goT tp2 tad L t < 2147483648 := fun t ht => by
      rw [goT_at]
      split
      · have h9 : tp2 t + fl t < Wn := (hplc.2 t (by assumption)).2
        omega
      · exact htb t ht
    refine lv_aload_n S.1 S.2.1 dX0_gatherYoung_86 rfl (lv_at hl 2 rfl) ?_
    refine mCV (As := []) (rest := []) S (g_forget hC hkp hW4 hob3 htb3) cal_X0_forget in_279 in_280 in_281 in_57 hK hN hG (hC.obj0 hkp) rfl rfl rfl hl.1 (Nat.le_of_ble_eq_true rfl) ⟨by decide, by decide⟩ ⟨rfl, rfl⟩ ⟨by decide, by decide⟩ dX0_gatherYoung_87 (fun v w H locs hp hG => ?_)
    obtain ⟨rfl, hC⟩ := hp
    refine W.eq (g2 := F0 m 90 ls []) rfl ?_
    refine lv_aload_n S.1 S.2.1 dX0_gatherYoung_90 rfl (lv_at hl 2 rfl) ?_
    refine cg_RX0_26 S hK hG hC hkp dX0_gatherYoung_91 ?_
    refine lv_iconst (v := nI (0)) S.1 S.2.1 dX0_gatherYoung_94 (by decide) ?_
    refine lv_aload_n S.1 S.2.1 dX0_gatherYoung_95 rfl (lv_at hl 2 rfl) ?_
    refine cg_RX0_15 S hK hG hC hkp dX0_gatherYoung_96 ?_
    refine mCV (As := [.int (nI (0)), .int (nI (Wn / 4))]) (rest := []) S (p_restart hC (by omega) 0 (Wn / 4)) cal_X3_restart in_283 in_284 in_285 in_67 hK hN hG (hC.obj3 (by omega)) rfl rfl rfl hl.1 (Nat.le_of_ble_eq_true rfl) ⟨by decide, by decide⟩ ⟨rfl, rfl⟩ ⟨by decide, by decide⟩ dX0_gatherYoung_99 (fun v w H locs hp hG => ?_)
    obtain ⟨rfl, hC⟩ := hp
    rw [Nat.zero_add] at hC
    refine W.eq (g2 := F0 m 102 ls []) rfl ?_
    refine lv_aload_n S.1 S.2.1 dX0_gatherYoung_102 rfl (lv_at hl 2 rfl) ?_
    refine lv_dup S.1 S.2.1 dX0_gatherYoung_103 rfl ?_
    refine cg_RX0_108 S hK hG hC hkp dX0_gatherYoung_104 ?_
    refine lv_iconst (v := nI (1)) S.1 S.2.1 dX0_gatherYoung_107 (by decide) ?_
    refine lv_iadd S.1 S.2.1 dX0_gatherYoung_108 ?_
    refine lv_eqi (nI_add _ _) ?_
    refine cp_RX0_108 S hK hG hC hkp (mins + 1) dX0_gatherYoung_109 (fun w H locs hC hG => ?_)
    refine lv_iload_n S.1 S.2.1 dX0_gatherYoung_112 rfl (lv_at hl 0 rfl) ?_
    refine lv_iload_n S.1 S.2.1 dX0_gatherYoung_113 rfl (lv_at hl 1 rfl) ?_
    refine lv_isub S.1 S.2.1 dX0_gatherYoung_114 ?_
    refine lv_eqi (pk_sub (by omega)) ?_
    exact mw_iret S hr hlk hK hG dX0_gatherYoung_115 ⟨mt6, ms6, wl6, od6, hLg, Or.inr ⟨ow2, tp2, hLay, by rw [hn5], hC⟩⟩
  · have c1 : ¬ (ms6 ≤ n2) := fun h9 => c1 ((nI_leI (a := ms6) (b := n2) (by omega) (by omega)).mpr h9)
    refine lv_aload_n S.1 S.2.1 dX0_gatherYoung_49 rfl (lv_at hl 1 rfl) ?_
    refine lv_iload_n S.1 S.2.1 dX0_gatherYoung_50 rfl (lv_at hl 0 rfl) ?_
    refine mCV (As := [.int (nI (n2))]) (rest := []) S (g_giveBack hC hkp hLg hlen hW4 hfl n2 hn4 (fun x hx => (hplc.2 x hx).2)) cal_X0_giveBack in_263 in_264 in_265 in_57 hK hN hG (hC.obj0 hkp) rfl rfl rfl hl.1 (Nat.le_of_ble_eq_true rfl) ⟨by decide, by decide⟩ ⟨rfl, rfl⟩ ⟨by decide, by decide⟩ dX0_gatherYoung_51 (fun v w H locs hp hG => ?_)
    obtain ⟨rfl, hC⟩ := hp
    refine W.eq (g2 := F0 m 54 ls []) rfl ?_
    refine lv_bipush (v := -4) S.1 S.2.1 dX0_gatherYoung_54 (by decide) ?_
    exact mw_iret S hr hlk hK hG dX0_gatherYoung_56 ⟨mt6, ms6, wl6, od6, hLg, Or.inl ⟨rfl, lay_none (hnx (by omega)), n2, ow2, tp2, hn4, hLay, hC⟩⟩
