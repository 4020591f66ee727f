theorem plC_b {made : Nat} {fl : Nat → Nat} : ∀ (L : List Nat) (s : Nat × (Nat → Nat) × (Nat → Option Nat)), (∀ x ∈ L, x < made) → (∀ k t, s.2.2 k = some t → t < made) → ∀ k t, (L.foldl (plC fl) s).2.2 k = some t → t < made
  | [], _, _, h => h
  | x :: l, s, hx, h => by
    refine plC_b l (plC fl s x) (fun y hy => hx y (List.mem_cons_of_mem _ hy)) ?_
    intro k t ht
    change fillO s.2.2 s.1 (fl x + 1) (some x) k = some t at ht
    unfold fillO at ht
    split at ht
    · cases ht; exact hx x List.mem_cons_self
    · exact h k t ht
theorem fillN_b {made a n : Nat} {own : Nat → Option Nat} (h : ∀ k t, own k = some t → t < made) : ∀ k t, fillO own a n none k = some t → t < made := fun k t ht => by
  unfold fillO at ht
  split at ht
  · cases ht
  · exact h k t ht
set_option maxHeartbeats 4000000 in
set_option maxRecDepth 100000 in
theorem h_make1 {l : Launch} {dC : Nat → ClassId} {dI : Nat → Nat → Nat} {cI cZ cT : ClassId} {q : Nat → Nat} {kp : Nat} {Wn : Nat} {made : Nat} {fl : (Nat → Nat)} {num : (Nat → Nat → Int32)} {rfs : (Nat → Nat → Option Nat)} {root : (Nat → Option Nat)} {own : (Nat → Option Nat)} {tad : (Nat → Nat)} {trm : (Nat → Bool)} {tpl : (Nat → Nat)} {wlk : (Nat → Nat)} {ord : (Nat → Nat)} {met : (Nat → Option Nat)} {msz : Nat} {cur : Nat} {mend : Nat} {pnx : Nat} {pen : Nat} {st : Nat} {coll : Nat} {mins : Nat} {movd : Nat} {Kp : Nat → Prop} (hB : ∀ M : List Nat, M.Nodup → (∀ x ∈ M, Kp x) → M.length ≤ Wn) (hKm : ∀ x, Kp x → x < made) (hKf : ∀ x, Kp x → ∀ i, i < fl x → ∀ t, rfs x i = some t → Kp t) (hfl : ∀ x, x < made → fl x ≤ 6) {w : mM} (hC : CW cI cT q kp Wn made fl num rfs root own tad trm tpl wlk ord met msz cur mend pnx pen st coll mins movd w) (hmd : made ≤ 2000) (hkp : kp = 1) (hW4 : Wn ≤ 400) (hob : ∀ k t, own k = some t → t < made) (hrb : ∀ j, j < 16 → ∀ o, root j = some o → o < made) (hmt : ∀ k t, met k = some t → t < made) (hfb : ∀ k, k < made → ∀ j t, rfs k j = some t → t < made) (hcb : cur + 1 < 2147483648) (htb : ∀ t, t < made → tad t < 2147483648) (hwb : ∀ o, o < made → wlk o ≤ cur) (hKr : ∀ i, i < 16 → ∀ t, root i = some t → Kp t) (hst : st < 1000) (hpn : pnx ≤ pen) (hpe : pen ≤ Wn) (hcap : szL fl 0 (flw (okC tad Wn) fl rfs 401 0 (mtN (okC tad Wn) root 16 [])) ≤ Wn / 2) (x y : Int32) : mC l yX9_make (wsY yX9_make cX9_make 5 (some .int)) { frames := 6, cells := 3, slots := 20, locals := 135 } (dC, dI) vwCl (tyL cI cZ cT) 3 20 w [.ref (q 0), .int (x), .int (y)] (fun v w2 => ((inR 16 x = false ∨ inR 7 y = false) ∧ v = some (.int (-2)) ∧ CW cI cT q kp Wn made fl num rfs root own tad trm tpl wlk ord met msz cur mend pnx pen st coll mins movd w2) ∨ ((inR 16 x = true ∧ inR 7 y = true) ∧ 2000 ≤ made ∧ v = some (.int (-4)) ∧ CW cI cT q kp Wn made fl num rfs root own tad trm tpl wlk ord met msz cur mend pnx pen st coll mins movd w2) ∨ ∃ (j n : Nat), j < 16 ∧ n ≤ 6 ∧ x = nI j ∧ y = nI n ∧ made < 2000 ∧ ((pnx + (n + 1) ≤ pen ∧ v = some (.int (nI made)) ∧ ∃ (b a1 a2 : Nat), CW cI cT (extq q made b a1 a2) kp Wn ((made + 1)) ((va_up fl made n)) ((ext0 num made 0)) ((ext0 rfs made none)) ((va_up root j (some made))) ((fillO own pnx (n + 1) (some made))) ((va_up (va_up tad made 0) made pnx)) ((va_up trm made false)) ((va_up tpl made 0)) ((va_up wlk made 0)) ((va_up ord made 0)) met msz cur mend ((pnx + (n + 1))) pen st coll mins movd w2) ∨ (¬ pnx + (n + 1) ≤ pen ∧ ∃ (mt3 : Nat → Option Nat) (ms3 : Nat) (wl3 od3 : Nat → Nat), LsC made (cur + 1) ms3 mt3 wl3 od3 (flw (okC tad Wn) fl rfs 401 0 (mtN (okC tad Wn) root 16 [])) ∧ ((((flw (okC tad Wn) fl rfs 401 0 (mtN (okC tad Wn) root 16 [])).foldl (plC fl) ((if st = 0 then Wn / 2 else 0), tad, fillO own 0 Wn none)).1 + (n + 1) ≤ ((if st = 0 then Wn / 2 else 0) + Wn / 2) ∧ v = some (.int (nI made)) ∧ ∃ (b a1 a2 : Nat), CW cI cT (extq q made b a1 a2) kp Wn ((made + 1)) ((va_up fl made n)) ((ext0 num made 0)) ((ext0 rfs made none)) ((va_up root j (some made))) ((fillO (((flw (okC tad Wn) fl rfs 401 0 (mtN (okC tad Wn) root 16 [])).foldl (plC fl) ((if st = 0 then Wn / 2 else 0), tad, fillO own 0 Wn none)).2.2) ((flw (okC tad Wn) fl rfs 401 0 (mtN (okC tad Wn) root 16 [])).foldl (plC fl) ((if st = 0 then Wn / 2 else 0), tad, fillO own 0 Wn none)).1 (n + 1) (some made))) ((va_up (va_up (((flw (okC tad Wn) fl rfs 401 0 (mtN (okC tad Wn) root 16 [])).foldl (plC fl) ((if st = 0 then Wn / 2 else 0), tad, fillO own 0 Wn none)).2.1) made 0) made ((flw (okC tad Wn) fl rfs 401 0 (mtN (okC tad Wn) root 16 [])).foldl (plC fl) ((if st = 0 then Wn / 2 else 0), tad, fillO own 0 Wn none)).1)) ((va_up trm made false)) ((va_up tpl made 0)) ((va_up wl3 made 0)) ((va_up od3 made 0)) mt3 ms3 ((cur + 1)) Wn ((((flw (okC tad Wn) fl rfs 401 0 (mtN (okC tad Wn) root 16 [])).foldl (plC fl) ((if st = 0 then Wn / 2 else 0), tad, fillO own 0 Wn none)).1 + (n + 1))) (((if st = 0 then Wn / 2 else 0) + Wn / 2)) ((if st = 0 then Wn / 2 else 0)) ((coll + 1)) mins ((movd + (flw (okC tad Wn) fl rfs 401 0 (mtN (okC tad Wn) root 16 [])).length)) w2) ∨ (¬ ((flw (okC tad Wn) fl rfs 401 0 (mtN (okC tad Wn) root 16 [])).foldl (plC fl) ((if st = 0 then Wn / 2 else 0), tad, fillO own 0 Wn none)).1 + (n + 1) ≤ ((if st = 0 then Wn / 2 else 0) + Wn / 2) ∧ v = some (.int (-4)) ∧ CW cI cT q kp Wn made fl num rfs root (((flw (okC tad Wn) fl rfs 401 0 (mtN (okC tad Wn) root 16 [])).foldl (plC fl) ((if st = 0 then Wn / 2 else 0), tad, fillO own 0 Wn none)).2.2) (((flw (okC tad Wn) fl rfs 401 0 (mtN (okC tad Wn) root 16 [])).foldl (plC fl) ((if st = 0 then Wn / 2 else 0), tad, fillO own 0 Wn none)).2.1) trm tpl wl3 od3 mt3 ms3 ((cur + 1)) Wn (((flw (okC tad Wn) fl rfs 401 0 (mtN (okC tad Wn) root 16 [])).foldl (plC fl) ((if st = 0 then Wn / 2 else 0), tad, fillO own 0 Wn none)).1) (((if st = 0 then Wn / 2 else 0) + Wn / 2)) ((if st = 0 then Wn / 2 else 0)) ((coll + 1)) mins ((movd + (flw (okC tad Wn) fl rfs 401 0 (mtN (okC tad Wn) root 16 [])).length)) w2))))) := by
  refine mC.on (by decide) (Nat.le_of_ble_eq_true rfl) ?_
  intro p e s m args below meth c ls S hr hlk hnm hK hN hG hl
  have hl : lv_has ls 5 [(0, .ref (q 0)), (1, .int (x)), (2, .int (y))] := hl
  generalize hAe : mA w s.heap.size = A at hG ⊢
  refine lv_aload_n S.1 S.2.1 dX9_make_0 rfl (lv_at hl 0 rfl) ?_
  refine cg_RX9_25 S hK hG hC dX9_make_1 ?_
  refine lv_iload_n S.1 S.2.1 dX9_make_4 rfl (lv_at hl 1 rfl) ?_
  refine mCV (As := [.int (x)]) (rest := []) S (o_has hC x) cal_X4_has in_144 in_145 in_146 in_21 hK hN hG hC.obj4 rfl rfl rfl hl.1 (Nat.le_of_ble_eq_true rfl) ⟨by decide, by decide⟩ ⟨rfl, rfl⟩ ⟨by decide, by decide⟩ dX9_make_5 (fun v w H locs hp hG => ?_)
  obtain ⟨rfl, hw9⟩ := hp
  have hw9 := hw9.symm
  subst hw9
  refine W.eq (g2 := F0 m 8 ls [.int (bI (inR 16 x))]) rfl ?_
  refine lv_if_eq (tgt := 21) S.1 S.2.1 dX9_make_8 (by decide) (fun c1 => ?_) (fun c1 => ?_)
  · refine lv_bipush (v := -2) S.1 S.2.1 dX9_make_21 (by decide) ?_
    refine W.widen (k := 3) (n := 20) (by decide) (by decide) ?_
    exact mw_iret S hr hlk hK hG dX9_make_23 (Or.inl ⟨Or.inl (bI_f c1), rfl, hC⟩)
  · obtain ⟨j, hj, rfl⟩ := inR_ex (by decide) (bI_t c1)
    refine lv_iload_n S.1 S.2.1 dX9_make_11 rfl (lv_at hl 2 rfl) ?_
    refine lv_if_lt (tgt := 21) S.1 S.2.1 dX9_make_12 (by decide) (fun c2 => ?_) (fun c2 => ?_)
    · refine lv_bipush (v := -2) S.1 S.2.1 dX9_make_21 (by decide) ?_
      refine W.widen (k := 3) (n := 20) (by decide) (by decide) ?_
      exact mw_iret S hr hlk hK hG dX9_make_23 (Or.inl ⟨Or.inr (inR_lo c2), rfl, hC⟩)
    · refine lv_iload_n S.1 S.2.1 dX9_make_15 rfl (lv_at hl 2 rfl) ?_
      refine lv_bipush (v := nI (6)) S.1 S.2.1 dX9_make_16 (by decide) ?_
      refine lv_icmp_le (tgt := 24) S.1 S.2.1 dX9_make_18 (by decide) (fun c3 => ?_) (fun c3 => ?_)
      · obtain ⟨n, hn7, rfl⟩ := inR_ex (n := 7) (by decide) (inR_t2 (h := 6) (by decide) c2 (Int32.not_lt.mpr c3))
        refine lv_aload_n S.1 S.2.1 dX9_make_24 rfl (lv_at hl 0 rfl) ?_
        refine cg_RX9_37 S hK hG hC dX9_make_25 ?_
        refine lv_sipush (v := nI (2000)) S.1 S.2.1 dX9_make_28 (by decide) ?_
        refine lv_icmp_lt (tgt := 37) S.1 S.2.1 dX9_make_31 (by decide) (fun c4 => ?_) (fun c4 => ?_)
        · have c4 : made < 2000 := (nI_ltI (a := made) (b := 2000) (by omega) (by omega)).mp c4
          refine lv_aload_n S.1 S.2.1 dX9_make_37 rfl (lv_at hl 0 rfl) ?_
          refine cg_RX9_33 S hK hG hC dX9_make_38 ?_
          refine lv_iload_n S.1 S.2.1 dX9_make_41 rfl (lv_at hl 2 rfl) ?_
          refine lv_iconst (v := nI (1)) S.1 S.2.1 dX9_make_42 (by decide) ?_
          refine lv_iadd S.1 S.2.1 dX9_make_43 ?_
          refine lv_eqi (nI_add _ _) ?_
          refine mCU (As := [.int (nI (n + 1))]) (rest := []) S (y_take hC hkp (n + 1) (by omega) (by omega) (by omega)) (va_cwA (owner := "KeptHeap$Keeper") (x := ⟨"KeptHeap$Keeper", "take", "(I)I"⟩) 1 S.2.2.2.2 (mGU (own := RX9) (index := 45) (x := ⟨"KeptHeap$Keeper", "take", "(I)I"⟩) (owner := "KeptHeap$Keeper") in_159 in_148 in_149 in_157 in_158 in_54) rfl rfl rfl hN.2.1 (by decide +kernel) ⟨by decide, by decide⟩) hK hN hG (hC.obj1 hkp) rfl rfl rfl hl.1 (Nat.le_of_ble_eq_true rfl) ⟨by decide, by decide⟩ dX9_make_44 (fun v w H locs hp hG => ?_)
          obtain ⟨rfl, hC⟩ := hp
          refine W.eq (g2 := F0 m 47 ls [.int (oI (if pnx + (n + 1) ≤ pen then some pnx else none))]) rfl ?_
          by_cases hf1 : pnx + (n + 1) ≤ pen
          · rw [if_pos hf1] at hC
            rw [if_pos hf1]
            refine W.eq (g2 := F0 m 47 ls [.int (nI (pnx))]) rfl ?_
            refine lv_istore_n (lv' := [(3, .int (nI (pnx))), (0, .ref (q 0)), (1, .int (nI (j))), (2, .int (nI (n)))]) S.1 S.2.1 dX9_make_47 rfl hl (by decide) rfl (fun ls hl => ?_)
            refine lv_iload_n S.1 S.2.1 dX9_make_48 rfl (lv_at hl 0 rfl) ?_
            refine lv_iconst (v := -1) S.1 S.2.1 dX9_make_49 (by decide) ?_
            refine lv_icmp_ne (tgt := 74) S.1 S.2.1 dX9_make_50 (by decide) (fun c5 => ?_) (fun c5 => ?_)
            · refine lv_iload_n S.1 S.2.1 dX9_make_74 rfl (lv_at hl 0 rfl) ?_
              refine lv_iconst (v := -1) S.1 S.2.1 dX9_make_75 (by decide) ?_
              refine lv_icmp_ne (tgt := 82) S.1 S.2.1 dX9_make_76 (by decide) (fun c6 => ?_) (fun c6 => ?_)
              · refine make_tail S hr hlk hK hN hG hC hW4 hob hrb hmt hfb j n (pnx) hj (by omega) (by omega) (lv_sub hl [0, 1, 2, 3] rfl) (fun b a1 a2 w2 hC2 => Or.inr (Or.inr ⟨j, n, hj, by omega, rfl, rfl, c4, Or.inl ⟨hf1, rfl, b, a1, a2, hC2⟩⟩))
              · exact absurd c6 (nI_m1 (by omega))
            · exact absurd c5 (nI_m1 (by omega))
          · rw [if_neg hf1] at hC
            rw [if_neg hf1]
            refine W.eq (g2 := F0 m 47 ls [.int (-1)]) rfl ?_
            refine lv_istore_n (lv' := [(3, .int (-1)), (0, .ref (q 0)), (1, .int (nI (j))), (2, .int (nI (n)))]) S.1 S.2.1 dX9_make_47 rfl hl (by decide) rfl (fun ls hl => ?_)
            refine lv_iload_n S.1 S.2.1 dX9_make_48 rfl (lv_at hl 0 rfl) ?_
            refine lv_iconst (v := -1) S.1 S.2.1 dX9_make_49 (by decide) ?_
            refine lv_icmp_ne (tgt := 74) S.1 S.2.1 dX9_make_50 (by decide) (fun c5 => ?_) (fun c5 => ?_)
            · exact absurd rfl c5
            · refine lv_aload_n S.1 S.2.1 dX9_make_53 rfl (lv_at hl 1 rfl) ?_
              refine cg_RX9_33 S hK hG hC dX9_make_54 ?_
              refine lv_iload_n S.1 S.2.1 dX9_make_57 rfl (lv_at hl 3 rfl) ?_
              refine lv_iconst (v := nI (1)) S.1 S.2.1 dX9_make_58 (by decide) ?_
              refine lv_iadd S.1 S.2.1 dX9_make_59 ?_
              refine lv_eqi (nI_add _ _) ?_
              refine mCU (As := [.int (nI (n + 1))]) (rest := []) S (y_clearRoomFor hB hKm hKf hfl hC hkp hst hW4 hcb htb hwb hmt hKr hob hcap (n + 1)) (va_cwA (owner := "KeptHeap$Keeper") (x := ⟨"KeptHeap$Keeper", "clearRoomFor", "(I)V"⟩) 1 S.2.2.2.2 (mGU (own := RX9) (index := 50) (x := ⟨"KeptHeap$Keeper", "clearRoomFor", "(I)V"⟩) (owner := "KeptHeap$Keeper") in_315 in_170 in_171 in_313 in_314 in_54) rfl rfl rfl hN.2.2.1 (by decide +kernel) ⟨by decide, by decide⟩) hK hN hG (hC.obj1 hkp) rfl rfl rfl hl.1 (Nat.le_of_ble_eq_true rfl) ⟨by decide, by decide⟩ dX9_make_60 (fun v w H locs hp hG => ?_)
              obtain ⟨rfl, mt3, ms3, wl3, od3, hC, hLf⟩ := hp
              refine W.eq (g2 := F0 m 63 ls []) rfl ?_
              have hp1 := plC_1 fl (flw (okC tad Wn) fl rfs 401 0 (mtN (okC tad Wn) root 16 [])) ((if st = 0 then Wn / 2 else 0), tad, fillO own 0 Wn none)
              dsimp only at hp1
              have hz1 := szL_add fl (flw (okC tad Wn) fl rfs 401 0 (mtN (okC tad Wn) root 16 [])) (if st = 0 then Wn / 2 else 0)
              have hs3 : (if st = 0 then Wn / 2 else 0) ≤ Wn / 2 := by split <;> omega
              refine lv_aload_n S.1 S.2.1 dX9_make_63 rfl (lv_at hl 1 rfl) ?_
              refine cg_RX9_33 S hK hG hC dX9_make_64 ?_
              refine lv_iload_n S.1 S.2.1 dX9_make_67 rfl (lv_at hl 3 rfl) ?_
              refine lv_iconst (v := nI (1)) S.1 S.2.1 dX9_make_68 (by decide) ?_
              refine lv_iadd S.1 S.2.1 dX9_make_69 ?_
              refine lv_eqi (nI_add _ _) ?_
              refine mCU (As := [.int (nI (n + 1))]) (rest := []) S (y_take hC hkp (n + 1) (by omega) (by omega) (by omega)) (va_cwA (owner := "KeptHeap$Keeper") (x := ⟨"KeptHeap$Keeper", "take", "(I)I"⟩) 1 S.2.2.2.2 (mGU (own := RX9) (index := 45) (x := ⟨"KeptHeap$Keeper", "take", "(I)I"⟩) (owner := "KeptHeap$Keeper") in_159 in_148 in_149 in_157 in_158 in_54) rfl rfl rfl hN.2.1 (by decide +kernel) ⟨by decide, by decide⟩) hK hN hG (hC.obj1 hkp) rfl rfl rfl hl.1 (Nat.le_of_ble_eq_true rfl) ⟨by decide, by decide⟩ dX9_make_70 (fun v w H locs hp hG => ?_)
              obtain ⟨rfl, hC⟩ := hp
              refine W.eq (g2 := F0 m 73 ls [.int (oI (if ((flw (okC tad Wn) fl rfs 401 0 (mtN (okC tad Wn) root 16 [])).foldl (plC fl) ((if st = 0 then Wn / 2 else 0), tad, fillO own 0 Wn none)).1 + (n + 1) ≤ ((if st = 0 then Wn / 2 else 0) + Wn / 2) then some ((flw (okC tad Wn) fl rfs 401 0 (mtN (okC tad Wn) root 16 [])).foldl (plC fl) ((if st = 0 then Wn / 2 else 0), tad, fillO own 0 Wn none)).1 else none))]) rfl ?_
              by_cases hf2 : ((flw (okC tad Wn) fl rfs 401 0 (mtN (okC tad Wn) root 16 [])).foldl (plC fl) ((if st = 0 then Wn / 2 else 0), tad, fillO own 0 Wn none)).1 + (n + 1) ≤ ((if st = 0 then Wn / 2 else 0) + Wn / 2)
              · rw [if_pos hf2] at hC
                rw [if_pos hf2]
                refine W.eq (g2 := F0 m 73 ls [.int (nI (((flw (okC tad Wn) fl rfs 401 0 (mtN (okC tad Wn) root 16 [])).foldl (plC fl) ((if st = 0 then Wn / 2 else 0), tad, fillO own 0 Wn none)).1))]) rfl ?_
                refine lv_istore_n (lv' := [(3, .int (nI (((flw (okC tad Wn) fl rfs 401 0 (mtN (okC tad Wn) root 16 [])).foldl (plC fl) ((if st = 0 then Wn / 2 else 0), tad, fillO own 0 Wn none)).1))), (0, .ref (q 0)), (1, .int (nI (j))), (2, .int (nI (n)))]) S.1 S.2.1 dX9_make_73 rfl hl (by decide) rfl (fun ls hl => ?_)
                refine lv_iload_n S.1 S.2.1 dX9_make_74 rfl (lv_at hl 0 rfl) ?_
                refine lv_iconst (v := -1) S.1 S.2.1 dX9_make_75 (by decide) ?_
                refine lv_icmp_ne (tgt := 82) S.1 S.2.1 dX9_make_76 (by decide) (fun c6 => ?_) (fun c6 => ?_)
                · refine make_tail S hr hlk hK hN hG hC hW4 (plC_b _ _ hLf.2.2.2.2.2.1 (fillN_b hob)) hrb hLf.hm hfb j n (((flw (okC tad Wn) fl rfs 401 0 (mtN (okC tad Wn) root 16 [])).foldl (plC fl) ((if st = 0 then Wn / 2 else 0), tad, fillO own 0 Wn none)).1) hj (by omega) (by omega) (lv_sub hl [0, 1, 2, 3] rfl) (fun b a1 a2 w2 hC2 => Or.inr (Or.inr ⟨j, n, hj, by omega, rfl, rfl, c4, Or.inr ⟨hf1, mt3, ms3, wl3, od3, hLf, Or.inl ⟨hf2, rfl, b, a1, a2, hC2⟩⟩⟩))
                · exact absurd c6 (nI_m1 (by omega))
              · rw [if_neg hf2] at hC
                rw [if_neg hf2]
                refine W.eq (g2 := F0 m 73 ls [.int (-1)]) rfl ?_
                refine lv_istore_n (lv' := [(3, .int (-1)), (0, .ref (q 0)), (1, .int (nI (j))), (2, .int (nI (n)))]) S.1 S.2.1 dX9_make_73 rfl hl (by decide) rfl (fun ls hl => ?_)
                refine lv_iload_n S.1 S.2.1 dX9_make_74 rfl (lv_at hl 0 rfl) ?_
                refine lv_iconst (v := -1) S.1 S.2.1 dX9_make_75 (by decide) ?_
                refine lv_icmp_ne (tgt := 82) S.1 S.2.1 dX9_make_76 (by decide) (fun c6 => ?_) (fun c6 => ?_)
                · exact absurd rfl c6
                · refine lv_bipush (v := -4) S.1 S.2.1 dX9_make_79 (by decide) ?_
                  refine W.widen (k := 3) (n := 20) (by decide) (by decide) ?_
                  exact mw_iret S hr hlk hK hG dX9_make_81 (Or.inr (Or.inr ⟨j, n, hj, by omega, rfl, rfl, c4, Or.inr ⟨hf1, mt3, ms3, wl3, od3, hLf, Or.inr ⟨hf2, rfl, hC⟩⟩⟩))
        · have c4 : ¬ (made < 2000) := fun h9 => c4 ((nI_ltI (a := made) (b := 2000) (by omega) (by omega)).mpr h9)
          refine lv_bipush (v := -4) S.1 S.2.1 dX9_make_34 (by decide) ?_
          refine W.widen (k := 3) (n := 20) (by decide) (by decide) ?_
          exact mw_iret S hr hlk hK hG dX9_make_36 (Or.inr (Or.inl ⟨⟨inR_nI hj (by decide), inR_nI hn7 (by decide)⟩, by omega, rfl, hC⟩))
      · refine lv_bipush (v := -2) S.1 S.2.1 dX9_make_21 (by decide) ?_
        refine W.widen (k := 3) (n := 20) (by decide) (by decide) ?_
        exact mw_iret S hr hlk hK hG dX9_make_23 (Or.inl ⟨Or.inr (inR_hi2 (h := 6) (by decide) (Int32.not_le.mp c3)), rfl, hC⟩)
set_option maxHeartbeats 4000000 in
set_option maxRecDepth 100000 in
theorem h_make2 {l : Launch} {dC : Nat → ClassId} {dI : Nat → Nat → Nat} {cI cZ cT : ClassId} {q : Nat → Nat} {kp : Nat} {Wn : Nat} {made : Nat} {fl : (Nat → Nat)} {num : (Nat → Nat → Int32)} {rfs : (Nat → Nat → Option Nat)} {root : (Nat → Option Nat)} {own : (Nat → Option Nat)} {tad : (Nat → Nat)} {trm : (Nat → Bool)} {tpl : (Nat → Nat)} {wlk : (Nat → Nat)} {ord : (Nat → Nat)} {met : (Nat → Option Nat)} {msz : Nat} {cur : Nat} {mend : Nat} {pnx : Nat} {pen : Nat} {st : Nat} {coll : Nat} {mins : Nat} {movd : Nat} {Kp : Nat → Prop} (hB : ∀ M : List Nat, M.Nodup → (∀ x ∈ M, Kp x) → M.length ≤ Wn) (hKm : ∀ x, Kp x → x < made) (hKf : ∀ x, Kp x → ∀ i, i < fl x → ∀ t, rfs x i = some t → Kp t) (hfl : ∀ x, x < made → fl x ≤ 6) {w : mM} (hC : CW cI cT q kp Wn made fl num rfs root own tad trm tpl wlk ord met msz cur mend pnx pen st coll mins movd w) (hmd : made ≤ 2000) (hkp : kp = 2) (hW4 : Wn ≤ 400) (hob : ∀ k t, own k = some t → t < made) (hrb : ∀ j, j < 16 → ∀ o, root j = some o → o < made) (hmt : ∀ k t, met k = some t → t < made) (hfb : ∀ k, k < made → ∀ j t, rfs k j = some t → t < made) (hcb : cur + 3 < 2147483648) (htb : ∀ t, t < made → tad t < 2147483648) (hwb : ∀ o, o < made → wlk o ≤ cur) (hKr : ∀ i, i < 16 → ∀ t, root i = some t → Kp t) (hKo : ∀ k t, Wn / 4 ≤ k → own k = some t → Kp t) (hLy : LyC made Wn fl tad own) (hcnt1 : ∀ ow2 tp2, lay fl Wn (flw (okC tad (Wn / 4)) fl rfs 401 0 (rmb (okC tad (Wn / 4)) fl rfs own tad trm (Wn / 4) (Wn - Wn / 4) (mtN (okC tad (Wn / 4)) root 16 []))) (own, tpl) = some (ow2, tp2) → (flw (okC tad (Wn / 4)) fl rfs 401 0 (rmb (okC tad (Wn / 4)) fl rfs own tad trm (Wn / 4) (Wn - Wn / 4) (mtN (okC tad (Wn / 4)) root 16 []))).length ≤ cnt (fun k => (bgn ow2 tad k).isSome) (Wn / 4)) (hcnt : ∀ tp0 ow2 tp2, lay fl Wn (flw (okC tad (Wn / 4)) fl rfs 401 0 (rmb (okC tad (Wn / 4)) fl rfs (swO (dd (Wn / 4) Wn tad (ntL (flw (okC tad Wn) fl rfs 401 0 (mtN (okC tad Wn) root 16 [])))) own) tad trm (Wn / 4) (Wn - Wn / 4) (mtN (okC tad (Wn / 4)) root 16 []))) ((swO (dd (Wn / 4) Wn tad (ntL (flw (okC tad Wn) fl rfs 401 0 (mtN (okC tad Wn) root 16 [])))) own), tp0) = some (ow2, tp2) → (flw (okC tad (Wn / 4)) fl rfs 401 0 (rmb (okC tad (Wn / 4)) fl rfs (swO (dd (Wn / 4) Wn tad (ntL (flw (okC tad Wn) fl rfs 401 0 (mtN (okC tad Wn) root 16 [])))) own) tad trm (Wn / 4) (Wn - Wn / 4) (mtN (okC tad (Wn / 4)) root 16 []))).length ≤ cnt (fun k => (bgn ow2 tad k).isSome) (Wn / 4)) (hpn : pnx ≤ pen) (hpe : pen = Wn / 4) (x y : Int32) : mC l yX9_make (wsY yX9_make cX9_make 5 (some .int)) { frames := 6, cells := 3, slots := 20, locals := 135 } (dC, dI) vwCl (tyL cI cZ cT) 3 20 w [.ref (q 0), .int (x), .int (y)] (fun v w2 => ((inR 16 x = false ∨ inR 7 y = false) ∧ v = some (.int (-2)) ∧ CW cI cT q kp Wn made fl num rfs root own tad trm tpl wlk ord met msz cur mend pnx pen st coll mins movd w2) ∨ ((inR 16 x = true ∧ inR 7 y = true) ∧ 2000 ≤ made ∧ v = some (.int (-4)) ∧ CW cI cT q kp Wn made fl num rfs root own tad trm tpl wlk ord met msz cur mend pnx pen st coll mins movd w2) ∨ ∃ (j n : Nat), j < 16 ∧ n ≤ 6 ∧ x = nI j ∧ y = nI n ∧ made < 2000 ∧ ((pnx + (n + 1) ≤ pen ∧ v = some (.int (nI made)) ∧ ∃ (b a1 a2 : Nat), CW cI cT (extq q made b a1 a2) kp Wn ((made + 1)) ((va_up fl made n)) ((ext0 num made 0)) ((ext0 rfs made none)) ((va_up root j (some made))) ((fillO own pnx (n + 1) (some made))) ((va_up (va_up tad made 0) made pnx)) ((va_up trm made false)) ((va_up tpl made 0)) ((va_up wlk made 0)) ((va_up ord made 0)) met msz cur mend ((pnx + (n + 1))) pen st coll mins movd w2) ∨ (¬ pnx + (n + 1) ≤ pen ∧ Wn / 4 < n + 1 ∧ v = some (.int (-4)) ∧ CW cI cT q kp Wn made fl num rfs root own tad trm tpl wlk ord met msz cur mend pnx pen st coll mins movd w2) ∨ (¬ pnx + (n + 1) ≤ pen ∧ n + 1 ≤ Wn / 4 ∧ ∃ (mt3 : Nat → Option Nat) (ms3 : Nat) (wl3 od3 : Nat → Nat), LsC made (cur + 1) ms3 mt3 wl3 od3 (flw (okC tad (Wn / 4)) fl rfs 401 0 (rmb (okC tad (Wn / 4)) fl rfs own tad trm (Wn / 4) (Wn - Wn / 4) (mtN (okC tad (Wn / 4)) root 16 []))) ∧ ∃ (ow2 : Nat → Option Nat) (tp2 : Nat → Nat), lay fl Wn (flw (okC tad (Wn / 4)) fl rfs 401 0 (rmb (okC tad (Wn / 4)) fl rfs own tad trm (Wn / 4) (Wn - Wn / 4) (mtN (okC tad (Wn / 4)) root 16 []))) (own, tpl) = some (ow2, tp2) ∧ v = some (.int (nI made)) ∧ ∃ (b a1 a2 : Nat), CW cI cT (extq q made b a1 a2) kp Wn ((made + 1)) ((va_up fl made n)) ((ext0 num made 0)) ((ext0 rfs made none)) ((va_up root j (some made))) ((fillO (fillO ow2 0 (Wn / 4) none) 0 (n + 1) (some made))) ((va_up (va_up (goT tp2 tad (flw (okC tad (Wn / 4)) fl rfs 401 0 (rmb (okC tad (Wn / 4)) fl rfs own tad trm (Wn / 4) (Wn - Wn / 4) (mtN (okC tad (Wn / 4)) root 16 [])))) made 0) made 0)) ((va_up (fgt (fillO ow2 0 (Wn / 4) none) (goT tp2 tad (flw (okC tad (Wn / 4)) fl rfs 401 0 (rmb (okC tad (Wn / 4)) fl rfs own tad trm (Wn / 4) (Wn - Wn / 4) (mtN (okC tad (Wn / 4)) root 16 [])))) (Wn / 4) (Wn - Wn / 4) trm) made false)) ((va_up tp2 made 0)) ((va_up wl3 made 0)) ((va_up od3 made 0)) mt3 ms3 ((cur + 1)) ((Wn / 4)) ((n + 1)) ((Wn / 4)) st coll ((mins + 1)) ((movd + (flw (okC tad (Wn / 4)) fl rfs 401 0 (rmb (okC tad (Wn / 4)) fl rfs own tad trm (Wn / 4) (Wn - Wn / 4) (mtN (okC tad (Wn / 4)) root 16 []))).length)) w2) ∨ (¬ pnx + (n + 1) ≤ pen ∧ n + 1 ≤ Wn / 4 ∧ lay fl Wn (flw (okC tad (Wn / 4)) fl rfs 401 0 (rmb (okC tad (Wn / 4)) fl rfs own tad trm (Wn / 4) (Wn - Wn / 4) (mtN (okC tad (Wn / 4)) root 16 []))) (own, tpl) = none ∧ ∃ tp9, ∃ (mt3 : Nat → Option Nat) (ms3 : Nat) (wl3 od3 : Nat → Nat), LsC made (cur + 1 + 1 + 1) ms3 mt3 wl3 od3 (flw (okC tad (Wn / 4)) fl rfs 401 0 (rmb (okC tad (Wn / 4)) fl rfs (swO (dd (Wn / 4) Wn tad (ntL (flw (okC tad Wn) fl rfs 401 0 (mtN (okC tad Wn) root 16 [])))) own) tad trm (Wn / 4) (Wn - Wn / 4) (mtN (okC tad (Wn / 4)) root 16 []))) ∧ ((lay fl Wn (flw (okC tad (Wn / 4)) fl rfs 401 0 (rmb (okC tad (Wn / 4)) fl rfs (swO (dd (Wn / 4) Wn tad (ntL (flw (okC tad Wn) fl rfs 401 0 (mtN (okC tad Wn) root 16 [])))) own) tad trm (Wn / 4) (Wn - Wn / 4) (mtN (okC tad (Wn / 4)) root 16 []))) ((swO (dd (Wn / 4) Wn tad (ntL (flw (okC tad Wn) fl rfs 401 0 (mtN (okC tad Wn) root 16 [])))) own), tp9) = none ∧ v = some (.int (-4)) ∧ ∃ tp2, CW cI cT q kp Wn made fl num rfs root ((swO (dd (Wn / 4) Wn tad (ntL (flw (okC tad Wn) fl rfs 401 0 (mtN (okC tad Wn) root 16 [])))) own)) tad trm tp2 wl3 od3 mt3 ms3 ((cur + 1 + 1 + 1)) ((Wn / 4)) pnx pen st ((coll + 1)) mins movd w2) ∨ ∃ (ow2 : Nat → Option Nat) (tp2 : Nat → Nat), lay fl Wn (flw (okC tad (Wn / 4)) fl rfs 401 0 (rmb (okC tad (Wn / 4)) fl rfs (swO (dd (Wn / 4) Wn tad (ntL (flw (okC tad Wn) fl rfs 401 0 (mtN (okC tad Wn) root 16 [])))) own) tad trm (Wn / 4) (Wn - Wn / 4) (mtN (okC tad (Wn / 4)) root 16 []))) ((swO (dd (Wn / 4) Wn tad (ntL (flw (okC tad Wn) fl rfs 401 0 (mtN (okC tad Wn) root 16 [])))) own), tp9) = some (ow2, tp2) ∧ v = some (.int (nI made)) ∧ ∃ (b a1 a2 : Nat), CW cI cT (extq q made b a1 a2) kp Wn ((made + 1)) ((va_up fl made n)) ((ext0 num made 0)) ((ext0 rfs made none)) ((va_up root j (some made))) ((fillO (fillO ow2 0 (Wn / 4) none) 0 (n + 1) (some made))) ((va_up (va_up (goT tp2 tad (flw (okC tad (Wn / 4)) fl rfs 401 0 (rmb (okC tad (Wn / 4)) fl rfs (swO (dd (Wn / 4) Wn tad (ntL (flw (okC tad Wn) fl rfs 401 0 (mtN (okC tad Wn) root 16 [])))) own) tad trm (Wn / 4) (Wn - Wn / 4) (mtN (okC tad (Wn / 4)) root 16 [])))) made 0) made 0)) ((va_up (fgt (fillO ow2 0 (Wn / 4) none) (goT tp2 tad (flw (okC tad (Wn / 4)) fl rfs 401 0 (rmb (okC tad (Wn / 4)) fl rfs (swO (dd (Wn / 4) Wn tad (ntL (flw (okC tad Wn) fl rfs 401 0 (mtN (okC tad Wn) root 16 [])))) own) tad trm (Wn / 4) (Wn - Wn / 4) (mtN (okC tad (Wn / 4)) root 16 [])))) (Wn / 4) (Wn - Wn / 4) trm) made false)) ((va_up tp2 made 0)) ((va_up wl3 made 0)) ((va_up od3 made 0)) mt3 ms3 ((cur + 1 + 1 + 1)) ((Wn / 4)) ((n + 1)) ((Wn / 4)) st ((coll + 1)) ((mins + 1)) ((movd + (flw (okC tad (Wn / 4)) fl rfs 401 0 (rmb (okC tad (Wn / 4)) fl rfs (swO (dd (Wn / 4) Wn tad (ntL (flw (okC tad Wn) fl rfs 401 0 (mtN (okC tad Wn) root 16 [])))) own) tad trm (Wn / 4) (Wn - Wn / 4) (mtN (okC tad (Wn / 4)) root 16 []))).length)) w2)))) := by
  refine mC.on (by decide) (Nat.le_of_ble_eq_true rfl) ?_
  intro p e s m args below meth c ls S hr hlk hnm hK hN hG hl
  have hl : lv_has ls 5 [(0, .ref (q 0)), (1, .int (x)), (2, .int (y))] := hl
  generalize hAe : mA w s.heap.size = A at hG ⊢
  refine lv_aload_n S.1 S.2.1 dX9_make_0 rfl (lv_at hl 0 rfl) ?_
  refine cg_RX9_25 S hK hG hC dX9_make_1 ?_
  refine lv_iload_n S.1 S.2.1 dX9_make_4 rfl (lv_at hl 1 rfl) ?_
  refine mCV (As := [.int (x)]) (rest := []) S (o_has hC x) cal_X4_has in_144 in_145 in_146 in_21 hK hN hG hC.obj4 rfl rfl rfl hl.1 (Nat.le_of_ble_eq_true rfl) ⟨by decide, by decide⟩ ⟨rfl, rfl⟩ ⟨by decide, by decide⟩ dX9_make_5 (fun v w H locs hp hG => ?_)
  obtain ⟨rfl, hw9⟩ := hp
  have hw9 := hw9.symm
  subst hw9
  refine W.eq (g2 := F0 m 8 ls [.int (bI (inR 16 x))]) rfl ?_
  refine lv_if_eq (tgt := 21) S.1 S.2.1 dX9_make_8 (by decide) (fun c1 => ?_) (fun c1 => ?_)
  · refine lv_bipush (v := -2) S.1 S.2.1 dX9_make_21 (by decide) ?_
    refine W.widen (k := 3) (n := 20) (by decide) (by decide) ?_
    exact mw_iret S hr hlk hK hG dX9_make_23 (Or.inl ⟨Or.inl (bI_f c1), rfl, hC⟩)
  · obtain ⟨j, hj, rfl⟩ := inR_ex (by decide) (bI_t c1)
    refine lv_iload_n S.1 S.2.1 dX9_make_11 rfl (lv_at hl 2 rfl) ?_
    refine lv_if_lt (tgt := 21) S.1 S.2.1 dX9_make_12 (by decide) (fun c2 => ?_) (fun c2 => ?_)
    · refine lv_bipush (v := -2) S.1 S.2.1 dX9_make_21 (by decide) ?_
      refine W.widen (k := 3) (n := 20) (by decide) (by decide) ?_
      exact mw_iret S hr hlk hK hG dX9_make_23 (Or.inl ⟨Or.inr (inR_lo c2), rfl, hC⟩)
    · refine lv_iload_n S.1 S.2.1 dX9_make_15 rfl (lv_at hl 2 rfl) ?_
      refine lv_bipush (v := nI (6)) S.1 S.2.1 dX9_make_16 (by decide) ?_
      refine lv_icmp_le (tgt := 24) S.1 S.2.1 dX9_make_18 (by decide) (fun c3 => ?_) (fun c3 => ?_)
      · obtain ⟨n, hn7, rfl⟩ := inR_ex (n := 7) (by decide) (inR_t2 (h := 6) (by decide) c2 (Int32.not_lt.mpr c3))
        refine lv_aload_n S.1 S.2.1 dX9_make_24 rfl (lv_at hl 0 rfl) ?_
        refine cg_RX9_37 S hK hG hC dX9_make_25 ?_
        refine lv_sipush (v := nI (2000)) S.1 S.2.1 dX9_make_28 (by decide) ?_
        refine lv_icmp_lt (tgt := 37) S.1 S.2.1 dX9_make_31 (by decide) (fun c4 => ?_) (fun c4 => ?_)
        · have c4 : made < 2000 := (nI_ltI (a := made) (b := 2000) (by omega) (by omega)).mp c4
          refine lv_aload_n S.1 S.2.1 dX9_make_37 rfl (lv_at hl 0 rfl) ?_
          refine cg_RX9_33 S hK hG hC dX9_make_38 ?_
          refine lv_iload_n S.1 S.2.1 dX9_make_41 rfl (lv_at hl 2 rfl) ?_
          refine lv_iconst (v := nI (1)) S.1 S.2.1 dX9_make_42 (by decide) ?_
          refine lv_iadd S.1 S.2.1 dX9_make_43 ?_
          refine lv_eqi (nI_add _ _) ?_
          refine mCU (As := [.int (nI (n + 1))]) (rest := []) S (g_take hC hkp (n + 1) (by omega) (by omega) (by omega)) (va_cwA (owner := "KeptHeap$Keeper") (x := ⟨"KeptHeap$Keeper", "take", "(I)I"⟩) 1 S.2.2.2.2 (mGU (own := RX9) (index := 45) (x := ⟨"KeptHeap$Keeper", "take", "(I)I"⟩) (owner := "KeptHeap$Keeper") in_152 in_148 in_149 in_150 in_151 in_57) rfl rfl rfl hN.2.1 (by decide +kernel) ⟨by decide, by decide⟩) hK hN hG (hC.obj0 hkp) rfl rfl rfl hl.1 (Nat.le_of_ble_eq_true rfl) ⟨by decide, by decide⟩ dX9_make_44 (fun v w H locs hp hG => ?_)
          obtain ⟨rfl, hC⟩ := hp
          refine W.eq (g2 := F0 m 47 ls [.int (oI (if pnx + (n + 1) ≤ pen then some pnx else none))]) rfl ?_
          by_cases hf1 : pnx + (n + 1) ≤ pen
          · rw [if_pos hf1] at hC
            rw [if_pos hf1]
            refine W.eq (g2 := F0 m 47 ls [.int (nI (pnx))]) rfl ?_
            refine lv_istore_n (lv' := [(3, .int (nI (pnx))), (0, .ref (q 0)), (1, .int (nI (j))), (2, .int (nI (n)))]) S.1 S.2.1 dX9_make_47 rfl hl (by decide) rfl (fun ls hl => ?_)
            refine lv_iload_n S.1 S.2.1 dX9_make_48 rfl (lv_at hl 0 rfl) ?_
            refine lv_iconst (v := -1) S.1 S.2.1 dX9_make_49 (by decide) ?_
            refine lv_icmp_ne (tgt := 74) S.1 S.2.1 dX9_make_50 (by decide) (fun c5 => ?_) (fun c5 => ?_)
            · refine lv_iload_n S.1 S.2.1 dX9_make_74 rfl (lv_at hl 0 rfl) ?_
              refine lv_iconst (v := -1) S.1 S.2.1 dX9_make_75 (by decide) ?_
              refine lv_icmp_ne (tgt := 82) S.1 S.2.1 dX9_make_76 (by decide) (fun c6 => ?_) (fun c6 => ?_)
              · refine make_tail S hr hlk hK hN hG hC hW4 hob hrb hmt hfb j n (pnx) hj (by omega) (by omega) (lv_sub hl [0, 1, 2, 3] rfl) (fun b a1 a2 w2 hC2 => Or.inr (Or.inr ⟨j, n, hj, by omega, rfl, rfl, c4, Or.inl ⟨hf1, rfl, b, a1, a2, hC2⟩⟩))
              · exact absurd c6 (nI_m1 (by omega))
            · exact absurd c5 (nI_m1 (by omega))
          · rw [if_neg hf1] at hC
            rw [if_neg hf1]
            refine W.eq (g2 := F0 m 47 ls [.int (-1)]) rfl ?_
            refine lv_istore_n (lv' := [(3, .int (-1)), (0, .ref (q 0)), (1, .int (nI (j))), (2, .int (nI (n)))]) S.1 S.2.1 dX9_make_47 rfl hl (by decide) rfl (fun ls hl => ?_)
            refine lv_iload_n S.1 S.2.1 dX9_make_48 rfl (lv_at hl 0 rfl) ?_
            refine lv_iconst (v := -1) S.1 S.2.1 dX9_make_49 (by decide) ?_
            refine lv_icmp_ne (tgt := 74) S.1 S.2.1 dX9_make_50 (by decide) (fun c5 => ?_) (fun c5 => ?_)
            · exact absurd rfl c5
            · refine lv_aload_n S.1 S.2.1 dX9_make_53 rfl (lv_at hl 1 rfl) ?_
              refine cg_RX9_33 S hK hG hC dX9_make_54 ?_
              refine lv_iload_n S.1 S.2.1 dX9_make_57 rfl (lv_at hl 3 rfl) ?_
              refine lv_iconst (v := nI (1)) S.1 S.2.1 dX9_make_58 (by decide) ?_
              refine lv_iadd S.1 S.2.1 dX9_make_59 ?_
              refine lv_eqi (nI_add _ _) ?_
              refine mCU (As := [.int (nI (n + 1))]) (rest := []) S (g_clearRoomFor hB hKm hKf hfl hC hkp hW4 hcb htb hwb hmt hKr hob hKo hLy hcnt1 hcnt (n + 1) (by omega)) (va_cwA (owner := "KeptHeap$Keeper") (x := ⟨"KeptHeap$Keeper", "clearRoomFor", "(I)V"⟩) 1 S.2.2.2.2 (mGU (own := RX9) (index := 50) (x := ⟨"KeptHeap$Keeper", "clearRoomFor", "(I)V"⟩) (owner := "KeptHeap$Keeper") in_174 in_170 in_171 in_172 in_173 in_57) rfl rfl rfl hN.2.2.1 (by decide +kernel) ⟨by decide, by decide⟩) hK hN hG (hC.obj0 hkp) rfl rfl rfl hl.1 (Nat.le_of_ble_eq_true rfl) ⟨by decide, by decide⟩ dX9_make_60 (fun v w H locs hp hG => ?_)
              obtain ⟨rfl, hcs⟩ := hp
              rcases hcs with ⟨hbig, hC⟩ | ⟨hsm, mt3, ms3, wl3, od3, hLg, ow2, tp2, hla, hC⟩ | ⟨hsm, hno, tp9, mt3, ms3, wl3, od3, hLg, hcs⟩
              · refine W.eq (g2 := F0 m 63 ls []) rfl ?_
                refine lv_aload_n S.1 S.2.1 dX9_make_63 rfl (lv_at hl 1 rfl) ?_
                refine cg_RX9_33 S hK hG hC dX9_make_64 ?_
                refine lv_iload_n S.1 S.2.1 dX9_make_67 rfl (lv_at hl 3 rfl) ?_
                refine lv_iconst (v := nI (1)) S.1 S.2.1 dX9_make_68 (by decide) ?_
                refine lv_iadd S.1 S.2.1 dX9_make_69 ?_
                refine lv_eqi (nI_add _ _) ?_
                refine mCU (As := [.int (nI (n + 1))]) (rest := []) S (g_take hC hkp (n + 1) (by omega) (by omega) (by omega)) (va_cwA (owner := "KeptHeap$Keeper") (x := ⟨"KeptHeap$Keeper", "take", "(I)I"⟩) 1 S.2.2.2.2 (mGU (own := RX9) (index := 45) (x := ⟨"KeptHeap$Keeper", "take", "(I)I"⟩) (owner := "KeptHeap$Keeper") in_152 in_148 in_149 in_150 in_151 in_57) rfl rfl rfl hN.2.1 (by decide +kernel) ⟨by decide, by decide⟩) hK hN hG (hC.obj0 hkp) rfl rfl rfl hl.1 (Nat.le_of_ble_eq_true rfl) ⟨by decide, by decide⟩ dX9_make_70 (fun v w H locs hp hG => ?_)
                obtain ⟨rfl, hC⟩ := hp
                refine W.eq (g2 := F0 m 73 ls [.int (oI (if pnx + (n + 1) ≤ pen then some pnx else none))]) rfl ?_
                rw [if_neg (show ¬ pnx + (n + 1) ≤ pen by omega)] at hC
                rw [if_neg (show ¬ pnx + (n + 1) ≤ pen by omega)]
                refine W.eq (g2 := F0 m 73 ls [.int (-1)]) rfl ?_
                refine lv_istore_n (lv' := [(3, .int (-1)), (0, .ref (q 0)), (1, .int (nI (j))), (2, .int (nI (n)))]) S.1 S.2.1 dX9_make_73 rfl hl (by decide) rfl (fun ls hl => ?_)
                refine lv_iload_n S.1 S.2.1 dX9_make_74 rfl (lv_at hl 0 rfl) ?_
                refine lv_iconst (v := -1) S.1 S.2.1 dX9_make_75 (by decide) ?_
                refine lv_icmp_ne (tgt := 82) S.1 S.2.1 dX9_make_76 (by decide) (fun c6 => ?_) (fun c6 => ?_)
                · exact absurd rfl c6
                · refine lv_bipush (v := -4) S.1 S.2.1 dX9_make_79 (by decide) ?_
                  refine W.widen (k := 3) (n := 20) (by decide) (by decide) ?_
                  exact mw_iret S hr hlk hK hG dX9_make_81 (Or.inr (Or.inr ⟨j, n, hj, by omega, rfl, rfl, c4, Or.inr (Or.inl ⟨hf1, hbig, rfl, hC⟩)⟩))
              · refine W.eq (g2 := F0 m 63 ls []) rfl ?_
                refine lv_aload_n S.1 S.2.1 dX9_make_63 rfl (lv_at hl 1 rfl) ?_
                refine cg_RX9_33 S hK hG hC dX9_make_64 ?_
                refine lv_iload_n S.1 S.2.1 dX9_make_67 rfl (lv_at hl 3 rfl) ?_
                refine lv_iconst (v := nI (1)) S.1 S.2.1 dX9_make_68 (by decide) ?_
                refine lv_iadd S.1 S.2.1 dX9_make_69 ?_
                refine lv_eqi (nI_add _ _) ?_
                refine mCU (As := [.int (nI (n + 1))]) (rest := []) S (g_take hC hkp (n + 1) (by omega) (by omega) (by omega)) (va_cwA (owner := "KeptHeap$Keeper") (x := ⟨"KeptHeap$Keeper", "take", "(I)I"⟩) 1 S.2.2.2.2 (mGU (own := RX9) (index := 45) (x := ⟨"KeptHeap$Keeper", "take", "(I)I"⟩) (owner := "KeptHeap$Keeper") in_152 in_148 in_149 in_150 in_151 in_57) rfl rfl rfl hN.2.1 (by decide +kernel) ⟨by decide, by decide⟩) hK hN hG (hC.obj0 hkp) rfl rfl rfl hl.1 (Nat.le_of_ble_eq_true rfl) ⟨by decide, by decide⟩ dX9_make_70 (fun v w H locs hp hG => ?_)
                obtain ⟨rfl, hC⟩ := hp
                refine W.eq (g2 := F0 m 73 ls [.int (oI (if 0 + (n + 1) ≤ (Wn / 4) then some 0 else none))]) rfl ?_
                rw [if_pos (show 0 + (n + 1) ≤ (Wn / 4) by omega)] at hC
                rw [if_pos (show 0 + (n + 1) ≤ (Wn / 4) by omega)]
                rw [Nat.zero_add] at hC
                refine W.eq (g2 := F0 m 73 ls [.int (nI (0))]) rfl ?_
                refine lv_istore_n (lv' := [(3, .int (nI (0))), (0, .ref (q 0)), (1, .int (nI (j))), (2, .int (nI (n)))]) S.1 S.2.1 dX9_make_73 rfl hl (by decide) rfl (fun ls hl => ?_)
                refine lv_iload_n S.1 S.2.1 dX9_make_74 rfl (lv_at hl 0 rfl) ?_
                refine lv_iconst (v := -1) S.1 S.2.1 dX9_make_75 (by decide) ?_
                refine lv_icmp_ne (tgt := 82) S.1 S.2.1 dX9_make_76 (by decide) (fun c6 => ?_) (fun c6 => ?_)
                · refine make_tail S hr hlk hK hN hG hC hW4 (fillN_b (lay_b _ _ _ hLg.2.2.2.2.2.1 hob hla)) hrb hLg.hm hfb j n (0) hj (by omega) (by omega) (lv_sub hl [0, 1, 2, 3] rfl) (fun b a1 a2 w2 hC2 => Or.inr (Or.inr ⟨j, n, hj, by omega, rfl, rfl, c4, Or.inr (Or.inr (Or.inl ⟨hf1, hsm, mt3, ms3, wl3, od3, hLg, ow2, tp2, hla, rfl, b, a1, a2, hC2⟩))⟩))
                · exact absurd c6 (nI_m1 (by omega))
              · rcases hcs with ⟨-, hno2, n2, ow2, tp2, hn2, hla, hC⟩ | ⟨ow2, tp2, hla, -, hC⟩
                · refine W.eq (g2 := F0 m 63 ls []) rfl ?_
                  rw [gb_back (nodup_take hLg.1 n2) hla] at hC
                  refine lv_aload_n S.1 S.2.1 dX9_make_63 rfl (lv_at hl 1 rfl) ?_
                  refine cg_RX9_33 S hK hG hC dX9_make_64 ?_
                  refine lv_iload_n S.1 S.2.1 dX9_make_67 rfl (lv_at hl 3 rfl) ?_
                  refine lv_iconst (v := nI (1)) S.1 S.2.1 dX9_make_68 (by decide) ?_
                  refine lv_iadd S.1 S.2.1 dX9_make_69 ?_
                  refine lv_eqi (nI_add _ _) ?_
                  refine mCU (As := [.int (nI (n + 1))]) (rest := []) S (g_take hC hkp (n + 1) (by omega) (by omega) (by omega)) (va_cwA (owner := "KeptHeap$Keeper") (x := ⟨"KeptHeap$Keeper", "take", "(I)I"⟩) 1 S.2.2.2.2 (mGU (own := RX9) (index := 45) (x := ⟨"KeptHeap$Keeper", "take", "(I)I"⟩) (owner := "KeptHeap$Keeper") in_152 in_148 in_149 in_150 in_151 in_57) rfl rfl rfl hN.2.1 (by decide +kernel) ⟨by decide, by decide⟩) hK hN hG (hC.obj0 hkp) rfl rfl rfl hl.1 (Nat.le_of_ble_eq_true rfl) ⟨by decide, by decide⟩ dX9_make_70 (fun v w H locs hp hG => ?_)
                  obtain ⟨rfl, hC⟩ := hp
                  refine W.eq (g2 := F0 m 73 ls [.int (oI (if pnx + (n + 1) ≤ pen then some pnx else none))]) rfl ?_
                  rw [if_neg (show ¬ pnx + (n + 1) ≤ pen by omega)] at hC
                  rw [if_neg (show ¬ pnx + (n + 1) ≤ pen by omega)]
                  refine W.eq (g2 := F0 m 73 ls [.int (-1)]) rfl ?_
                  refine lv_istore_n (lv' := [(3, .int (-1)), (0, .ref (q 0)), (1, .int (nI (j))), (2, .int (nI (n)))]) S.1 S.2.1 dX9_make_73 rfl hl (by decide) rfl (fun ls hl => ?_)
                  refine lv_iload_n S.1 S.2.1 dX9_make_74 rfl (lv_at hl 0 rfl) ?_
                  refine lv_iconst (v := -1) S.1 S.2.1 dX9_make_75 (by decide) ?_
                  refine lv_icmp_ne (tgt := 82) S.1 S.2.1 dX9_make_76 (by decide) (fun c6 => ?_) (fun c6 => ?_)
                  · exact absurd rfl c6
                  · refine lv_bipush (v := -4) S.1 S.2.1 dX9_make_79 (by decide) ?_
                    refine W.widen (k := 3) (n := 20) (by decide) (by decide) ?_
                    exact mw_iret S hr hlk hK hG dX9_make_81 (Or.inr (Or.inr ⟨j, n, hj, by omega, rfl, rfl, c4, Or.inr (Or.inr (Or.inr ⟨hf1, hsm, hno, tp9, mt3, ms3, wl3, od3, hLg, Or.inl ⟨hno2, rfl, tp2, hC⟩⟩))⟩))
                · refine W.eq (g2 := F0 m 63 ls []) rfl ?_
                  refine lv_aload_n S.1 S.2.1 dX9_make_63 rfl (lv_at hl 1 rfl) ?_
                  refine cg_RX9_33 S hK hG hC dX9_make_64 ?_
                  refine lv_iload_n S.1 S.2.1 dX9_make_67 rfl (lv_at hl 3 rfl) ?_
                  refine lv_iconst (v := nI (1)) S.1 S.2.1 dX9_make_68 (by decide) ?_
                  refine lv_iadd S.1 S.2.1 dX9_make_69 ?_
                  refine lv_eqi (nI_add _ _) ?_
                  refine mCU (As := [.int (nI (n + 1))]) (rest := []) S (g_take hC hkp (n + 1) (by omega) (by omega) (by omega)) (va_cwA (owner := "KeptHeap$Keeper") (x := ⟨"KeptHeap$Keeper", "take", "(I)I"⟩) 1 S.2.2.2.2 (mGU (own := RX9) (index := 45) (x := ⟨"KeptHeap$Keeper", "take", "(I)I"⟩) (owner := "KeptHeap$Keeper") in_152 in_148 in_149 in_150 in_151 in_57) rfl rfl rfl hN.2.1 (by decide +kernel) ⟨by decide, by decide⟩) hK hN hG (hC.obj0 hkp) rfl rfl rfl hl.1 (Nat.le_of_ble_eq_true rfl) ⟨by decide, by decide⟩ dX9_make_70 (fun v w H locs hp hG => ?_)
                  obtain ⟨rfl, hC⟩ := hp
                  refine W.eq (g2 := F0 m 73 ls [.int (oI (if 0 + (n + 1) ≤ (Wn / 4) then some 0 else none))]) rfl ?_
                  rw [if_pos (show 0 + (n + 1) ≤ (Wn / 4) by omega)] at hC
                  rw [if_pos (show 0 + (n + 1) ≤ (Wn / 4) by omega)]
                  rw [Nat.zero_add] at hC
                  refine W.eq (g2 := F0 m 73 ls [.int (nI (0))]) rfl ?_
                  refine lv_istore_n (lv' := [(3, .int (nI (0))), (0, .ref (q 0)), (1, .int (nI (j))), (2, .int (nI (n)))]) S.1 S.2.1 dX9_make_73 rfl hl (by decide) rfl (fun ls hl => ?_)
                  refine lv_iload_n S.1 S.2.1 dX9_make_74 rfl (lv_at hl 0 rfl) ?_
                  refine lv_iconst (v := -1) S.1 S.2.1 dX9_make_75 (by decide) ?_
                  refine lv_icmp_ne (tgt := 82) S.1 S.2.1 dX9_make_76 (by decide) (fun c6 => ?_) (fun c6 => ?_)
                  · refine make_tail S hr hlk hK hN hG hC hW4 (fillN_b (lay_b _ _ _ hLg.2.2.2.2.2.1 (fun k t ht => hob k t (swO_own ht)) hla)) hrb hLg.hm hfb j n (0) hj (by omega) (by omega) (lv_sub hl [0, 1, 2, 3] rfl) (fun b a1 a2 w2 hC2 => Or.inr (Or.inr ⟨j, n, hj, by omega, rfl, rfl, c4, Or.inr (Or.inr (Or.inr ⟨hf1, hsm, hno, tp9, mt3, ms3, wl3, od3, hLg, Or.inr ⟨ow2, tp2, hla, rfl, b, a1, a2, hC2⟩⟩))⟩))
                  · exact absurd c6 (nI_m1 (by omega))
        · have c4 : ¬ (made < 2000) := fun h9 => c4 ((nI_ltI (a := made) (b := 2000) (by omega) (by omega)).mpr h9)
          refine lv_bipush (v := -4) S.1 S.2.1 dX9_make_34 (by decide) ?_
          refine W.widen (k := 3) (n := 20) (by decide) (by decide) ?_
          exact mw_iret S hr hlk hK hG dX9_make_36 (Or.inr (Or.inl ⟨⟨inR_nI hj (by decide), inR_nI hn7 (by decide)⟩, by omega, rfl, hC⟩))
      · refine lv_bipush (v := -2) S.1 S.2.1 dX9_make_21 (by decide) ?_
        refine W.widen (k := 3) (n := 20) (by decide) (by decide) ?_
        exact mw_iret S hr hlk hK hG dX9_make_23 (Or.inl ⟨Or.inr (inR_hi2 (h := 6) (by decide) (Int32.not_le.mp c3)), rfl, hC⟩)
