def lnk (fl : Nat → Nat) (root : Nat → Option Nat) (x f t : Int32) : Int32 ⊕ (Nat × Nat × Nat) :=
  if inR 16 t = true then (match tgt fl root x f with
    | .inl c => .inl c
    | .inr (o, i) => match root t.toNatClampNeg with
      | none => .inl (-3)
      | some u => .inr (o, i, u)) else .inl (-2)
theorem lnk_b {fl : Nat → Nat} {root : Nat → Option Nat} {x f t : Int32} (h : inR 16 t = false) : lnk fl root x f t = .inl (-2) := by
  unfold lnk; rw [if_neg (by rw [h]; simp)]
theorem lnk_c {fl : Nat → Nat} {root : Nat → Option Nat} {x f c : Int32} {k : Nat} (hk : k < 16) (h : tgt fl root x f = .inl c) : lnk fl root x f (nI k) = .inl c := by
  unfold lnk; rw [if_pos (inR_nI hk (by decide)), h]
theorem lnk_n {fl : Nat → Nat} {root : Nat → Option Nat} {x f : Int32} {k o i : Nat} (hk : k < 16) (h : tgt fl root x f = .inr (o, i)) (h2 : root k = none) : lnk fl root x f (nI k) = .inl (-3) := by
  unfold lnk; rw [if_pos (inR_nI hk (by decide)), h, nI_clamp (by omega)]; simp only [h2]
theorem lnk_o {fl : Nat → Nat} {root : Nat → Option Nat} {x f : Int32} {k o i u : Nat} (hk : k < 16) (h : tgt fl root x f = .inr (o, i)) (h2 : root k = some u) : lnk fl root x f (nI k) = .inr (o, i, u) := by
  unfold lnk; rw [if_pos (inR_nI hk (by decide)), h, nI_clamp (by omega)]; simp only [h2]
def lod (fl : Nat → Nat) (rfs : Nat → Nat → Option Nat) (root : Nat → Option Nat) (r x f : Int32) : Int32 ⊕ (Nat × Nat) :=
  if inR 16 r = true then (match tgt fl root x f with
    | .inl c => .inl c
    | .inr (o, i) => match rfs o i with
      | none => .inl (-3)
      | some u => .inr (r.toNatClampNeg, u)) else .inl (-2)
theorem lod_b {fl : Nat → Nat} {rfs : Nat → Nat → Option Nat} {root : Nat → Option Nat} {r x f : Int32} (h : inR 16 r = false) : lod fl rfs root r x f = .inl (-2) := by
  unfold lod; rw [if_neg (by rw [h]; simp)]
theorem lod_c {fl : Nat → Nat} {rfs : Nat → Nat → Option Nat} {root : Nat → Option Nat} {x f c : Int32} {k : Nat} (hk : k < 16) (h : tgt fl root x f = .inl c) : lod fl rfs root (nI k) x f = .inl c := by
  unfold lod; rw [if_pos (inR_nI hk (by decide)), h]
theorem lod_n {fl : Nat → Nat} {rfs : Nat → Nat → Option Nat} {root : Nat → Option Nat} {x f : Int32} {k o i : Nat} (hk : k < 16) (h : tgt fl root x f = .inr (o, i)) (h2 : rfs o i = none) : lod fl rfs root (nI k) x f = .inl (-3) := by
  unfold lod; rw [if_pos (inR_nI hk (by decide)), h]; simp only [h2]
theorem lod_o {fl : Nat → Nat} {rfs : Nat → Nat → Option Nat} {root : Nat → Option Nat} {x f : Int32} {k o i u : Nat} (hk : k < 16) (h : tgt fl root x f = .inr (o, i)) (h2 : rfs o i = some u) : lod fl rfs root (nI k) x f = .inr (k, u) := by
  unfold lod; rw [if_pos (inR_nI hk (by decide)), h, nI_clamp (by omega)]; simp only [h2]
def code2 {α : Type} (t : Int32 ⊕ α) (g : α → Int32) : Int32 := match t with | .inl c => c | .inr a => g a
theorem oI_inj {a b : Option Nat} (ha : ∀ k, a = some k → k < 2147483648) (hb : ∀ k, b = some k → k < 2147483648) (h : oI a = oI b) : a = b := by
  cases a with
  | none => exact ((oI_m1 hb).mp h.symm).symm
  | some x =>
    cases b with
    | none => exact (oI_m1 ha).mp h
    | some y => rw [(nI_eq (ha x rfl) (hb y rfl)).mp h]
theorem cal_X10_link : mCal yX10_link cX10_link 6 3 (some .int) := ⟨in_505, by decide +kernel⟩
set_option maxHeartbeats 4000000 in
set_option maxRecDepth 100000 in
theorem r_link {l : Launch} {dC : Nat → ClassId} {dI : Nat → Nat → Nat} {cI cZ cT : ClassId} {q : Nat → Nat} {thr : Int32} {kp : Nat} {Wn : Nat} {made : Nat} {adr : (Nat → Option Nat)} {fl : (Nat → Nat)} {rem : (Nat → Bool)} {num : (Nat → Nat → Int32)} {rfs : (Nat → Nat → Option Nat)} {root : (Nat → Option Nat)} {own : (Nat → Option Nat)} {half : Nat} {top : Nat} {coll : Nat} {mins : Nat} {movd : Nat} {size : Nat} {row : (Nat → Nat)} {plc : (Nat → Option Nat)} {old : (Nat → Option Nat)} {w : mM} (hR : RW cI cZ q thr kp Wn made adr fl rem num rfs root own half top coll mins movd size row plc old w) (hrb : ∀ j, j < 16 → ∀ o, root j = some o → o < made) (hm : made ≤ 2000) (hfl : ∀ o, o < made → fl o ≤ 6) (hkp : kp ≤ 2) (hW : Wn ≤ 400) (hab : ∀ o, o < made → ∀ a, adr o = some a → a < 2147483648) (x f t : Int32) : mC l yX10_link (wsY yX10_link cX10_link 6 (some .int)) { frames := 3, cells := 0, slots := 0, locals := 64 } (dC, dI) vwCl (tyL cI cZ cT) 0 0 w [.ref (q 0), .int (x), .int (f), .int (t)] (fun v w2 => v = some (.int (code2 (lnk fl root x f t) (fun _ => 0))) ∧ match lnk fl root x f t with | .inl _ => RW cI cZ q 0 kp Wn made adr fl rem num rfs root own half top coll mins movd size row plc old w2 | .inr (o, i, u) => RW cI cZ q 0 kp Wn made adr fl (va_up rem o (rem o || (isOldR kp Wn adr o && !isOldR kp Wn adr u))) (up2 num o i 0) (up2 rfs o i (some u)) root own half top coll mins movd size row plc old w2) := by
  refine mC.on (by decide) (Nat.le_of_ble_eq_true rfl) ?_
  intro p e s m args below meth c ls S hr hlk hnm hK hN hG hl
  have hl : lv_has ls 6 [(0, .ref (q 0)), (1, .int (x)), (2, .int (f)), (3, .int (t))] := hl
  generalize hAe : mA w s.heap.size = A at hG ⊢
  refine lv_aload_n S.1 S.2.1 dX10_link_0 rfl (lv_at hl 0 rfl) ?_
  refine lv_iconst (v := 0) S.1 S.2.1 dX10_link_1 (by decide) ?_
  refine rp_thr S hK hG hR (0) dX10_link_2 (fun w H locs hR hG => ?_)
  refine lv_aload_n S.1 S.2.1 dX10_link_5 rfl (lv_at hl 0 rfl) ?_
  refine lv_iload_n S.1 S.2.1 dX10_link_6 rfl (lv_at hl 1 rfl) ?_
  refine lv_iload_n S.1 S.2.1 dX10_link_7 rfl (lv_at hl 2 rfl) ?_
  refine mCV (As := [.int (x), .int (f)]) (rest := []) S (r_wrong hR hrb hm hfl x f) cal_X10_wrong in_483 in_484 in_485 in_5 hK hN hG hR.obj rfl rfl rfl hl.1 (Nat.le_of_ble_eq_true rfl) ⟨by decide, by decide⟩ ⟨rfl, rfl⟩ ⟨by decide, by decide⟩ dX10_link_8 (fun v w H locs hp hG => ?_)
  obtain ⟨rfl, hw9⟩ := hp
  rw [hw9] at hG
  refine W.eq (g2 := F0 m 11 ls [.int (tgC (tgt fl root x f))]) rfl ?_
  refine lv_istore (lv' := [(4, .int (tgC (tgt fl root x f))), (0, .ref (q 0)), (1, .int (x)), (2, .int (f)), (3, .int (t))]) S.1 S.2.1 dX10_link_11 hl (by decide) rfl (fun ls hl => ?_)
  refine lv_iload_n S.1 S.2.1 dX10_link_13 rfl (lv_at hl 4 rfl) ?_
  refine mCS (As := [.int (t)]) (rest := []) S (r_isRoot t) cal_X10_isRoot rfl in_382 in_383 in_5 hK hN hG rfl rfl hl.1 (Nat.le_of_ble_eq_true rfl) ⟨by decide, by decide⟩ ⟨rfl, rfl⟩ ⟨by decide, by decide⟩ dX10_link_14 (fun v w H locs hp hG => ?_)
  obtain ⟨rfl, hw9⟩ := hp
  rw [hw9] at hG
  refine W.eq (g2 := F0 m 17 ls [.int (bI (inR 16 t))]) rfl ?_
  refine lv_if_ne (tgt := 23) S.1 S.2.1 dX10_link_17 (by decide) (fun c1 => ?_) (fun c1 => ?_)
  · obtain ⟨k, hk, rfl⟩ := inR_ex (by decide) (bI_t c1)
    refine lv_iload S.1 S.2.1 dX10_link_23 (lv_at hl 0 rfl) ?_
    cases ht : tgt fl root x f with
    | inl cd =>
      have hcd := tgC_ne (tgt_inl ht)
      rw [ht] at hl
      rw [lnk_c hk ht]
      refine W.eq (g2 := F0 m 25 ls [.int cd]) rfl ?_
      have hl : lv_has ls 6 [(4, .int (cd)), (0, .ref (q 0)), (1, .int (x)), (2, .int (f)), (3, .int (nI (k)))] := hl
      refine lv_if_eq (tgt := 31) S.1 S.2.1 dX10_link_25 (by decide) (fun c2 => ?_) (fun c2 => ?_)
      · exact absurd c2 hcd
      · refine lv_iload S.1 S.2.1 dX10_link_28 (lv_at hl 0 rfl) ?_
        exact mw_iret S hr hlk hK hG dX10_link_30 ⟨rfl, hR⟩
    | inr oi =>
      obtain ⟨o, i⟩ := oi
      obtain ⟨j, hj, rfl, rfl, hi, hjo, hif⟩ := tgt_inr ht
      have hom := hrb j hj o hjo
      rw [ht] at hl
      refine W.eq (g2 := F0 m 25 ls [.int 0]) rfl ?_
      have hl : lv_has ls 6 [(4, .int (0)), (0, .ref (q 0)), (1, .int (nI (j))), (2, .int (nI (i))), (3, .int (nI (k)))] := hl
      refine lv_if_eq (tgt := 31) S.1 S.2.1 dX10_link_25 (by decide) (fun c2 => ?_) (fun c2 => ?_)
      · have hub : ∀ u, root k = some u → u < 2147483648 := fun u hu => by have := hrb k hk u hu; omega
        refine lv_aload_n S.1 S.2.1 dX10_link_31 rfl (lv_at hl 1 rfl) ?_
        refine rg_root S hK hG hR dX10_link_32 ?_
        refine lv_iload_n S.1 S.2.1 dX10_link_35 rfl (lv_at hl 4 rfl) ?_
        refine rl_root S hK hG hR (k) (by omega) dX10_link_36 ?_
        refine lv_iconst (v := -1) S.1 S.2.1 dX10_link_37 (by decide) ?_
        refine lv_icmp_ne (tgt := 44) S.1 S.2.1 dX10_link_38 (by decide) (fun c3 => ?_) (fun c3 => ?_)
        · obtain ⟨u, hu⟩ : ∃ u, root k = some u := by
            cases h : root k with
            | none => exact absurd ((oI_m1 hub).mpr h) c3
            | some u => exact ⟨u, rfl⟩
          have hum := hrb k hk u hu
          rw [lnk_o hk ht hu]
          refine lv_aload_n S.1 S.2.1 dX10_link_44 rfl (lv_at hl 1 rfl) ?_
          refine rg_root S hK hG hR dX10_link_45 ?_
          refine lv_iload_n S.1 S.2.1 dX10_link_48 rfl (lv_at hl 2 rfl) ?_
          refine rl_root S hK hG hR (j) (by omega) dX10_link_49 ?_
          refine lv_eqi (y := nI (o)) (by rw [hjo]; rfl) ?_
          refine lv_istore (lv' := [(5, .int (nI (o))), (4, .int (0)), (0, .ref (q 0)), (1, .int (nI (j))), (2, .int (nI (i))), (3, .int (nI (k)))]) S.1 S.2.1 dX10_link_50 hl (by decide) rfl (fun ls hl => ?_)
          refine lv_aload_n S.1 S.2.1 dX10_link_52 rfl (lv_at hl 2 rfl) ?_
          refine rg_num S hK hG hR dX10_link_53 ?_
          refine lv_bipush (v := nI (6)) S.1 S.2.1 dX10_link_56 (by decide) ?_
          refine lv_iload S.1 S.2.1 dX10_link_58 (lv_at hl 0 rfl) ?_
          refine lv_imul S.1 S.2.1 dX10_link_60 ?_
          refine lv_eqi (pk_mul _ _) ?_
          refine lv_iload_n S.1 S.2.1 dX10_link_61 rfl (lv_at hl 4 rfl) ?_
          refine lv_iadd S.1 S.2.1 dX10_link_62 ?_
          refine lv_eqi (nI_add _ _) ?_
          refine lv_iconst (v := 0) S.1 S.2.1 dX10_link_63 (by decide) ?_
          refine rs_num S hK hG hR (o) (i) (0) (by omega) (by omega) dX10_link_64 (fun w H locs hR hG => ?_)
          refine lv_aload_n S.1 S.2.1 dX10_link_65 rfl (lv_at hl 2 rfl) ?_
          refine rg_rfs S hK hG hR dX10_link_66 ?_
          refine lv_bipush (v := nI (6)) S.1 S.2.1 dX10_link_69 (by decide) ?_
          refine lv_iload S.1 S.2.1 dX10_link_71 (lv_at hl 0 rfl) ?_
          refine lv_imul S.1 S.2.1 dX10_link_73 ?_
          refine lv_eqi (pk_mul _ _) ?_
          refine lv_iload_n S.1 S.2.1 dX10_link_74 rfl (lv_at hl 4 rfl) ?_
          refine lv_iadd S.1 S.2.1 dX10_link_75 ?_
          refine lv_eqi (nI_add _ _) ?_
          refine lv_aload_n S.1 S.2.1 dX10_link_76 rfl (lv_at hl 2 rfl) ?_
          refine rg_root S hK hG hR dX10_link_77 ?_
          refine lv_iload_n S.1 S.2.1 dX10_link_80 rfl (lv_at hl 5 rfl) ?_
          refine rl_root S hK hG hR (k) (by omega) dX10_link_81 ?_
          refine lv_eqi (y := nI (u)) (by rw [hu]; rfl) ?_
          refine rs_rfs S hK hG hR (o) (i) (some (u)) (by omega) (by omega) dX10_link_82 (fun w H locs hR hG => ?_)
          refine lv_aload_n S.1 S.2.1 dX10_link_83 rfl (lv_at hl 2 rfl) ?_
          refine rg_rem S hK hG hR dX10_link_84 ?_
          refine lv_iload S.1 S.2.1 dX10_link_87 (lv_at hl 0 rfl) ?_
          refine lv_aload_n S.1 S.2.1 dX10_link_89 rfl (lv_at hl 2 rfl) ?_
          refine rg_rem S hK hG hR dX10_link_90 ?_
          refine lv_iload S.1 S.2.1 dX10_link_93 (lv_at hl 0 rfl) ?_
          refine rl_rem S hK hG hR (o) (by omega) dX10_link_95 ?_
          refine lv_if_ne (tgt := 121) S.1 S.2.1 dX10_link_96 (by decide) (fun c4 => ?_) (fun c4 => ?_)
          · have hb9 : (rem o || (isOldR kp Wn adr o && !isOldR kp Wn adr u)) = true := by rw [bI_t c4]; rfl
            refine lv_iconst (v := bI true) S.1 S.2.1 dX10_link_121 (by decide) ?_
            refine lv_goto (tgt := 126) S.1 S.2.1 dX10_link_122 (by decide) ?_
            refine rs_rem S hK hG hR (o) (true) (by omega) dX10_link_126 (fun w H locs hR hG => ?_)
            rw [← hb9] at hR
            refine lv_iconst (v := nI (0)) S.1 S.2.1 dX10_link_127 (by decide) ?_
            exact mw_iret S hr hlk hK hG dX10_link_128 ⟨rfl, hR⟩
          · have c4 := bI_f c4
            refine lv_aload_n S.1 S.2.1 dX10_link_99 rfl (lv_at hl 2 rfl) ?_
            refine lv_iload S.1 S.2.1 dX10_link_100 (lv_at hl 0 rfl) ?_
            refine mCV (As := [.int (nI (o))]) (rest := [.int (nI (o)), .ref (q 3)]) S (r_isOld hR o (by omega) hW hkp (hab o hom)) cal_X10_isOld in_428 in_429 in_430 in_5 hK hN hG hR.obj rfl rfl rfl hl.1 (Nat.le_of_ble_eq_true rfl) ⟨by decide, by decide⟩ ⟨rfl, rfl⟩ ⟨by decide, by decide⟩ dX10_link_102 (fun v w H locs hp hG => ?_)
            obtain ⟨rfl, hw9⟩ := hp
            rw [hw9] at hG
            refine W.eq (g2 := F0 m 105 ls [.int (bI (isOldR kp Wn adr o)), .int (nI (o)), .ref (q 3)]) rfl ?_
            refine lv_if_eq (tgt := 125) S.1 S.2.1 dX10_link_105 (by decide) (fun c5 => ?_) (fun c5 => ?_)
            · have hb9 : (rem o || (isOldR kp Wn adr o && !isOldR kp Wn adr u)) = false := by rw [c4, bI_f c5]; rfl
              refine lv_iconst (v := bI false) S.1 S.2.1 dX10_link_125 (by decide) ?_
              refine rs_rem S hK hG hR (o) (false) (by omega) dX10_link_126 (fun w H locs hR hG => ?_)
              rw [← hb9] at hR
              refine lv_iconst (v := nI (0)) S.1 S.2.1 dX10_link_127 (by decide) ?_
              exact mw_iret S hr hlk hK hG dX10_link_128 ⟨rfl, hR⟩
            · refine lv_aload_n S.1 S.2.1 dX10_link_108 rfl (lv_at hl 2 rfl) ?_
              refine lv_aload_n S.1 S.2.1 dX10_link_109 rfl (lv_at hl 2 rfl) ?_
              refine rg_root S hK hG hR dX10_link_110 ?_
              refine lv_iload_n S.1 S.2.1 dX10_link_113 rfl (lv_at hl 5 rfl) ?_
              refine rl_root S hK hG hR (k) (by omega) dX10_link_114 ?_
              refine lv_eqi (y := nI (u)) (by rw [hu]; rfl) ?_
              refine mCV (As := [.int (nI (u))]) (rest := [.int (nI (o)), .ref (q 3)]) S (r_isOld hR u (by omega) hW hkp (hab u hum)) cal_X10_isOld in_428 in_429 in_430 in_5 hK hN hG hR.obj rfl rfl rfl hl.1 (Nat.le_of_ble_eq_true rfl) ⟨by decide, by decide⟩ ⟨rfl, rfl⟩ ⟨by decide, by decide⟩ dX10_link_115 (fun v w H locs hp hG => ?_)
              obtain ⟨rfl, hw9⟩ := hp
              rw [hw9] at hG
              refine W.eq (g2 := F0 m 118 ls [.int (bI (isOldR kp Wn adr u)), .int (nI (o)), .ref (q 3)]) rfl ?_
              refine lv_if_ne (tgt := 125) S.1 S.2.1 dX10_link_118 (by decide) (fun c6 => ?_) (fun c6 => ?_)
              · have hb9 : (rem o || (isOldR kp Wn adr o && !isOldR kp Wn adr u)) = false := by rw [c4, bI_t c5, bI_t c6]; rfl
                refine lv_iconst (v := bI false) S.1 S.2.1 dX10_link_125 (by decide) ?_
                refine rs_rem S hK hG hR (o) (false) (by omega) dX10_link_126 (fun w H locs hR hG => ?_)
                rw [← hb9] at hR
                refine lv_iconst (v := nI (0)) S.1 S.2.1 dX10_link_127 (by decide) ?_
                exact mw_iret S hr hlk hK hG dX10_link_128 ⟨rfl, hR⟩
              · have hb9 : (rem o || (isOldR kp Wn adr o && !isOldR kp Wn adr u)) = true := by rw [c4, bI_t c5, bI_f c6]; rfl
                refine lv_iconst (v := bI true) S.1 S.2.1 dX10_link_121 (by decide) ?_
                refine lv_goto (tgt := 126) S.1 S.2.1 dX10_link_122 (by decide) ?_
                refine rs_rem S hK hG hR (o) (true) (by omega) dX10_link_126 (fun w H locs hR hG => ?_)
                rw [← hb9] at hR
                refine lv_iconst (v := nI (0)) S.1 S.2.1 dX10_link_127 (by decide) ?_
                exact mw_iret S hr hlk hK hG dX10_link_128 ⟨rfl, hR⟩
        · rw [lnk_n hk ht ((oI_m1 hub).mp c3)]
          refine lv_bipush (v := -3) S.1 S.2.1 dX10_link_41 (by decide) ?_
          exact mw_iret S hr hlk hK hG dX10_link_43 ⟨rfl, hR⟩
      · exact absurd rfl c2
  · rw [lnk_b (bI_f c1)]
    refine lv_bipush (v := -2) S.1 S.2.1 dX10_link_20 (by decide) ?_
    exact mw_iret S hr hlk hK hG dX10_link_22 ⟨rfl, hR⟩
theorem cal_X10_load : mCal yX10_load cX10_load 6 3 (some .int) := ⟨in_537, by decide +kernel⟩
set_option maxHeartbeats 4000000 in
set_option maxRecDepth 100000 in
theorem r_load {l : Launch} {dC : Nat → ClassId} {dI : Nat → Nat → Nat} {cI cZ cT : ClassId} {q : Nat → Nat} {thr : Int32} {kp : Nat} {Wn : Nat} {made : Nat} {adr : (Nat → Option Nat)} {fl : (Nat → Nat)} {rem : (Nat → Bool)} {num : (Nat → Nat → Int32)} {rfs : (Nat → Nat → Option Nat)} {root : (Nat → Option Nat)} {own : (Nat → Option Nat)} {half : Nat} {top : Nat} {coll : Nat} {mins : Nat} {movd : Nat} {size : Nat} {row : (Nat → Nat)} {plc : (Nat → Option Nat)} {old : (Nat → Option Nat)} {w : mM} (hR : RW cI cZ q thr kp Wn made adr fl rem num rfs root own half top coll mins movd size row plc old w) (hrb : ∀ j, j < 16 → ∀ o, root j = some o → o < made) (hm : made ≤ 2000) (hfl : ∀ o, o < made → fl o ≤ 6) (hfb : ∀ o, o < made → ∀ i, i < fl o → ∀ t, rfs o i = some t → t < made) (r x f : Int32) : mC l yX10_load (wsY yX10_load cX10_load 6 (some .int)) { frames := 3, cells := 0, slots := 0, locals := 64 } (dC, dI) vwCl (tyL cI cZ cT) 0 0 w [.ref (q 0), .int (r), .int (x), .int (f)] (fun v w2 => v = some (.int (code2 (lod fl rfs root r x f) (fun z => nI z.2))) ∧ match lod fl rfs root r x f with | .inl _ => RW cI cZ q 0 kp Wn made adr fl rem num rfs root own half top coll mins movd size row plc old w2 | .inr (k, u) => RW cI cZ q 0 kp Wn made adr fl rem num rfs (va_up root k (some u)) own half top coll mins movd size row plc old w2) := by
  refine mC.on (by decide) (Nat.le_of_ble_eq_true rfl) ?_
  intro p e s m args below meth c ls S hr hlk hnm hK hN hG hl
  have hl : lv_has ls 6 [(0, .ref (q 0)), (1, .int (r)), (2, .int (x)), (3, .int (f))] := hl
  generalize hAe : mA w s.heap.size = A at hG ⊢
  refine lv_aload_n S.1 S.2.1 dX10_load_0 rfl (lv_at hl 0 rfl) ?_
  refine lv_iconst (v := 0) S.1 S.2.1 dX10_load_1 (by decide) ?_
  refine rp_thr S hK hG hR (0) dX10_load_2 (fun w H locs hR hG => ?_)
  refine lv_aload_n S.1 S.2.1 dX10_load_5 rfl (lv_at hl 0 rfl) ?_
  refine lv_iload_n S.1 S.2.1 dX10_load_6 rfl (lv_at hl 2 rfl) ?_
  refine lv_iload_n S.1 S.2.1 dX10_load_7 rfl (lv_at hl 3 rfl) ?_
  refine mCV (As := [.int (x), .int (f)]) (rest := []) S (r_wrong hR hrb hm hfl x f) cal_X10_wrong in_483 in_484 in_485 in_5 hK hN hG hR.obj rfl rfl rfl hl.1 (Nat.le_of_ble_eq_true rfl) ⟨by decide, by decide⟩ ⟨rfl, rfl⟩ ⟨by decide, by decide⟩ dX10_load_8 (fun v w H locs hp hG => ?_)
  obtain ⟨rfl, hw9⟩ := hp
  rw [hw9] at hG
  refine W.eq (g2 := F0 m 11 ls [.int (tgC (tgt fl root x f))]) rfl ?_
  refine lv_istore (lv' := [(4, .int (tgC (tgt fl root x f))), (0, .ref (q 0)), (1, .int (r)), (2, .int (x)), (3, .int (f))]) S.1 S.2.1 dX10_load_11 hl (by decide) rfl (fun ls hl => ?_)
  refine lv_iload_n S.1 S.2.1 dX10_load_13 rfl (lv_at hl 2 rfl) ?_
  refine mCS (As := [.int (r)]) (rest := []) S (r_isRoot r) cal_X10_isRoot rfl in_382 in_383 in_5 hK hN hG rfl rfl hl.1 (Nat.le_of_ble_eq_true rfl) ⟨by decide, by decide⟩ ⟨rfl, rfl⟩ ⟨by decide, by decide⟩ dX10_load_14 (fun v w H locs hp hG => ?_)
  obtain ⟨rfl, hw9⟩ := hp
  rw [hw9] at hG
  refine W.eq (g2 := F0 m 17 ls [.int (bI (inR 16 r))]) rfl ?_
  refine lv_if_ne (tgt := 23) S.1 S.2.1 dX10_load_17 (by decide) (fun c1 => ?_) (fun c1 => ?_)
  · obtain ⟨k, hk, rfl⟩ := inR_ex (by decide) (bI_t c1)
    refine lv_iload S.1 S.2.1 dX10_load_23 (lv_at hl 0 rfl) ?_
    cases ht : tgt fl root x f with
    | inl cd =>
      have hcd := tgC_ne (tgt_inl ht)
      rw [ht] at hl
      rw [lod_c hk ht]
      refine W.eq (g2 := F0 m 25 ls [.int cd]) rfl ?_
      have hl : lv_has ls 6 [(4, .int (cd)), (0, .ref (q 0)), (1, .int (nI (k))), (2, .int (x)), (3, .int (f))] := hl
      refine lv_if_eq (tgt := 31) S.1 S.2.1 dX10_load_25 (by decide) (fun c2 => ?_) (fun c2 => ?_)
      · exact absurd c2 hcd
      · refine lv_iload S.1 S.2.1 dX10_load_28 (lv_at hl 0 rfl) ?_
        exact mw_iret S hr hlk hK hG dX10_load_30 ⟨rfl, hR⟩
    | inr oi =>
      obtain ⟨o, i⟩ := oi
      obtain ⟨j, hj, rfl, rfl, hi, hjo, hif⟩ := tgt_inr ht
      have hom := hrb j hj o hjo
      rw [ht] at hl
      refine W.eq (g2 := F0 m 25 ls [.int 0]) rfl ?_
      have hl : lv_has ls 6 [(4, .int (0)), (0, .ref (q 0)), (1, .int (nI (k))), (2, .int (nI (j))), (3, .int (nI (i)))] := hl
      refine lv_if_eq (tgt := 31) S.1 S.2.1 dX10_load_25 (by decide) (fun c2 => ?_) (fun c2 => ?_)
      · have htb : ∀ t, rfs o i = some t → t < 2147483648 := fun t ht9 => by have := hfb o hom i hif t ht9; omega
        refine lv_aload_n S.1 S.2.1 dX10_load_31 rfl (lv_at hl 1 rfl) ?_
        refine rg_rfs S hK hG hR dX10_load_32 ?_
        refine lv_bipush (v := nI (6)) S.1 S.2.1 dX10_load_35 (by decide) ?_
        refine lv_aload_n S.1 S.2.1 dX10_load_37 rfl (lv_at hl 1 rfl) ?_
        refine rg_root S hK hG hR dX10_load_38 ?_
        refine lv_iload_n S.1 S.2.1 dX10_load_41 rfl (lv_at hl 3 rfl) ?_
        refine rl_root S hK hG hR (j) (by omega) dX10_load_42 ?_
        refine lv_eqi (y := nI (o)) (by rw [hjo]; rfl) ?_
        refine lv_imul S.1 S.2.1 dX10_load_43 ?_
        refine lv_eqi (pk_mul _ _) ?_
        refine lv_iload_n S.1 S.2.1 dX10_load_44 rfl (lv_at hl 4 rfl) ?_
        refine lv_iadd S.1 S.2.1 dX10_load_45 ?_
        refine lv_eqi (nI_add _ _) ?_
        refine rl_rfs S hK hG hR (o) (i) (by omega) (by omega) dX10_load_46 ?_
        refine lv_istore (lv' := [(5, .int (oI (rfs o i))), (4, .int (0)), (0, .ref (q 0)), (1, .int (nI (k))), (2, .int (nI (j))), (3, .int (nI (i)))]) S.1 S.2.1 dX10_load_47 hl (by decide) rfl (fun ls hl => ?_)
        refine lv_iload S.1 S.2.1 dX10_load_49 (lv_at hl 0 rfl) ?_
        refine lv_iconst (v := -1) S.1 S.2.1 dX10_load_51 (by decide) ?_
        refine lv_icmp_ne (tgt := 58) S.1 S.2.1 dX10_load_52 (by decide) (fun c3 => ?_) (fun c3 => ?_)
        · obtain ⟨u, hu⟩ : ∃ u, rfs o i = some u := by
            cases h : rfs o i with
            | none => exact absurd ((oI_m1 htb).mpr h) c3
            | some u => exact ⟨u, rfl⟩
          rw [lod_o hk ht hu]
          rw [hu] at hl
          have hl : lv_has ls 6 [(5, .int (nI (u))), (4, .int (0)), (0, .ref (q 0)), (1, .int (nI (k))), (2, .int (nI (j))), (3, .int (nI (i)))] := hl
          refine lv_aload_n S.1 S.2.1 dX10_load_58 rfl (lv_at hl 2 rfl) ?_
          refine rg_root S hK hG hR dX10_load_59 ?_
          refine lv_iload_n S.1 S.2.1 dX10_load_62 rfl (lv_at hl 3 rfl) ?_
          refine lv_iload S.1 S.2.1 dX10_load_63 (lv_at hl 0 rfl) ?_
          refine rs_root S hK hG hR (k) (some (u)) (by omega) dX10_load_65 (fun w H locs hR hG => ?_)
          refine lv_iload S.1 S.2.1 dX10_load_66 (lv_at hl 0 rfl) ?_
          exact mw_iret S hr hlk hK hG dX10_load_68 ⟨rfl, hR⟩
        · rw [lod_n hk ht ((oI_m1 htb).mp c3)]
          refine lv_bipush (v := -3) S.1 S.2.1 dX10_load_55 (by decide) ?_
          exact mw_iret S hr hlk hK hG dX10_load_57 ⟨rfl, hR⟩
      · exact absurd rfl c2
  · rw [lod_b (bI_f c1)]
    refine lv_bipush (v := -2) S.1 S.2.1 dX10_load_20 (by decide) ?_
    exact mw_iret S hr hlk hK hG dX10_load_22 ⟨rfl, hR⟩
theorem cal_X10_copy : mCal yX10_copy cX10_copy 3 2 (some .int) := ⟨in_548, by decide +kernel⟩
set_option maxHeartbeats 4000000 in
set_option maxRecDepth 100000 in
theorem r_copy {l : Launch} {dC : Nat → ClassId} {dI : Nat → Nat → Nat} {cI cZ cT : ClassId} {q : Nat → Nat} {thr : Int32} {kp : Nat} {Wn : Nat} {made : Nat} {adr : (Nat → Option Nat)} {fl : (Nat → Nat)} {rem : (Nat → Bool)} {num : (Nat → Nat → Int32)} {rfs : (Nat → Nat → Option Nat)} {root : (Nat → Option Nat)} {own : (Nat → Option Nat)} {half : Nat} {top : Nat} {coll : Nat} {mins : Nat} {movd : Nat} {size : Nat} {row : (Nat → Nat)} {plc : (Nat → Option Nat)} {old : (Nat → Option Nat)} {w : mM} (hR : RW cI cZ q thr kp Wn made adr fl rem num rfs root own half top coll mins movd size row plc old w) (hrb : ∀ j, j < 16 → ∀ o, root j = some o → o < made) (hm : made ≤ 2000) (hfl : ∀ o, o < made → fl o ≤ 6) (x y : Int32) : mC l yX10_copy (wsY yX10_copy cX10_copy 3 (some .int)) { frames := 2, cells := 0, slots := 0, locals := 42 } (dC, dI) vwCl (tyL cI cZ cT) 0 0 w [.ref (q 0), .int (x), .int (y)] (fun v w2 => v = some (.int (if inR 16 x = true ∧ inR 16 y = true then oI (root y.toNatClampNeg) else -2)) ∧ RW cI cZ q 0 kp Wn made adr fl rem num rfs ((if inR 16 x = true ∧ inR 16 y = true then va_up root x.toNatClampNeg (root y.toNatClampNeg) else root)) own half top coll mins movd size row plc old w2) := by
  refine mC.on (by decide) (Nat.le_of_ble_eq_true rfl) ?_
  intro p e s m args below meth c ls S hr hlk hnm hK hN hG hl
  have hl : lv_has ls 3 [(0, .ref (q 0)), (1, .int (x)), (2, .int (y))] := hl
  generalize hAe : mA w s.heap.size = A at hG ⊢
  refine lv_aload_n S.1 S.2.1 dX10_copy_0 rfl (lv_at hl 0 rfl) ?_
  refine lv_iconst (v := 0) S.1 S.2.1 dX10_copy_1 (by decide) ?_
  refine rp_thr S hK hG hR (0) dX10_copy_2 (fun w H locs hR hG => ?_)
  refine lv_iload_n S.1 S.2.1 dX10_copy_5 rfl (lv_at hl 1 rfl) ?_
  refine mCS (As := [.int (x)]) (rest := []) S (r_isRoot x) cal_X10_isRoot rfl in_382 in_383 in_5 hK hN hG rfl rfl hl.1 (Nat.le_of_ble_eq_true rfl) ⟨by decide, by decide⟩ ⟨rfl, rfl⟩ ⟨by decide, by decide⟩ dX10_copy_6 (fun v w H locs hp hG => ?_)
  obtain ⟨rfl, hw9⟩ := hp
  rw [hw9] at hG
  refine W.eq (g2 := F0 m 9 ls [.int (bI (inR 16 x))]) rfl ?_
  refine lv_if_eq (tgt := 19) S.1 S.2.1 dX10_copy_9 (by decide) (fun c1 => ?_) (fun c1 => ?_)
  · rw [if_neg (by rw [bI_f c1]; simp), if_neg (by rw [bI_f c1]; simp)]
    refine lv_bipush (v := -2) S.1 S.2.1 dX10_copy_19 (by decide) ?_
    exact mw_iret S hr hlk hK hG dX10_copy_21 ⟨rfl, hR⟩
  · obtain ⟨j, hj, rfl⟩ := inR_ex (by omega) (bI_t c1)
    refine lv_iload_n S.1 S.2.1 dX10_copy_12 rfl (lv_at hl 2 rfl) ?_
    refine mCS (As := [.int (y)]) (rest := []) S (r_isRoot y) cal_X10_isRoot rfl in_382 in_383 in_5 hK hN hG rfl rfl hl.1 (Nat.le_of_ble_eq_true rfl) ⟨by decide, by decide⟩ ⟨rfl, rfl⟩ ⟨by decide, by decide⟩ dX10_copy_13 (fun v w H locs hp hG => ?_)
    obtain ⟨rfl, hw9⟩ := hp
    rw [hw9] at hG
    refine W.eq (g2 := F0 m 16 ls [.int (bI (inR 16 y))]) rfl ?_
    refine lv_if_ne (tgt := 22) S.1 S.2.1 dX10_copy_16 (by decide) (fun c2 => ?_) (fun c2 => ?_)
    · obtain ⟨k, hk, rfl⟩ := inR_ex (by omega) (bI_t c2)
      rw [if_pos ⟨inR_nI hj (by decide), inR_nI hk (by decide)⟩, if_pos ⟨inR_nI hj (by decide), inR_nI hk (by decide)⟩, nI_clamp (by omega), nI_clamp (by omega)]
      refine lv_aload_n S.1 S.2.1 dX10_copy_22 rfl (lv_at hl 0 rfl) ?_
      refine rg_root S hK hG hR dX10_copy_23 ?_
      refine lv_iload_n S.1 S.2.1 dX10_copy_26 rfl (lv_at hl 1 rfl) ?_
      refine lv_aload_n S.1 S.2.1 dX10_copy_27 rfl (lv_at hl 0 rfl) ?_
      refine rg_root S hK hG hR dX10_copy_28 ?_
      refine lv_iload_n S.1 S.2.1 dX10_copy_31 rfl (lv_at hl 2 rfl) ?_
      refine rl_root S hK hG hR (k) (by omega) dX10_copy_32 ?_
      refine rs_root S hK hG hR (j) (root k) (by omega) dX10_copy_33 (fun w H locs hR hG => ?_)
      refine lv_aload_n S.1 S.2.1 dX10_copy_34 rfl (lv_at hl 0 rfl) ?_
      refine rg_root S hK hG hR dX10_copy_35 ?_
      refine lv_iload_n S.1 S.2.1 dX10_copy_38 rfl (lv_at hl 1 rfl) ?_
      refine rl_root S hK hG hR (j) (by omega) dX10_copy_39 ?_
      exact mw_iret S hr hlk hK hG dX10_copy_40 ⟨by unfold va_up; rw [if_pos rfl], hR⟩
    · rw [if_neg (by rw [bI_f c2]; simp), if_neg (by rw [bI_f c2]; simp)]
      refine lv_bipush (v := -2) S.1 S.2.1 dX10_copy_19 (by decide) ?_
      exact mw_iret S hr hlk hK hG dX10_copy_21 ⟨rfl, hR⟩
theorem cal_X10_drop : mCal yX10_drop cX10_drop 3 1 (some .int) := ⟨in_556, by decide +kernel⟩
set_option maxHeartbeats 4000000 in
set_option maxRecDepth 100000 in
theorem r_drop {l : Launch} {dC : Nat → ClassId} {dI : Nat → Nat → Nat} {cI cZ cT : ClassId} {q : Nat → Nat} {thr : Int32} {kp : Nat} {Wn : Nat} {made : Nat} {adr : (Nat → Option Nat)} {fl : (Nat → Nat)} {rem : (Nat → Bool)} {num : (Nat → Nat → Int32)} {rfs : (Nat → Nat → Option Nat)} {root : (Nat → Option Nat)} {own : (Nat → Option Nat)} {half : Nat} {top : Nat} {coll : Nat} {mins : Nat} {movd : Nat} {size : Nat} {row : (Nat → Nat)} {plc : (Nat → Option Nat)} {old : (Nat → Option Nat)} {w : mM} (hR : RW cI cZ q thr kp Wn made adr fl rem num rfs root own half top coll mins movd size row plc old w) (hrb : ∀ j, j < 16 → ∀ o, root j = some o → o < made) (hm : made ≤ 2000) (hfl : ∀ o, o < made → fl o ≤ 6) (x : Int32) : mC l yX10_drop (wsY yX10_drop cX10_drop 3 (some .int)) { frames := 2, cells := 0, slots := 0, locals := 42 } (dC, dI) vwCl (tyL cI cZ cT) 0 0 w [.ref (q 0), .int (x)] (fun v w2 => v = some (.int (if inR 16 x = true then bI (root x.toNatClampNeg).isSome else -2)) ∧ RW cI cZ q 0 kp Wn made adr fl rem num rfs ((if inR 16 x = true then va_up root x.toNatClampNeg none else root)) own half top coll mins movd size row plc old w2) := by
  refine mC.on (by decide) (Nat.le_of_ble_eq_true rfl) ?_
  intro p e s m args below meth c ls S hr hlk hnm hK hN hG hl
  have hl : lv_has ls 3 [(0, .ref (q 0)), (1, .int (x))] := hl
  generalize hAe : mA w s.heap.size = A at hG ⊢
  refine lv_aload_n S.1 S.2.1 dX10_drop_0 rfl (lv_at hl 0 rfl) ?_
  refine lv_iconst (v := 0) S.1 S.2.1 dX10_drop_1 (by decide) ?_
  refine rp_thr S hK hG hR (0) dX10_drop_2 (fun w H locs hR hG => ?_)
  refine lv_iload_n S.1 S.2.1 dX10_drop_5 rfl (lv_at hl 1 rfl) ?_
  refine mCS (As := [.int (x)]) (rest := []) S (r_isRoot x) cal_X10_isRoot rfl in_382 in_383 in_5 hK hN hG rfl rfl hl.1 (Nat.le_of_ble_eq_true rfl) ⟨by decide, by decide⟩ ⟨rfl, rfl⟩ ⟨by decide, by decide⟩ dX10_drop_6 (fun v w H locs hp hG => ?_)
  obtain ⟨rfl, hw9⟩ := hp
  rw [hw9] at hG
  refine W.eq (g2 := F0 m 9 ls [.int (bI (inR 16 x))]) rfl ?_
  refine lv_if_ne (tgt := 15) S.1 S.2.1 dX10_drop_9 (by decide) (fun c1 => ?_) (fun c1 => ?_)
  · obtain ⟨j, hj, rfl⟩ := inR_ex (by omega) (bI_t c1)
    rw [if_pos (inR_nI hj (by decide)), if_pos (inR_nI hj (by decide)), nI_clamp (by omega)]
    have hob : ∀ u, root j = some u → u < 2147483648 := fun u hu => by have := hrb j hj u hu; omega
    refine lv_aload_n S.1 S.2.1 dX10_drop_15 rfl (lv_at hl 0 rfl) ?_
    refine rg_root S hK hG hR dX10_drop_16 ?_
    refine lv_iload_n S.1 S.2.1 dX10_drop_19 rfl (lv_at hl 1 rfl) ?_
    refine rl_root S hK hG hR (j) (by omega) dX10_drop_20 ?_
    refine lv_iconst (v := -1) S.1 S.2.1 dX10_drop_21 (by decide) ?_
    refine lv_icmp_ne (tgt := 29) S.1 S.2.1 dX10_drop_22 (by decide) (fun c2 => ?_) (fun c2 => ?_)
    · refine lv_iconst (v := nI (1)) S.1 S.2.1 dX10_drop_29 (by decide) ?_
      refine lv_istore_n (lv' := [(2, .int (nI (1))), (0, .ref (q 0)), (1, .int (nI (j)))]) S.1 S.2.1 dX10_drop_30 rfl hl (by decide) rfl (fun ls hl => ?_)
      refine lv_aload_n S.1 S.2.1 dX10_drop_31 rfl (lv_at hl 1 rfl) ?_
      refine rg_root S hK hG hR dX10_drop_32 ?_
      refine lv_iload_n S.1 S.2.1 dX10_drop_35 rfl (lv_at hl 2 rfl) ?_
      refine lv_iconst (v := -1) S.1 S.2.1 dX10_drop_36 (by decide) ?_
      refine rs_root S hK hG hR (j) (none) (by omega) dX10_drop_37 (fun w H locs hR hG => ?_)
      refine lv_iload_n S.1 S.2.1 dX10_drop_38 rfl (lv_at hl 0 rfl) ?_
      cases hz : root j with
      | none => exact absurd ((oI_m1 hob).mpr hz) c2
      | some u => exact mw_iret S hr hlk hK hG dX10_drop_39 ⟨rfl, hR⟩
    · refine lv_iconst (v := nI (0)) S.1 S.2.1 dX10_drop_25 (by decide) ?_
      refine lv_goto (tgt := 30) S.1 S.2.1 dX10_drop_26 (by decide) ?_
      refine lv_istore_n (lv' := [(2, .int (nI (0))), (0, .ref (q 0)), (1, .int (nI (j)))]) S.1 S.2.1 dX10_drop_30 rfl hl (by decide) rfl (fun ls hl => ?_)
      refine lv_aload_n S.1 S.2.1 dX10_drop_31 rfl (lv_at hl 1 rfl) ?_
      refine rg_root S hK hG hR dX10_drop_32 ?_
      refine lv_iload_n S.1 S.2.1 dX10_drop_35 rfl (lv_at hl 2 rfl) ?_
      refine lv_iconst (v := -1) S.1 S.2.1 dX10_drop_36 (by decide) ?_
      refine rs_root S hK hG hR (j) (none) (by omega) dX10_drop_37 (fun w H locs hR hG => ?_)
      refine lv_iload_n S.1 S.2.1 dX10_drop_38 rfl (lv_at hl 0 rfl) ?_
      exact mw_iret S hr hlk hK hG dX10_drop_39 ⟨by rw [(oI_m1 hob).mp c2]; rfl, hR⟩
  · rw [if_neg (by rw [bI_f c1]; simp), if_neg (by rw [bI_f c1]; simp)]
    refine lv_bipush (v := -2) S.1 S.2.1 dX10_drop_12 (by decide) ?_
    exact mw_iret S hr hlk hK hG dX10_drop_14 ⟨rfl, hR⟩
theorem cal_X10_same : mCal yX10_same cX10_same 3 2 (some .int) := ⟨in_647, by decide +kernel⟩
set_option maxHeartbeats 4000000 in
set_option maxRecDepth 100000 in
theorem r_same {l : Launch} {dC : Nat → ClassId} {dI : Nat → Nat → Nat} {cI cZ cT : ClassId} {q : Nat → Nat} {thr : Int32} {kp : Nat} {Wn : Nat} {made : Nat} {adr : (Nat → Option Nat)} {fl : (Nat → Nat)} {rem : (Nat → Bool)} {num : (Nat → Nat → Int32)} {rfs : (Nat → Nat → Option Nat)} {root : (Nat → Option Nat)} {own : (Nat → Option Nat)} {half : Nat} {top : Nat} {coll : Nat} {mins : Nat} {movd : Nat} {size : Nat} {row : (Nat → Nat)} {plc : (Nat → Option Nat)} {old : (Nat → Option Nat)} {w : mM} (hR : RW cI cZ q thr kp Wn made adr fl rem num rfs root own half top coll mins movd size row plc old w) (hrb : ∀ j, j < 16 → ∀ o, root j = some o → o < made) (hm : made ≤ 2000) (hfl : ∀ o, o < made → fl o ≤ 6) (x y : Int32) : mC l yX10_same (wsY yX10_same cX10_same 3 (some .int)) { frames := 2, cells := 0, slots := 0, locals := 42 } (dC, dI) vwCl (tyL cI cZ cT) 0 0 w [.ref (q 0), .int (x), .int (y)] (fun v w2 => v = some (.int (if inR 16 x = true ∧ inR 16 y = true then bI (decide (root x.toNatClampNeg = root y.toNatClampNeg)) else -2)) ∧ RW cI cZ q 0 kp Wn made adr fl rem num rfs root own half top coll mins movd size row plc old w2) := by
  refine mC.on (by decide) (Nat.le_of_ble_eq_true rfl) ?_
  intro p e s m args below meth c ls S hr hlk hnm hK hN hG hl
  have hl : lv_has ls 3 [(0, .ref (q 0)), (1, .int (x)), (2, .int (y))] := hl
  generalize hAe : mA w s.heap.size = A at hG ⊢
  refine lv_aload_n S.1 S.2.1 dX10_same_0 rfl (lv_at hl 0 rfl) ?_
  refine lv_iconst (v := 0) S.1 S.2.1 dX10_same_1 (by decide) ?_
  refine rp_thr S hK hG hR (0) dX10_same_2 (fun w H locs hR hG => ?_)
  refine lv_iload_n S.1 S.2.1 dX10_same_5 rfl (lv_at hl 1 rfl) ?_
  refine mCS (As := [.int (x)]) (rest := []) S (r_isRoot x) cal_X10_isRoot rfl in_382 in_383 in_5 hK hN hG rfl rfl hl.1 (Nat.le_of_ble_eq_true rfl) ⟨by decide, by decide⟩ ⟨rfl, rfl⟩ ⟨by decide, by decide⟩ dX10_same_6 (fun v w H locs hp hG => ?_)
  obtain ⟨rfl, hw9⟩ := hp
  rw [hw9] at hG
  refine W.eq (g2 := F0 m 9 ls [.int (bI (inR 16 x))]) rfl ?_
  refine lv_if_eq (tgt := 19) S.1 S.2.1 dX10_same_9 (by decide) (fun c1 => ?_) (fun c1 => ?_)
  · rw [if_neg (by rw [bI_f c1]; simp)]
    refine lv_bipush (v := -2) S.1 S.2.1 dX10_same_19 (by decide) ?_
    refine lv_goto (tgt := 44) S.1 S.2.1 dX10_same_21 (by decide) ?_
    exact mw_iret S hr hlk hK hG dX10_same_44 ⟨rfl, hR⟩
  · obtain ⟨j, hj, rfl⟩ := inR_ex (by omega) (bI_t c1)
    refine lv_iload_n S.1 S.2.1 dX10_same_12 rfl (lv_at hl 2 rfl) ?_
    refine mCS (As := [.int (y)]) (rest := []) S (r_isRoot y) cal_X10_isRoot rfl in_382 in_383 in_5 hK hN hG rfl rfl hl.1 (Nat.le_of_ble_eq_true rfl) ⟨by decide, by decide⟩ ⟨rfl, rfl⟩ ⟨by decide, by decide⟩ dX10_same_13 (fun v w H locs hp hG => ?_)
    obtain ⟨rfl, hw9⟩ := hp
    rw [hw9] at hG
    refine W.eq (g2 := F0 m 16 ls [.int (bI (inR 16 y))]) rfl ?_
    refine lv_if_ne (tgt := 24) S.1 S.2.1 dX10_same_16 (by decide) (fun c2 => ?_) (fun c2 => ?_)
    · obtain ⟨k, hk, rfl⟩ := inR_ex (by omega) (bI_t c2)
      rw [if_pos ⟨inR_nI hj (by decide), inR_nI hk (by decide)⟩, nI_clamp (by omega), nI_clamp (by omega)]
      refine lv_aload_n S.1 S.2.1 dX10_same_24 rfl (lv_at hl 0 rfl) ?_
      refine rg_root S hK hG hR dX10_same_25 ?_
      refine lv_iload_n S.1 S.2.1 dX10_same_28 rfl (lv_at hl 1 rfl) ?_
      refine rl_root S hK hG hR (j) (by omega) dX10_same_29 ?_
      refine lv_aload_n S.1 S.2.1 dX10_same_30 rfl (lv_at hl 0 rfl) ?_
      refine rg_root S hK hG hR dX10_same_31 ?_
      refine lv_iload_n S.1 S.2.1 dX10_same_34 rfl (lv_at hl 2 rfl) ?_
      refine rl_root S hK hG hR (k) (by omega) dX10_same_35 ?_
      refine lv_icmp_ne (tgt := 43) S.1 S.2.1 dX10_same_36 (by decide) (fun c3 => ?_) (fun c3 => ?_)
      · refine lv_iconst (v := nI (0)) S.1 S.2.1 dX10_same_43 (by decide) ?_
        exact mw_iret S hr hlk hK hG dX10_same_44 ⟨by rw [decide_eq_false (fun z => c3 (congrArg oI z))]; rfl, hR⟩
      · refine lv_iconst (v := nI (1)) S.1 S.2.1 dX10_same_39 (by decide) ?_
        refine lv_goto (tgt := 44) S.1 S.2.1 dX10_same_40 (by decide) ?_
        exact mw_iret S hr hlk hK hG dX10_same_44 ⟨by rw [decide_eq_true (oI_inj (fun u hu => by have := hrb j hj u hu; omega) (fun u hu => by have := hrb k hk u hu; omega) c3)]; rfl, hR⟩
    · rw [if_neg (by rw [bI_f c2]; simp)]
      refine lv_bipush (v := -2) S.1 S.2.1 dX10_same_19 (by decide) ?_
      refine lv_goto (tgt := 44) S.1 S.2.1 dX10_same_21 (by decide) ?_
      exact mw_iret S hr hlk hK hG dX10_same_44 ⟨rfl, hR⟩
theorem cal_X10_at : mCal yX10_at cX10_at 2 1 (some .int) := ⟨in_605, by decide +kernel⟩
set_option maxHeartbeats 4000000 in
set_option maxRecDepth 100000 in
theorem r_at {l : Launch} {dC : Nat → ClassId} {dI : Nat → Nat → Nat} {cI cZ cT : ClassId} {q : Nat → Nat} {thr : Int32} {kp : Nat} {Wn : Nat} {made : Nat} {adr : (Nat → Option Nat)} {fl : (Nat → Nat)} {rem : (Nat → Bool)} {num : (Nat → Nat → Int32)} {rfs : (Nat → Nat → Option Nat)} {root : (Nat → Option Nat)} {own : (Nat → Option Nat)} {half : Nat} {top : Nat} {coll : Nat} {mins : Nat} {movd : Nat} {size : Nat} {row : (Nat → Nat)} {plc : (Nat → Option Nat)} {old : (Nat → Option Nat)} {w : mM} (hR : RW cI cZ q thr kp Wn made adr fl rem num rfs root own half top coll mins movd size row plc old w) (hW : Wn ≤ 400) (hW1 : 1 ≤ Wn) (x : Int32) : mC l yX10_at (wsY yX10_at cX10_at 2 (some .int)) { frames := 1, cells := 0, slots := 0, locals := 22 } (dC, dI) vwCl (tyL cI cZ cT) 0 0 w [.ref (q 0), .int (x)] (fun v w2 => v = some (.int (if inR Wn x = true then oI (own x.toNatClampNeg) else -2)) ∧ RW cI cZ q 0 kp Wn made adr fl rem num rfs root own half top coll mins movd size row plc old w2) := by
  refine mC.on (by decide) (Nat.le_of_ble_eq_true rfl) ?_
  intro p e s m args below meth c ls S hr hlk hnm hK hN hG hl
  have hl : lv_has ls 2 [(0, .ref (q 0)), (1, .int (x))] := hl
  generalize hAe : mA w s.heap.size = A at hG ⊢
  refine lv_aload_n S.1 S.2.1 dX10_at_0 rfl (lv_at hl 0 rfl) ?_
  refine lv_iconst (v := 0) S.1 S.2.1 dX10_at_1 (by decide) ?_
  refine rp_thr S hK hG hR (0) dX10_at_2 (fun w H locs hR hG => ?_)
  refine lv_iload_n S.1 S.2.1 dX10_at_5 rfl (lv_at hl 1 rfl) ?_
  refine lv_iconst (v := nI (0)) S.1 S.2.1 dX10_at_6 (by decide) ?_
  refine lv_aload_n S.1 S.2.1 dX10_at_7 rfl (lv_at hl 0 rfl) ?_
  refine rg_Wn S hK hG hR dX10_at_8 ?_
  refine lv_iconst (v := nI (1)) S.1 S.2.1 dX10_at_11 (by decide) ?_
  refine lv_isub S.1 S.2.1 dX10_at_12 ?_
  refine lv_eqi (pk_sub (by omega)) ?_
  refine mCS (As := [.int (x), .int (nI (0)), .int (nI (Wn - 1))]) (rest := []) S (r_in x (Wn - 1) (by omega)) cal_X10_in rfl in_385 in_386 in_5 hK hN hG rfl rfl hl.1 (Nat.le_of_ble_eq_true rfl) ⟨by decide, by decide⟩ ⟨rfl, rfl⟩ ⟨by decide, by decide⟩ dX10_at_13 (fun v w H locs hp hG => ?_)
  obtain ⟨rfl, hw9⟩ := hp
  rw [hw9] at hG
  rw [show Wn - 1 + 1 = Wn by omega]
  refine W.eq (g2 := F0 m 16 ls [.int (bI (inR Wn x))]) rfl ?_
  refine lv_if_eq (tgt := 28) S.1 S.2.1 dX10_at_16 (by decide) (fun c1 => ?_) (fun c1 => ?_)
  · rw [if_neg (by rw [bI_f c1]; simp)]
    refine lv_bipush (v := -2) S.1 S.2.1 dX10_at_28 (by decide) ?_
    exact mw_iret S hr hlk hK hG dX10_at_30 ⟨rfl, hR⟩
  · obtain ⟨j, hj, rfl⟩ := inR_ex (by omega) (bI_t c1)
    rw [if_pos (inR_nI hj (by omega)), nI_clamp (by omega)]
    refine lv_aload_n S.1 S.2.1 dX10_at_19 rfl (lv_at hl 0 rfl) ?_
    refine rg_own S hK hG hR dX10_at_20 ?_
    refine lv_iload_n S.1 S.2.1 dX10_at_23 rfl (lv_at hl 1 rfl) ?_
    refine rl_own S hK hG hR (j) (by omega) dX10_at_24 ?_
    refine lv_goto (tgt := 30) S.1 S.2.1 dX10_at_25 (by decide) ?_
    exact mw_iret S hr hlk hK hG dX10_at_30 ⟨rfl, hR⟩
theorem cal_X10_object : mCal yX10_object cX10_object 4 2 (some .int) := ⟨in_595, by decide +kernel⟩
set_option maxHeartbeats 4000000 in
set_option maxRecDepth 100000 in
theorem r_object {l : Launch} {dC : Nat → ClassId} {dI : Nat → Nat → Nat} {cI cZ cT : ClassId} {q : Nat → Nat} {thr : Int32} {kp : Nat} {Wn : Nat} {made : Nat} {adr : (Nat → Option Nat)} {fl : (Nat → Nat)} {rem : (Nat → Bool)} {num : (Nat → Nat → Int32)} {rfs : (Nat → Nat → Option Nat)} {root : (Nat → Option Nat)} {own : (Nat → Option Nat)} {half : Nat} {top : Nat} {coll : Nat} {mins : Nat} {movd : Nat} {size : Nat} {row : (Nat → Nat)} {plc : (Nat → Option Nat)} {old : (Nat → Option Nat)} {w : mM} (hR : RW cI cZ q thr kp Wn made adr fl rem num rfs root own half top coll mins movd size row plc old w) (hrb : ∀ j, j < 16 → ∀ o, root j = some o → o < made) (hm : made ≤ 2000) (hfl : ∀ o, o < made → fl o ≤ 6) (hkp : kp ≤ 2) (hW : Wn ≤ 400) (hab : ∀ o, o < made → ∀ a, adr o = some a → a < 2147483648) (x y : Int32) : mC l yX10_object (wsY yX10_object cX10_object 4 (some .int)) { frames := 2, cells := 0, slots := 0, locals := 42 } (dC, dI) vwCl (tyL cI cZ cT) 0 0 w [.ref (q 0), .int (x), .int (y)] (fun v w2 => v = some (.int (if inR 16 x = true ∧ inR 5 y = true then (match root x.toNatClampNeg with | none => -3 | some o => (if y = nI 0 then nI o else if y = nI 1 then oI (adr o) else if y = nI 2 then nI (fl o) else if y = nI 3 then bI (isOldR kp Wn adr o) else bI (rem o))) else -2)) ∧ RW cI cZ q 0 kp Wn made adr fl rem num rfs root own half top coll mins movd size row plc old w2) := by
  refine mC.on (by decide) (Nat.le_of_ble_eq_true rfl) ?_
  intro p e s m args below meth c ls S hr hlk hnm hK hN hG hl
  have hl : lv_has ls 4 [(0, .ref (q 0)), (1, .int (x)), (2, .int (y))] := hl
  generalize hAe : mA w s.heap.size = A at hG ⊢
  refine lv_aload_n S.1 S.2.1 dX10_object_0 rfl (lv_at hl 0 rfl) ?_
  refine lv_iconst (v := 0) S.1 S.2.1 dX10_object_1 (by decide) ?_
  refine rp_thr S hK hG hR (0) dX10_object_2 (fun w H locs hR hG => ?_)
  refine lv_iload_n S.1 S.2.1 dX10_object_5 rfl (lv_at hl 1 rfl) ?_
  refine mCS (As := [.int (x)]) (rest := []) S (r_isRoot x) cal_X10_isRoot rfl in_382 in_383 in_5 hK hN hG rfl rfl hl.1 (Nat.le_of_ble_eq_true rfl) ⟨by decide, by decide⟩ ⟨rfl, rfl⟩ ⟨by decide, by decide⟩ dX10_object_6 (fun v w H locs hp hG => ?_)
  obtain ⟨rfl, hw9⟩ := hp
  rw [hw9] at hG
  refine W.eq (g2 := F0 m 9 ls [.int (bI (inR 16 x))]) rfl ?_
  refine lv_if_eq (tgt := 21) S.1 S.2.1 dX10_object_9 (by decide) (fun c1 => ?_) (fun c1 => ?_)
  · rw [if_neg (by rw [bI_f c1]; simp)]
    refine lv_bipush (v := -2) S.1 S.2.1 dX10_object_21 (by decide) ?_
    exact mw_iret S hr hlk hK hG dX10_object_23 ⟨rfl, hR⟩
  · obtain ⟨j, hj, rfl⟩ := inR_ex (by omega) (bI_t c1)
    refine lv_iload_n S.1 S.2.1 dX10_object_12 rfl (lv_at hl 2 rfl) ?_
    refine lv_iconst (v := nI (0)) S.1 S.2.1 dX10_object_13 (by decide) ?_
    refine lv_iconst (v := nI (4)) S.1 S.2.1 dX10_object_14 (by decide) ?_
    refine mCS (As := [.int (y), .int (nI (0)), .int (nI (4))]) (rest := []) S (r_in y 4 (by decide)) cal_X10_in rfl in_385 in_386 in_5 hK hN hG rfl rfl hl.1 (Nat.le_of_ble_eq_true rfl) ⟨by decide, by decide⟩ ⟨rfl, rfl⟩ ⟨by decide, by decide⟩ dX10_object_15 (fun v w H locs hp hG => ?_)
    obtain ⟨rfl, hw9⟩ := hp
    rw [hw9] at hG
    refine W.eq (g2 := F0 m 18 ls [.int (bI (inR 5 y))]) rfl ?_
    refine lv_if_ne (tgt := 24) S.1 S.2.1 dX10_object_18 (by decide) (fun c2 => ?_) (fun c2 => ?_)
    · rw [if_pos ⟨inR_nI hj (by decide), bI_t c2⟩, nI_clamp (by omega)]
      have hob : ∀ u, root j = some u → u < 2147483648 := fun u hu => by have := hrb j hj u hu; omega
      refine lv_aload_n S.1 S.2.1 dX10_object_24 rfl (lv_at hl 0 rfl) ?_
      refine rg_root S hK hG hR dX10_object_25 ?_
      refine lv_iload_n S.1 S.2.1 dX10_object_28 rfl (lv_at hl 1 rfl) ?_
      refine rl_root S hK hG hR (j) (by omega) dX10_object_29 ?_
      refine lv_istore_n (lv' := [(3, .int (oI (root j))), (0, .ref (q 0)), (1, .int (nI (j))), (2, .int (y))]) S.1 S.2.1 dX10_object_30 rfl hl (by decide) rfl (fun ls hl => ?_)
      refine lv_iload_n S.1 S.2.1 dX10_object_31 rfl (lv_at hl 0 rfl) ?_
      refine lv_iconst (v := -1) S.1 S.2.1 dX10_object_32 (by decide) ?_
      refine lv_icmp_ne (tgt := 39) S.1 S.2.1 dX10_object_33 (by decide) (fun c3 => ?_) (fun c3 => ?_)
      · obtain ⟨o, ho⟩ : ∃ o, root j = some o := by
          cases h : root j with
          | none => exact absurd ((oI_m1 hob).mpr h) c3
          | some o => exact ⟨o, rfl⟩
        have hom := hrb j hj o ho
        rw [ho] at hl
        rw [ho]
        have hl : lv_has ls 4 [(3, .int (nI (o))), (0, .ref (q 0)), (1, .int (nI (j))), (2, .int (y))] := hl
        refine lv_iload_n S.1 S.2.1 dX10_object_39 rfl (lv_at hl 3 rfl) ?_
        refine lv_if_ne (tgt := 47) S.1 S.2.1 dX10_object_40 (by decide) (fun d0 => ?_) (fun d0 => ?_)
        · have d0 : ¬ y = nI 0 := d0
          refine lv_iload_n S.1 S.2.1 dX10_object_47 rfl (lv_at hl 3 rfl) ?_
          refine lv_iconst (v := nI (1)) S.1 S.2.1 dX10_object_48 (by decide) ?_
          refine lv_icmp_ne (tgt := 61) S.1 S.2.1 dX10_object_49 (by decide) (fun d1 => ?_) (fun d1 => ?_)
          · refine lv_iload_n S.1 S.2.1 dX10_object_61 rfl (lv_at hl 3 rfl) ?_
            refine lv_iconst (v := nI (2)) S.1 S.2.1 dX10_object_62 (by decide) ?_
            refine lv_icmp_ne (tgt := 75) S.1 S.2.1 dX10_object_63 (by decide) (fun d2 => ?_) (fun d2 => ?_)
            · refine lv_iload_n S.1 S.2.1 dX10_object_75 rfl (lv_at hl 3 rfl) ?_
              refine lv_iconst (v := nI (3)) S.1 S.2.1 dX10_object_76 (by decide) ?_
              refine lv_icmp_ne (tgt := 96) S.1 S.2.1 dX10_object_77 (by decide) (fun d3 => ?_) (fun d3 => ?_)
              · refine lv_aload_n S.1 S.2.1 dX10_object_96 rfl (lv_at hl 1 rfl) ?_
                refine rg_rem S hK hG hR dX10_object_97 ?_
                refine lv_iload_n S.1 S.2.1 dX10_object_100 rfl (lv_at hl 0 rfl) ?_
                refine rl_rem S hK hG hR (o) (by omega) dX10_object_101 ?_
                refine lv_if_eq (tgt := 109) S.1 S.2.1 dX10_object_102 (by decide) (fun e1 => ?_) (fun e1 => ?_)
                · refine lv_iconst (v := nI (0)) S.1 S.2.1 dX10_object_109 (by decide) ?_
                  exact mw_iret S hr hlk hK hG dX10_object_110 ⟨by simp only [if_neg d0, if_neg d1, if_neg d2, if_neg d3, bI_f e1]; rfl, hR⟩
                · refine lv_iconst (v := nI (1)) S.1 S.2.1 dX10_object_105 (by decide) ?_
                  refine lv_goto (tgt := 110) S.1 S.2.1 dX10_object_106 (by decide) ?_
                  exact mw_iret S hr hlk hK hG dX10_object_110 ⟨by simp only [if_neg d0, if_neg d1, if_neg d2, if_neg d3, bI_t e1]; rfl, hR⟩
              · refine lv_aload_n S.1 S.2.1 dX10_object_80 rfl (lv_at hl 1 rfl) ?_
                refine lv_iload_n S.1 S.2.1 dX10_object_81 rfl (lv_at hl 0 rfl) ?_
                refine mCV (As := [.int (nI (o))]) (rest := []) S (r_isOld hR o (by omega) hW hkp (hab o hom)) cal_X10_isOld in_428 in_429 in_430 in_5 hK hN hG hR.obj rfl rfl rfl hl.1 (Nat.le_of_ble_eq_true rfl) ⟨by decide, by decide⟩ ⟨rfl, rfl⟩ ⟨by decide, by decide⟩ dX10_object_82 (fun v w H locs hp hG => ?_)
                obtain ⟨rfl, hw9⟩ := hp
                rw [hw9] at hG
                refine W.eq (g2 := F0 m 85 ls [.int (bI (isOldR kp Wn adr o))]) rfl ?_
                refine lv_if_eq (tgt := 92) S.1 S.2.1 dX10_object_85 (by decide) (fun e1 => ?_) (fun e1 => ?_)
                · refine lv_iconst (v := nI (0)) S.1 S.2.1 dX10_object_92 (by decide) ?_
                  refine lv_goto (tgt := 110) S.1 S.2.1 dX10_object_93 (by decide) ?_
                  exact mw_iret S hr hlk hK hG dX10_object_110 ⟨by simp only [if_neg d0, if_neg d1, if_neg d2, if_pos d3, bI_f e1]; rfl, hR⟩
                · refine lv_iconst (v := nI (1)) S.1 S.2.1 dX10_object_88 (by decide) ?_
                  refine lv_goto (tgt := 110) S.1 S.2.1 dX10_object_89 (by decide) ?_
                  exact mw_iret S hr hlk hK hG dX10_object_110 ⟨by simp only [if_neg d0, if_neg d1, if_neg d2, if_pos d3, bI_t e1]; rfl, hR⟩
            · refine lv_aload_n S.1 S.2.1 dX10_object_66 rfl (lv_at hl 1 rfl) ?_
              refine rg_fl S hK hG hR dX10_object_67 ?_
              refine lv_iload_n S.1 S.2.1 dX10_object_70 rfl (lv_at hl 0 rfl) ?_
              refine rl_fl S hK hG hR (o) (by omega) dX10_object_71 ?_
              refine lv_goto (tgt := 110) S.1 S.2.1 dX10_object_72 (by decide) ?_
              exact mw_iret S hr hlk hK hG dX10_object_110 ⟨by simp only [if_neg d0, if_neg d1, if_pos d2], hR⟩
          · refine lv_aload_n S.1 S.2.1 dX10_object_52 rfl (lv_at hl 1 rfl) ?_
            refine rg_adr S hK hG hR dX10_object_53 ?_
            refine lv_iload_n S.1 S.2.1 dX10_object_56 rfl (lv_at hl 0 rfl) ?_
            refine rl_adr S hK hG hR (o) (by omega) dX10_object_57 ?_
            refine lv_goto (tgt := 110) S.1 S.2.1 dX10_object_58 (by decide) ?_
            exact mw_iret S hr hlk hK hG dX10_object_110 ⟨by simp only [if_neg d0, if_pos d1], hR⟩
        · have d0 : y = nI 0 := d0
          refine lv_iload_n S.1 S.2.1 dX10_object_43 rfl (lv_at hl 0 rfl) ?_
          refine lv_goto (tgt := 110) S.1 S.2.1 dX10_object_44 (by decide) ?_
          exact mw_iret S hr hlk hK hG dX10_object_110 ⟨by simp only [if_pos d0], hR⟩
      · rw [(oI_m1 hob).mp c3]
        refine lv_bipush (v := -3) S.1 S.2.1 dX10_object_36 (by decide) ?_
        exact mw_iret S hr hlk hK hG dX10_object_38 ⟨rfl, hR⟩
    · rw [if_neg (by rw [bI_f c2]; simp)]
      refine lv_bipush (v := -2) S.1 S.2.1 dX10_object_21 (by decide) ?_
      exact mw_iret S hr hlk hK hG dX10_object_23 ⟨rfl, hR⟩
