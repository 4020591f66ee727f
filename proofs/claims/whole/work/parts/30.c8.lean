theorem gbO_out {fl tp : Nat → Nat} {k : Nat} : ∀ (M : List Nat) (ow : Nat → Option Nat), (¬ ∃ x ∈ M, tp x ≤ k ∧ k < tp x + (fl x + 1)) → gbO fl tp ow M k = ow k
  | [], ow, _ => rfl
  | y :: l, ow, h => by
    show gbO fl tp (fillO ow (tp y) (fl y + 1) none) l k = ow k
    rw [gbO_out l _ (fun ⟨x, hx, hr⟩ => h ⟨x, List.mem_cons_of_mem _ hx, hr⟩)]
    unfold fillO
    rw [if_neg (fun hr => h ⟨y, List.mem_cons_self, hr⟩)]
theorem gbO_in {fl tp : Nat → Nat} {k : Nat} : ∀ (M : List Nat) (ow : Nat → Option Nat), (∃ x ∈ M, tp x ≤ k ∧ k < tp x + (fl x + 1)) → gbO fl tp ow M k = none
  | [], ow, h => by obtain ⟨x, hx, -⟩ := h; exact absurd hx List.not_mem_nil
  | y :: l, ow, h => by
    show gbO fl tp (fillO ow (tp y) (fl y + 1) none) l k = none
    by_cases h2 : ∃ x ∈ l, tp x ≤ k ∧ k < tp x + (fl x + 1)
    · exact gbO_in l _ h2
    · rw [gbO_out l _ h2]
      obtain ⟨x, hx, hr⟩ := h
      rcases List.mem_cons.mp hx with h3 | h3
      · subst h3
        unfold fillO
        rw [if_pos hr]
      · exact absurd ⟨x, h3, hr⟩ h2
theorem lay_at {fl : Nat → Nat} {Wn k : Nat} : ∀ (M : List Nat) (s s2 : (Nat → Option Nat) × (Nat → Nat)), M.Nodup → lay fl Wn M s = some s2 → ((∃ x ∈ M, s2.2 x ≤ k ∧ k < s2.2 x + (fl x + 1)) → s.1 k = none) ∧ ((¬ ∃ x ∈ M, s2.2 x ≤ k ∧ k < s2.2 x + (fl x + 1)) → s2.1 k = s.1 k)
  | [], s, s2, _, h => by
    cases h
    exact ⟨fun ⟨x, hx, _⟩ => absurd hx List.not_mem_nil, fun _ => rfl⟩
  | x :: l, s, s2, hn, h2 => by
    change (lyS fl Wn s x).bind (lay fl Wn l) = some s2 at h2
    have hn2 := List.nodup_cons.mp hn
    cases h3 : lyS fl Wn s x with
    | none => rw [h3] at h2; cases h2
    | some s3 =>
      rw [h3] at h2
      have ih := lay_at (k := k) l s3 s2 hn2.2 h2
      have hx := (lay_pl l s3 s2 h2).1 x hn2.1
      unfold lyS at h3
      split at h3
      · cases h3
      · rename_i p hp
        cases h3
        have hf := fit_ok (by omega) hp
        have hxp : s2.2 x = p := by
          rw [hx]
          show va_up s.2 x p x = p
          unfold va_up
          rw [if_pos rfl]
        have hfo : (¬ (p ≤ k ∧ k < p + (fl x + 1))) → fillO s.1 p (fl x + 1) (some x) k = s.1 k := fun z => by unfold fillO; rw [if_neg z]
        refine ⟨fun ⟨y, hy, hr⟩ => ?_, fun hno => ?_⟩
        · rcases List.mem_cons.mp hy with h4 | h4
          · subst h4
            rw [hxp] at hr
            exact hf.2.2 k hr.1 hr.2
          · have h5 := ih.1 ⟨y, h4, hr⟩
            by_cases hr2 : p ≤ k ∧ k < p + (fl x + 1)
            · exact hf.2.2 k hr2.1 hr2.2
            · rw [← hfo hr2]; exact h5
        · have h5 := ih.2 (fun ⟨y, hy, hr⟩ => hno ⟨y, List.mem_cons_of_mem _ hy, hr⟩)
          rw [h5]
          exact hfo (fun hr => hno ⟨x, List.mem_cons_self, by rw [hxp]; exact hr⟩)
theorem gb_back {fl : Nat → Nat} {Wn : Nat} {M : List Nat} {own ow2 : Nat → Option Nat} {tpl tp2 : Nat → Nat} (hn : M.Nodup) (h : lay fl Wn M (own, tpl) = some (ow2, tp2)) : gbO fl tp2 ow2 M = own := by
  funext k
  have h2 := lay_at (k := k) M (own, tpl) (ow2, tp2) hn h
  by_cases h3 : ∃ x ∈ M, tp2 x ≤ k ∧ k < tp2 x + (fl x + 1)
  · rw [gbO_in M ow2 h3]
    exact (h2.1 h3).symm
  · rw [gbO_out M ow2 h3]
    exact h2.2 h3
theorem nodup_take {L : List Nat} (h : L.Nodup) (n : Nat) : (L.take n).Nodup := (List.take_sublist n L).nodup h
theorem cal_X0_gather : mCal yX0_gather cX0_gather 3 0 (some .int) := ⟨in_290, by decide +kernel⟩
set_option maxHeartbeats 4000000 in
set_option maxRecDepth 100000 in
theorem g_gather {l : Launch} {dC : Nat → ClassId} {dI : Nat → Nat → Nat} {cI cZ cT : ClassId} {q : Nat → Nat} {kp : Nat} {Wn : Nat} {made : Nat} {fl : (Nat → Nat)} {num : (Nat → Nat → Int32)} {rfs : (Nat → Nat → Option Nat)} {root : (Nat → Option Nat)} {own : (Nat → Option Nat)} {tad : (Nat → Nat)} {trm : (Nat → Bool)} {tpl : (Nat → Nat)} {wlk : (Nat → Nat)} {ord : (Nat → Nat)} {met : (Nat → Option Nat)} {msz : Nat} {cur : Nat} {mend : Nat} {pnx : Nat} {pen : Nat} {st : Nat} {coll : Nat} {mins : Nat} {movd : Nat} {Kp : Nat → Prop} (hB : ∀ M : List Nat, M.Nodup → (∀ x ∈ M, Kp x) → M.length ≤ Wn) (hKm : ∀ x, Kp x → x < made) (hKf : ∀ x, Kp x → ∀ i, i < fl x → ∀ t, rfs x i = some t → Kp t) (hfl : ∀ x, x < made → fl x ≤ 6) {w : mM} (hC : CW cI cT q kp Wn made fl num rfs root own tad trm tpl wlk ord met msz cur mend pnx pen st coll mins movd w) (hkp : kp = 2) (hW4 : Wn ≤ 400) (hcb : cur + 2 < 2147483648) (htb : ∀ t, t < made → tad t < 2147483648) (hwb : ∀ o, o < made → wlk o ≤ cur) (hmt : ∀ k t, met k = some t → t < made) (hKr : ∀ i, i < 16 → ∀ t, root i = some t → Kp t) (hob : ∀ k t, own k = some t → t < made) (hKo : ∀ k t, Wn / 4 ≤ k → own k = some t → Kp t) (hLy : LyC made Wn fl tad own) (hcnt : ∀ tp0 ow2 tp2, lay fl Wn (flw (okC tad (Wn / 4)) fl rfs 401 0 (rmb (okC tad (Wn / 4)) fl rfs (swO (dd (Wn / 4) Wn tad (ntL (flw (okC tad Wn) fl rfs 401 0 (mtN (okC tad Wn) root 16 [])))) own) tad trm (Wn / 4) (Wn - Wn / 4) (mtN (okC tad (Wn / 4)) root 16 []))) ((swO (dd (Wn / 4) Wn tad (ntL (flw (okC tad Wn) fl rfs 401 0 (mtN (okC tad Wn) root 16 [])))) own), tp0) = some (ow2, tp2) → (flw (okC tad (Wn / 4)) fl rfs 401 0 (rmb (okC tad (Wn / 4)) fl rfs (swO (dd (Wn / 4) Wn tad (ntL (flw (okC tad Wn) fl rfs 401 0 (mtN (okC tad Wn) root 16 [])))) own) tad trm (Wn / 4) (Wn - Wn / 4) (mtN (okC tad (Wn / 4)) root 16 []))).length ≤ cnt (fun k => (bgn ow2 tad k).isSome) (Wn / 4)) : mC l yX0_gather (wsY yX0_gather cX0_gather 3 (some .int)) { frames := 4, cells := 0, slots := 0, locals := 92 } (dC, dI) vwCl (tyL cI cZ cT) 0 0 w [.ref (q 5)] (fun v w2 => ∃ (mt3 : Nat → Option Nat) (ms3 : Nat) (wl3 od3 : Nat → Nat), LsC made (cur + 1 + 1) ms3 mt3 wl3 od3 (flw (okC tad (Wn / 4)) fl rfs 401 0 (rmb (okC tad (Wn / 4)) fl rfs (swO (dd (Wn / 4) Wn tad (ntL (flw (okC tad Wn) fl rfs 401 0 (mtN (okC tad Wn) root 16 [])))) own) tad trm (Wn / 4) (Wn - Wn / 4) (mtN (okC tad (Wn / 4)) root 16 []))) ∧ ((v = some (.int (-4)) ∧ lay fl Wn (flw (okC tad (Wn / 4)) fl rfs 401 0 (rmb (okC tad (Wn / 4)) fl rfs (swO (dd (Wn / 4) Wn tad (ntL (flw (okC tad Wn) fl rfs 401 0 (mtN (okC tad Wn) root 16 [])))) own) tad trm (Wn / 4) (Wn - Wn / 4) (mtN (okC tad (Wn / 4)) root 16 []))) ((swO (dd (Wn / 4) Wn tad (ntL (flw (okC tad Wn) fl rfs 401 0 (mtN (okC tad Wn) root 16 [])))) own), tpl) = none ∧ ∃ (n2 : Nat) (ow2 : Nat → Option Nat) (tp2 : Nat → Nat), n2 ≤ (flw (okC tad (Wn / 4)) fl rfs 401 0 (rmb (okC tad (Wn / 4)) fl rfs (swO (dd (Wn / 4) Wn tad (ntL (flw (okC tad Wn) fl rfs 401 0 (mtN (okC tad Wn) root 16 [])))) own) tad trm (Wn / 4) (Wn - Wn / 4) (mtN (okC tad (Wn / 4)) root 16 []))).length ∧ lay fl Wn ((flw (okC tad (Wn / 4)) fl rfs 401 0 (rmb (okC tad (Wn / 4)) fl rfs (swO (dd (Wn / 4) Wn tad (ntL (flw (okC tad Wn) fl rfs 401 0 (mtN (okC tad Wn) root 16 [])))) own) tad trm (Wn / 4) (Wn - Wn / 4) (mtN (okC tad (Wn / 4)) root 16 []))).take n2) ((swO (dd (Wn / 4) Wn tad (ntL (flw (okC tad Wn) fl rfs 401 0 (mtN (okC tad Wn) root 16 [])))) own), tpl) = some (ow2, tp2) ∧ CW cI cT q kp Wn made fl num rfs root ((gbO fl tp2 ow2 ((flw (okC tad (Wn / 4)) fl rfs 401 0 (rmb (okC tad (Wn / 4)) fl rfs (swO (dd (Wn / 4) Wn tad (ntL (flw (okC tad Wn) fl rfs 401 0 (mtN (okC tad Wn) root 16 [])))) own) tad trm (Wn / 4) (Wn - Wn / 4) (mtN (okC tad (Wn / 4)) root 16 []))).take n2))) tad trm tp2 wl3 od3 mt3 ms3 ((cur + 1 + 1)) ((Wn / 4)) pnx pen st ((coll + 1)) mins movd w2) ∨ ∃ (ow2 : Nat → Option Nat) (tp2 : Nat → Nat), lay fl Wn (flw (okC tad (Wn / 4)) fl rfs 401 0 (rmb (okC tad (Wn / 4)) fl rfs (swO (dd (Wn / 4) Wn tad (ntL (flw (okC tad Wn) fl rfs 401 0 (mtN (okC tad Wn) root 16 [])))) own) tad trm (Wn / 4) (Wn - Wn / 4) (mtN (okC tad (Wn / 4)) root 16 []))) ((swO (dd (Wn / 4) Wn tad (ntL (flw (okC tad Wn) fl rfs 401 0 (mtN (okC tad Wn) root 16 [])))) own), tpl) = some (ow2, tp2) ∧ v = some (.int (nI (cnt (cw (Wn / 4) own tad (ntL (flw (okC tad Wn) fl rfs 401 0 (mtN (okC tad Wn) root 16 [])))) Wn + (cnt (fun k => (bgn ow2 tad k).isSome) (Wn / 4) - (flw (okC tad (Wn / 4)) fl rfs 401 0 (rmb (okC tad (Wn / 4)) fl rfs (swO (dd (Wn / 4) Wn tad (ntL (flw (okC tad Wn) fl rfs 401 0 (mtN (okC tad Wn) root 16 [])))) own) tad trm (Wn / 4) (Wn - Wn / 4) (mtN (okC tad (Wn / 4)) root 16 []))).length)))) ∧ CW cI cT q kp Wn made fl num rfs root ((fillO ow2 0 (Wn / 4) none)) ((goT tp2 tad (flw (okC tad (Wn / 4)) fl rfs 401 0 (rmb (okC tad (Wn / 4)) fl rfs (swO (dd (Wn / 4) Wn tad (ntL (flw (okC tad Wn) fl rfs 401 0 (mtN (okC tad Wn) root 16 [])))) own) tad trm (Wn / 4) (Wn - Wn / 4) (mtN (okC tad (Wn / 4)) root 16 []))))) ((fgt (fillO ow2 0 (Wn / 4) none) (goT tp2 tad (flw (okC tad (Wn / 4)) fl rfs 401 0 (rmb (okC tad (Wn / 4)) fl rfs (swO (dd (Wn / 4) Wn tad (ntL (flw (okC tad Wn) fl rfs 401 0 (mtN (okC tad Wn) root 16 [])))) own) tad trm (Wn / 4) (Wn - Wn / 4) (mtN (okC tad (Wn / 4)) root 16 [])))) (Wn / 4) (Wn - Wn / 4) trm)) tp2 wl3 od3 mt3 ms3 ((cur + 1 + 1)) ((Wn / 4)) 0 ((Wn / 4)) st ((coll + 1)) ((mins + 1)) ((movd + (flw (okC tad (Wn / 4)) fl rfs 401 0 (rmb (okC tad (Wn / 4)) fl rfs (swO (dd (Wn / 4) Wn tad (ntL (flw (okC tad Wn) fl rfs 401 0 (mtN (okC tad Wn) root 16 [])))) own) tad trm (Wn / 4) (Wn - Wn / 4) (mtN (okC tad (Wn / 4)) root 16 []))).length)) w2)) := by
  refine mC.on (by decide) (Nat.le_of_ble_eq_true rfl) ?_
  intro p e s m args below meth c ls S hr hlk hnm hK hN hG hl
  have hl : lv_has ls 3 [(0, .ref (q 5))] := hl
  generalize hAe : mA w s.heap.size = A at hG ⊢
  refine lv_aload_n S.1 S.2.1 dX0_gather_0 rfl (lv_at hl 0 rfl) ?_
  refine lv_dup S.1 S.2.1 dX0_gather_1 rfl ?_
  refine cg_RX0_45 S hK hG hC hkp dX0_gather_2 ?_
  refine lv_iconst (v := nI (1)) S.1 S.2.1 dX0_gather_5 (by decide) ?_
  refine lv_iadd S.1 S.2.1 dX0_gather_6 ?_
  refine lv_eqi (nI_add _ _) ?_
  refine cp_RX0_45 S hK hG hC hkp (coll + 1) dX0_gather_7 (fun w H locs hC hG => ?_)
  refine lv_aload_n S.1 S.2.1 dX0_gather_10 rfl (lv_at hl 0 rfl) ?_
  refine mCU (As := []) (rest := []) S (e_walkFromRoots hB hKm hKf hfl hC hW4 (by omega) htb hwb hmt hKr) (va_cwU (owner := "KeptHeap$Keeper") (x := ⟨"KeptHeap$Ager", "walkFromRoots", "()V"⟩) 0 S.2.2.2.2 (mGU (own := RX0) (index := 48) (x := ⟨"KeptHeap$Ager", "walkFromRoots", "()V"⟩) (owner := "KeptHeap$Keeper") in_297 in_293 in_294 in_295 in_296 in_72) rfl rfl rfl rfl (by decide +kernel) ⟨by decide, by decide⟩) hK hN hG (hC.obj0 hkp) rfl rfl rfl hl.1 (Nat.le_of_ble_eq_true rfl) ⟨by decide, by decide⟩ dX0_gather_11 (fun v w H locs hp hG => ?_)
  obtain ⟨rfl, mt5, ms5, wl5, od5, hC, hLf⟩ := hp
  refine W.eq (g2 := F0 m 14 ls []) rfl ?_
  refine lv_aload_n S.1 S.2.1 dX0_gather_14 rfl (lv_at hl 0 rfl) ?_
  refine lv_aload_n S.1 S.2.1 dX0_gather_15 rfl (lv_at hl 0 rfl) ?_
  refine cg_RX0_15 S hK hG hC hkp dX0_gather_16 ?_
  refine mCU (As := [.int (nI (Wn / 4))]) (rest := []) S (e_sweepFromL hC (by omega) (by omega) htb hLy hLf (Wn / 4) (by omega)) (va_cwU (owner := "KeptHeap$Keeper") (x := ⟨"KeptHeap$Ager", "sweepFrom", "(I)I"⟩) 1 S.2.2.2.2 (mGU (own := RX0) (index := 52) (x := ⟨"KeptHeap$Ager", "sweepFrom", "(I)I"⟩) (owner := "KeptHeap$Keeper") in_305 in_301 in_302 in_303 in_304 in_72) rfl rfl rfl rfl (by decide +kernel) ⟨by decide, by decide⟩) hK hN hG (hC.obj0 hkp) rfl rfl rfl hl.1 (Nat.le_of_ble_eq_true rfl) ⟨by decide, by decide⟩ dX0_gather_19 (fun v w H locs hp hG => ?_)
  obtain ⟨rfl, hC⟩ := hp
  refine W.eq (g2 := F0 m 22 ls [.int (nI (cnt (cw (Wn / 4) own tad (ntL (flw (okC tad Wn) fl rfs 401 0 (mtN (okC tad Wn) root 16 [])))) Wn))]) rfl ?_
  refine lv_istore_n (lv' := [(1, .int (nI (cnt (cw (Wn / 4) own tad (ntL (flw (okC tad Wn) fl rfs 401 0 (mtN (okC tad Wn) root 16 [])))) Wn))), (0, .ref (q 5))]) S.1 S.2.1 dX0_gather_22 rfl hl (by decide) rfl (fun ls hl => ?_)
  refine lv_aload_n S.1 S.2.1 dX0_gather_23 rfl (lv_at hl 1 rfl) ?_
  refine mCV (As := []) (rest := []) S (g_gatherYoung hB hKm hKf hfl hC hkp hW4 (by omega) htb hLf.hw hLf.hm hKr (fun k t ht => hob k t (swO_own ht)) (fun k t hk ht => hKo k t hk (swO_own ht)) (hcnt tpl)) cal_X0_gatherYoung in_175 in_176 in_177 in_57 hK hN hG (hC.obj0 hkp) rfl rfl rfl hl.1 (Nat.le_of_ble_eq_true rfl) ⟨by decide, by decide⟩ ⟨rfl, rfl⟩ ⟨by decide, by decide⟩ dX0_gather_24 (fun v w H locs hp hG => ?_)
  obtain ⟨mt6, ms6, wl6, od6, hLg, hcase⟩ := hp
  rcases hcase with ⟨rfl, hno, n2, ow2, tp2, hn2, hla, hC⟩ | ⟨ow2, tp2, hla, rfl, hC⟩
  · refine W.eq (g2 := F0 m 27 ls [.int (-4)]) rfl ?_
    refine lv_istore_n (lv' := [(2, .int (-4)), (1, .int (nI (cnt (cw (Wn / 4) own tad (ntL (flw (okC tad Wn) fl rfs 401 0 (mtN (okC tad Wn) root 16 [])))) Wn))), (0, .ref (q 5))]) S.1 S.2.1 dX0_gather_27 rfl hl (by decide) rfl (fun ls hl => ?_)
    refine lv_iload_n S.1 S.2.1 dX0_gather_28 rfl (lv_at hl 0 rfl) ?_
    refine lv_bipush (v := -4) S.1 S.2.1 dX0_gather_29 (by decide) ?_
    refine lv_icmp_ne (tgt := 39) S.1 S.2.1 dX0_gather_31 (by decide) (fun c1 => ?_) (fun c1 => ?_)
    · exact absurd rfl c1
    · refine lv_bipush (v := -4) S.1 S.2.1 dX0_gather_34 (by decide) ?_
      refine lv_goto (tgt := 42) S.1 S.2.1 dX0_gather_36 (by decide) ?_
      exact mw_iret S hr hlk hK hG dX0_gather_42 ⟨mt6, ms6, wl6, od6, hLg, Or.inl ⟨rfl, hno, n2, ow2, tp2, hn2, hla, hC⟩⟩
  · refine W.eq (g2 := F0 m 27 ls [.int (nI (cnt (fun k => (bgn ow2 tad k).isSome) (Wn / 4) - (flw (okC tad (Wn / 4)) fl rfs 401 0 (rmb (okC tad (Wn / 4)) fl rfs (swO (dd (Wn / 4) Wn tad (ntL (flw (okC tad Wn) fl rfs 401 0 (mtN (okC tad Wn) root 16 [])))) own) tad trm (Wn / 4) (Wn - Wn / 4) (mtN (okC tad (Wn / 4)) root 16 []))).length))]) rfl ?_
    have hcl := cnt_le (fun k => (bgn ow2 tad k).isSome) (Wn / 4)
    refine lv_istore_n (lv' := [(2, .int (nI (cnt (fun k => (bgn ow2 tad k).isSome) (Wn / 4) - (flw (okC tad (Wn / 4)) fl rfs 401 0 (rmb (okC tad (Wn / 4)) fl rfs (swO (dd (Wn / 4) Wn tad (ntL (flw (okC tad Wn) fl rfs 401 0 (mtN (okC tad Wn) root 16 [])))) own) tad trm (Wn / 4) (Wn - Wn / 4) (mtN (okC tad (Wn / 4)) root 16 []))).length))), (1, .int (nI (cnt (cw (Wn / 4) own tad (ntL (flw (okC tad Wn) fl rfs 401 0 (mtN (okC tad Wn) root 16 [])))) Wn))), (0, .ref (q 5))]) S.1 S.2.1 dX0_gather_27 rfl hl (by decide) rfl (fun ls hl => ?_)
    refine lv_iload_n S.1 S.2.1 dX0_gather_28 rfl (lv_at hl 0 rfl) ?_
    refine lv_bipush (v := -4) S.1 S.2.1 dX0_gather_29 (by decide) ?_
    refine lv_icmp_ne (tgt := 39) S.1 S.2.1 dX0_gather_31 (by decide) (fun c1 => ?_) (fun c1 => ?_)
    · refine lv_iload_n S.1 S.2.1 dX0_gather_39 rfl (lv_at hl 1 rfl) ?_
      refine lv_iload_n S.1 S.2.1 dX0_gather_40 rfl (lv_at hl 0 rfl) ?_
      refine lv_iadd S.1 S.2.1 dX0_gather_41 ?_
      refine lv_eqi (nI_add _ _) ?_
      exact mw_iret S hr hlk hK hG dX0_gather_42 ⟨mt6, ms6, wl6, od6, hLg, Or.inr ⟨ow2, tp2, hla, rfl, hC⟩⟩
    · exact absurd c1 (nI_m4 (by omega))
theorem cal_X0_clearRoomFor : mCal yX0_clearRoomFor cX0_clearRoomFor 2 1 none := ⟨in_174, by decide +kernel⟩
set_option maxHeartbeats 4000000 in
set_option maxRecDepth 100000 in
theorem g_clearRoomFor {l : Launch} {dC : Nat → ClassId} {dI : Nat → Nat → Nat} {cI cZ cT : ClassId} {q : Nat → Nat} {kp : Nat} {Wn : Nat} {made : Nat} {fl : (Nat → Nat)} {num : (Nat → Nat → Int32)} {rfs : (Nat → Nat → Option Nat)} {root : (Nat → Option Nat)} {own : (Nat → Option Nat)} {tad : (Nat → Nat)} {trm : (Nat → Bool)} {tpl : (Nat → Nat)} {wlk : (Nat → Nat)} {ord : (Nat → Nat)} {met : (Nat → Option Nat)} {msz : Nat} {cur : Nat} {mend : Nat} {pnx : Nat} {pen : Nat} {st : Nat} {coll : Nat} {mins : Nat} {movd : Nat} {Kp : Nat → Prop} (hB : ∀ M : List Nat, M.Nodup → (∀ x ∈ M, Kp x) → M.length ≤ Wn) (hKm : ∀ x, Kp x → x < made) (hKf : ∀ x, Kp x → ∀ i, i < fl x → ∀ t, rfs x i = some t → Kp t) (hfl : ∀ x, x < made → fl x ≤ 6) {w : mM} (hC : CW cI cT q kp Wn made fl num rfs root own tad trm tpl wlk ord met msz cur mend pnx pen st coll mins movd w) (hkp : kp = 2) (hW4 : Wn ≤ 400) (hcb : cur + 3 < 2147483648) (htb : ∀ t, t < made → tad t < 2147483648) (hwb : ∀ o, o < made → wlk o ≤ cur) (hmt : ∀ k t, met k = some t → t < made) (hKr : ∀ i, i < 16 → ∀ t, root i = some t → Kp t) (hob : ∀ k t, own k = some t → t < made) (hKo : ∀ k t, Wn / 4 ≤ k → own k = some t → Kp t) (hLy : LyC made Wn fl tad own) (hcnt1 : ∀ ow2 tp2, lay fl Wn (flw (okC tad (Wn / 4)) fl rfs 401 0 (rmb (okC tad (Wn / 4)) fl rfs own tad trm (Wn / 4) (Wn - Wn / 4) (mtN (okC tad (Wn / 4)) root 16 []))) (own, tpl) = some (ow2, tp2) → (flw (okC tad (Wn / 4)) fl rfs 401 0 (rmb (okC tad (Wn / 4)) fl rfs own tad trm (Wn / 4) (Wn - Wn / 4) (mtN (okC tad (Wn / 4)) root 16 []))).length ≤ cnt (fun k => (bgn ow2 tad k).isSome) (Wn / 4)) (hcnt : ∀ tp0 ow2 tp2, lay fl Wn (flw (okC tad (Wn / 4)) fl rfs 401 0 (rmb (okC tad (Wn / 4)) fl rfs (swO (dd (Wn / 4) Wn tad (ntL (flw (okC tad Wn) fl rfs 401 0 (mtN (okC tad Wn) root 16 [])))) own) tad trm (Wn / 4) (Wn - Wn / 4) (mtN (okC tad (Wn / 4)) root 16 []))) ((swO (dd (Wn / 4) Wn tad (ntL (flw (okC tad Wn) fl rfs 401 0 (mtN (okC tad Wn) root 16 [])))) own), tp0) = some (ow2, tp2) → (flw (okC tad (Wn / 4)) fl rfs 401 0 (rmb (okC tad (Wn / 4)) fl rfs (swO (dd (Wn / 4) Wn tad (ntL (flw (okC tad Wn) fl rfs 401 0 (mtN (okC tad Wn) root 16 [])))) own) tad trm (Wn / 4) (Wn - Wn / 4) (mtN (okC tad (Wn / 4)) root 16 []))).length ≤ cnt (fun k => (bgn ow2 tad k).isSome) (Wn / 4)) (n : Nat) (hn : n < 1000) : mC l yX0_clearRoomFor (wsY yX0_clearRoomFor cX0_clearRoomFor 2 none) { frames := 5, cells := 0, slots := 0, locals := 114 } (dC, dI) vwCl (tyL cI cZ cT) 0 0 w [.ref (q 5), .int (nI (n))] (fun v w2 => v = none ∧ ((Wn / 4 < n ∧ CW cI cT q kp Wn made fl num rfs root own tad trm tpl wlk ord met msz cur mend pnx pen st coll mins movd w2) ∨ (n ≤ Wn / 4 ∧ ∃ (mt3 : Nat → Option Nat) (ms3 : Nat) (wl3 od3 : Nat → Nat), LsC made (cur + 1) ms3 mt3 wl3 od3 (flw (okC tad (Wn / 4)) fl rfs 401 0 (rmb (okC tad (Wn / 4)) fl rfs own tad trm (Wn / 4) (Wn - Wn / 4) (mtN (okC tad (Wn / 4)) root 16 []))) ∧ ∃ (ow2 : Nat → Option Nat) (tp2 : Nat → Nat), lay fl Wn (flw (okC tad (Wn / 4)) fl rfs 401 0 (rmb (okC tad (Wn / 4)) fl rfs own tad trm (Wn / 4) (Wn - Wn / 4) (mtN (okC tad (Wn / 4)) root 16 []))) (own, tpl) = some (ow2, tp2) ∧ CW cI cT q kp Wn made fl num rfs root ((fillO ow2 0 (Wn / 4) none)) ((goT tp2 tad (flw (okC tad (Wn / 4)) fl rfs 401 0 (rmb (okC tad (Wn / 4)) fl rfs own tad trm (Wn / 4) (Wn - Wn / 4) (mtN (okC tad (Wn / 4)) root 16 []))))) ((fgt (fillO ow2 0 (Wn / 4) none) (goT tp2 tad (flw (okC tad (Wn / 4)) fl rfs 401 0 (rmb (okC tad (Wn / 4)) fl rfs own tad trm (Wn / 4) (Wn - Wn / 4) (mtN (okC tad (Wn / 4)) root 16 [])))) (Wn / 4) (Wn - Wn / 4) trm)) tp2 wl3 od3 mt3 ms3 ((cur + 1)) ((Wn / 4)) 0 ((Wn / 4)) st coll ((mins + 1)) ((movd + (flw (okC tad (Wn / 4)) fl rfs 401 0 (rmb (okC tad (Wn / 4)) fl rfs own tad trm (Wn / 4) (Wn - Wn / 4) (mtN (okC tad (Wn / 4)) root 16 []))).length)) w2) ∨ (n ≤ Wn / 4 ∧ lay fl Wn (flw (okC tad (Wn / 4)) fl rfs 401 0 (rmb (okC tad (Wn / 4)) fl rfs own tad trm (Wn / 4) (Wn - Wn / 4) (mtN (okC tad (Wn / 4)) root 16 []))) (own, tpl) = none ∧ ∃ (tp9 : Nat → Nat), ∃ (mt3 : Nat → Option Nat) (ms3 : Nat) (wl3 od3 : Nat → Nat), LsC made (cur + 1 + 1 + 1) ms3 mt3 wl3 od3 (flw (okC tad (Wn / 4)) fl rfs 401 0 (rmb (okC tad (Wn / 4)) fl rfs (swO (dd (Wn / 4) Wn tad (ntL (flw (okC tad Wn) fl rfs 401 0 (mtN (okC tad Wn) root 16 [])))) own) tad trm (Wn / 4) (Wn - Wn / 4) (mtN (okC tad (Wn / 4)) root 16 []))) ∧ ((True ∧ lay fl Wn (flw (okC tad (Wn / 4)) fl rfs 401 0 (rmb (okC tad (Wn / 4)) fl rfs (swO (dd (Wn / 4) Wn tad (ntL (flw (okC tad Wn) fl rfs 401 0 (mtN (okC tad Wn) root 16 [])))) own) tad trm (Wn / 4) (Wn - Wn / 4) (mtN (okC tad (Wn / 4)) root 16 []))) ((swO (dd (Wn / 4) Wn tad (ntL (flw (okC tad Wn) fl rfs 401 0 (mtN (okC tad Wn) root 16 [])))) own), tp9) = none ∧ ∃ (n2 : Nat) (ow2 : Nat → Option Nat) (tp2 : Nat → Nat), n2 ≤ (flw (okC tad (Wn / 4)) fl rfs 401 0 (rmb (okC tad (Wn / 4)) fl rfs (swO (dd (Wn / 4) Wn tad (ntL (flw (okC tad Wn) fl rfs 401 0 (mtN (okC tad Wn) root 16 [])))) own) tad trm (Wn / 4) (Wn - Wn / 4) (mtN (okC tad (Wn / 4)) root 16 []))).length ∧ lay fl Wn ((flw (okC tad (Wn / 4)) fl rfs 401 0 (rmb (okC tad (Wn / 4)) fl rfs (swO (dd (Wn / 4) Wn tad (ntL (flw (okC tad Wn) fl rfs 401 0 (mtN (okC tad Wn) root 16 [])))) own) tad trm (Wn / 4) (Wn - Wn / 4) (mtN (okC tad (Wn / 4)) root 16 []))).take n2) ((swO (dd (Wn / 4) Wn tad (ntL (flw (okC tad Wn) fl rfs 401 0 (mtN (okC tad Wn) root 16 [])))) own), tp9) = some (ow2, tp2) ∧ CW cI cT q kp Wn made fl num rfs root ((gbO fl tp2 ow2 ((flw (okC tad (Wn / 4)) fl rfs 401 0 (rmb (okC tad (Wn / 4)) fl rfs (swO (dd (Wn / 4) Wn tad (ntL (flw (okC tad Wn) fl rfs 401 0 (mtN (okC tad Wn) root 16 [])))) own) tad trm (Wn / 4) (Wn - Wn / 4) (mtN (okC tad (Wn / 4)) root 16 []))).take n2))) tad trm tp2 wl3 od3 mt3 ms3 ((cur + 1 + 1 + 1)) ((Wn / 4)) pnx pen st ((coll + 1)) mins movd w2) ∨ ∃ (ow2 : Nat → Option Nat) (tp2 : Nat → Nat), lay fl Wn (flw (okC tad (Wn / 4)) fl rfs 401 0 (rmb (okC tad (Wn / 4)) fl rfs (swO (dd (Wn / 4) Wn tad (ntL (flw (okC tad Wn) fl rfs 401 0 (mtN (okC tad Wn) root 16 [])))) own) tad trm (Wn / 4) (Wn - Wn / 4) (mtN (okC tad (Wn / 4)) root 16 []))) ((swO (dd (Wn / 4) Wn tad (ntL (flw (okC tad Wn) fl rfs 401 0 (mtN (okC tad Wn) root 16 [])))) own), tp9) = some (ow2, tp2) ∧ True ∧ CW cI cT q kp Wn made fl num rfs root ((fillO ow2 0 (Wn / 4) none)) ((goT tp2 tad (flw (okC tad (Wn / 4)) fl rfs 401 0 (rmb (okC tad (Wn / 4)) fl rfs (swO (dd (Wn / 4) Wn tad (ntL (flw (okC tad Wn) fl rfs 401 0 (mtN (okC tad Wn) root 16 [])))) own) tad trm (Wn / 4) (Wn - Wn / 4) (mtN (okC tad (Wn / 4)) root 16 []))))) ((fgt (fillO ow2 0 (Wn / 4) none) (goT tp2 tad (flw (okC tad (Wn / 4)) fl rfs 401 0 (rmb (okC tad (Wn / 4)) fl rfs (swO (dd (Wn / 4) Wn tad (ntL (flw (okC tad Wn) fl rfs 401 0 (mtN (okC tad Wn) root 16 [])))) own) tad trm (Wn / 4) (Wn - Wn / 4) (mtN (okC tad (Wn / 4)) root 16 [])))) (Wn / 4) (Wn - Wn / 4) trm)) tp2 wl3 od3 mt3 ms3 ((cur + 1 + 1 + 1)) ((Wn / 4)) 0 ((Wn / 4)) st ((coll + 1)) ((mins + 1)) ((movd + (flw (okC tad (Wn / 4)) fl rfs 401 0 (rmb (okC tad (Wn / 4)) fl rfs (swO (dd (Wn / 4) Wn tad (ntL (flw (okC tad Wn) fl rfs 401 0 (mtN (okC tad Wn) root 16 [])))) own) tad trm (Wn / 4) (Wn - Wn / 4) (mtN (okC tad (Wn / 4)) root 16 []))).length)) w2)))) := by
  refine mC.on (by decide) (Nat.le_of_ble_eq_true rfl) ?_
  intro p e s m args below meth c ls S hr hlk hnm hK hN hG hl
  have hl : lv_has ls 2 [(0, .ref (q 5)), (1, .int (nI (n)))] := hl
  generalize hAe : mA w s.heap.size = A at hG ⊢
  refine lv_iload_n S.1 S.2.1 dX0_clearRoomFor_0 rfl (lv_at hl 1 rfl) ?_
  refine lv_aload_n S.1 S.2.1 dX0_clearRoomFor_1 rfl (lv_at hl 0 rfl) ?_
  refine cg_RX0_15 S hK hG hC hkp dX0_clearRoomFor_2 ?_
  refine lv_icmp_gt (tgt := 22) S.1 S.2.1 dX0_clearRoomFor_5 (by decide) (fun c0 => ?_) (fun c0 => ?_)
  · have c0 : (Wn / 4) < n := (nI_ltI (a := Wn / 4) (b := n) (by omega) (by omega)).mp c0
    exact mw_vret S hr hlk hK hG dX0_clearRoomFor_22 ⟨rfl, Or.inl ⟨c0, hC⟩⟩
  · have c0 : ¬ ((Wn / 4) < n) := fun h9 => c0 ((nI_ltI (a := Wn / 4) (b := n) (by omega) (by omega)).mpr h9)
    refine lv_aload_n S.1 S.2.1 dX0_clearRoomFor_8 rfl (lv_at hl 0 rfl) ?_
    refine mCV (As := []) (rest := []) S (g_gatherYoung hB hKm hKf hfl hC hkp hW4 (by omega) htb hwb hmt hKr hob hKo hcnt1) cal_X0_gatherYoung in_175 in_176 in_177 in_57 hK hN hG (hC.obj0 hkp) rfl rfl rfl hl.1 (Nat.le_of_ble_eq_true rfl) ⟨by decide, by decide⟩ ⟨rfl, rfl⟩ ⟨by decide, by decide⟩ dX0_clearRoomFor_9 (fun v w H locs hp hG => ?_)
    obtain ⟨mt6, ms6, wl6, od6, hLg, hcase⟩ := hp
    rcases hcase with ⟨rfl, hno, n2, ow2, tp2, hn2, hla, hC⟩ | ⟨ow2, tp2, hla, rfl, hC⟩
    · refine W.eq (g2 := F0 m 12 ls [.int (-4)]) rfl ?_
      rw [gb_back (nodup_take hLg.1 n2) hla] at hC
      refine lv_bipush (v := -4) S.1 S.2.1 dX0_clearRoomFor_12 (by decide) ?_
      refine lv_icmp_ne (tgt := 22) S.1 S.2.1 dX0_clearRoomFor_14 (by decide) (fun c1 => ?_) (fun c1 => ?_)
      · exact absurd rfl c1
      · refine lv_aload_n S.1 S.2.1 dX0_clearRoomFor_17 rfl (lv_at hl 0 rfl) ?_
        refine mCV (As := []) (rest := []) S (g_gather hB hKm hKf hfl hC hkp hW4 (by omega) htb hLg.hw hLg.hm hKr hob hKo hLy hcnt) cal_X0_gather in_287 in_288 in_289 in_57 hK hN hG (hC.obj0 hkp) rfl rfl rfl hl.1 (Nat.le_of_ble_eq_true rfl) ⟨by decide, by decide⟩ ⟨rfl, rfl⟩ ⟨by decide, by decide⟩ dX0_clearRoomFor_18 (fun v w H locs hp hG => ?_)
        obtain ⟨mt7, ms7, wl7, od7, hLh, hcase⟩ := hp
        rcases hcase with ⟨rfl, hno2, n3, ow3, tp3, hn3, hlb, hC⟩ | ⟨ow3, tp3, hlb, rfl, hC⟩
        · refine W.eq (g2 := F0 m 21 ls [.int (-4)]) rfl ?_
          refine lv_pop S.1 S.2.1 dX0_clearRoomFor_21 rfl ?_
          exact mw_vret S hr hlk hK hG dX0_clearRoomFor_22 ⟨rfl, Or.inr (Or.inr ⟨by omega, hno, tp2, mt7, ms7, wl7, od7, hLh, Or.inl ⟨trivial, hno2, n3, ow3, tp3, hn3, hlb, hC⟩⟩)⟩
        · refine W.eq (g2 := F0 m 21 ls [.int (nI (cnt (cw (Wn / 4) own tad (ntL (flw (okC tad Wn) fl rfs 401 0 (mtN (okC tad Wn) root 16 [])))) Wn + (cnt (fun k => (bgn ow3 tad k).isSome) (Wn / 4) - (flw (okC tad (Wn / 4)) fl rfs 401 0 (rmb (okC tad (Wn / 4)) fl rfs (swO (dd (Wn / 4) Wn tad (ntL (flw (okC tad Wn) fl rfs 401 0 (mtN (okC tad Wn) root 16 [])))) own) tad trm (Wn / 4) (Wn - Wn / 4) (mtN (okC tad (Wn / 4)) root 16 []))).length)))]) rfl ?_
          refine lv_pop S.1 S.2.1 dX0_clearRoomFor_21 rfl ?_
          exact mw_vret S hr hlk hK hG dX0_clearRoomFor_22 ⟨rfl, Or.inr (Or.inr ⟨by omega, hno, tp2, mt7, ms7, wl7, od7, hLh, Or.inr ⟨ow3, tp3, hlb, trivial, hC⟩⟩)⟩
    · refine W.eq (g2 := F0 m 12 ls [.int (nI (cnt (fun k => (bgn ow2 tad k).isSome) (Wn / 4) - (flw (okC tad (Wn / 4)) fl rfs 401 0 (rmb (okC tad (Wn / 4)) fl rfs own tad trm (Wn / 4) (Wn - Wn / 4) (mtN (okC tad (Wn / 4)) root 16 []))).length))]) rfl ?_
      have hcl := cnt_le (fun k => (bgn ow2 tad k).isSome) (Wn / 4)
      refine lv_bipush (v := -4) S.1 S.2.1 dX0_clearRoomFor_12 (by decide) ?_
      refine lv_icmp_ne (tgt := 22) S.1 S.2.1 dX0_clearRoomFor_14 (by decide) (fun c1 => ?_) (fun c1 => ?_)
      · exact mw_vret S hr hlk hK hG dX0_clearRoomFor_22 ⟨rfl, Or.inr (Or.inl ⟨by omega, mt6, ms6, wl6, od6, hLg, ow2, tp2, hla, hC⟩)⟩
      · exact absurd c1 (nI_m4 (by omega))
