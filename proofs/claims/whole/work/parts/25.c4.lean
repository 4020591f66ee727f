/-- where the class's objects lie -/
def LyC (made Wn : Nat) (fl tad : Nat → Nat) (own : Nat → Option Nat) : Prop := ∀ x t, own x = some t → t < made ∧ tad t ≤ x ∧ x ≤ tad t + fl t ∧ tad t + fl t < Wn ∧ ∀ y, tad t ≤ y → y ≤ tad t + fl t → own y = some t
def unm (wlk : Nat → Nat) (cur : Nat) : Nat → Bool := fun t => !decide (wlk t = cur)
def dd (f k : Nat) (tad : Nat → Nat) (u : Nat → Bool) : Nat → Bool := fun t => decide (f ≤ tad t ∧ tad t < k) && u t
def cw (f : Nat) (own : Nat → Option Nat) (tad : Nat → Nat) (u : Nat → Bool) : Nat → Bool := fun k => decide (f ≤ k) && (match bgn own tad k with | none => false | some t => u t)
theorem dd_0 (f : Nat) (tad : Nat → Nat) (u : Nat → Bool) : dd f f tad u = fun _ => false := by
  funext t
  unfold dd
  rw [decide_eq_false (by omega)]
  rfl
theorem cw_0 (f : Nat) (own : Nat → Option Nat) (tad : Nat → Nat) (u : Nat → Bool) : ∀ n, n ≤ f → cnt (cw f own tad u) n = 0
  | 0, _ => rfl
  | n + 1, h => by
    rw [cnt_s0 (by unfold cw; rw [decide_eq_false (by omega)]; rfl)]
    exact cw_0 f own tad u n (by omega)
theorem dd_s {f k : Nat} {tad : Nat → Nat} {u : Nat → Bool} {t : Nat} (hf : f ≤ k) : dd f (k + 1) tad u t = (dd f k tad u t || (decide (tad t = k) && u t)) := by
  unfold dd
  by_cases h : tad t = k
  · rw [decide_eq_true (show f ≤ tad t ∧ tad t < k + 1 by omega), decide_eq_false (show ¬ (f ≤ tad t ∧ tad t < k) by omega), decide_eq_true h]
    simp
  · by_cases h2 : f ≤ tad t ∧ tad t < k
    · rw [decide_eq_true h2, decide_eq_true (show f ≤ tad t ∧ tad t < k + 1 by omega), decide_eq_false h]
      simp
    · rw [decide_eq_false h2, decide_eq_false (show ¬ (f ≤ tad t ∧ tad t < k + 1) by omega), decide_eq_false h]
      simp
theorem swO_at {c : Nat → Bool} {own : Nat → Option Nat} {k t : Nat} (h : own k = some t) (h2 : c t = false) : swO c own k = some t := by
  unfold swO; rw [h]; simp [h2]
theorem bgn_sw {f k : Nat} {own : Nat → Option Nat} {tad : Nat → Nat} {u : Nat → Bool} : bgn (swO (dd f k tad u) own) tad k = bgn own tad k := by
  cases h : own k with
  | none => rw [bgn_n h, bgn_n (by unfold swO; rw [h])]
  | some t =>
    by_cases h2 : tad t = k
    · rw [bgn_s h h2, bgn_s (swO_at h (by unfold dd; rw [decide_eq_false (by omega)]; rfl)) h2]
    · rw [bgn_x h h2]
      cases h3 : dd f k tad u t with
      | false => exact bgn_x (swO_at h h3) h2
      | true => exact bgn_n (by unfold swO; rw [h]; simp [h3])
theorem sw_keep {made Wn f k : Nat} {fl tad : Nat → Nat} {own : Nat → Option Nat} {u : Nat → Bool} (hf : f ≤ k) (hL : LyC made Wn fl tad own) (h : ∀ t, bgn own tad k = some t → u t = false) : swO (dd f k tad u) own = swO (dd f (k + 1) tad u) own := by
  funext x
  unfold swO
  cases hx : own x with
  | none => rfl
  | some t =>
    simp only [dd_s hf]
    by_cases h2 : tad t = k
    · obtain ⟨-, h3, h4, h5, h6⟩ := hL x t hx
      have h7 := h6 k (by omega) (by omega)
      rw [h t (bgn_s h7 h2)]
      simp
    · simp [h2]
theorem sw_die {made Wn f k t : Nat} {fl tad : Nat → Nat} {own : Nat → Option Nat} {u : Nat → Bool} (hf : f ≤ k) (hL : LyC made Wn fl tad own) (hb : bgn own tad k = some t) (hu : u t = true) : fillO (swO (dd f k tad u) own) k (fl t + 1) none = swO (dd f (k + 1) tad u) own := by
  obtain ⟨hk, htk⟩ := bgn_own hb
  obtain ⟨-, -, -, -, h6⟩ := hL k t hk
  funext x
  unfold fillO
  by_cases hx : k ≤ x ∧ x < k + (fl t + 1)
  · rw [if_pos hx]
    have h7 := h6 x (by omega) (by omega)
    unfold swO
    rw [h7]
    simp [dd_s hf, htk, hu]
  · rw [if_neg hx]
    unfold swO
    cases ho : own x with
    | none => rfl
    | some v =>
      simp only [dd_s hf]
      by_cases h2 : tad v = k
      · exfalso
        obtain ⟨-, g3, g4, g5, g6⟩ := hL x v ho
        have h8 := g6 k (by omega) (by omega)
        rw [hk] at h8
        cases h8
        omega
      · simp [h2]
theorem LyC_b {made Wn : Nat} {fl tad : Nat → Nat} {own : Nat → Option Nat} (h : LyC made Wn fl tad own) : ∀ k t, own k = some t → t < made := fun k t ht => (h k t ht).1
/-- sums -/
def smT (num : Nat → Nat → Int32) (rfs : Nat → Nat → Option Nat) (idx : Nat → Nat) (k j : Nat) : Int64 := match rfs k j with
  | none => 2 * (num k j).toInt64
  | some t => 2 * (nI (idx t)).toInt64 + 1
def smR (num : Nat → Nat → Int32) (rfs : Nat → Nat → Option Nat) (idx : Nat → Nat) (k : Nat) : Nat → Int64 → Int64
  | 0, s => s
  | j + 1, s => 31 * smR num rfs idx k j s + smT num rfs idx k j
def smO (fl : Nat → Nat) (num : Nat → Nat → Int32) (rfs : Nat → Nat → Option Nat) (idx : Nat → Nat) (s : Int64) (k : Nat) : Int64 := smR num rfs idx k (fl k) (31 * s + (nI (fl k)).toInt64)
theorem smT_n {num : Nat → Nat → Int32} {rfs : Nat → Nat → Option Nat} {idx : Nat → Nat} {k j : Nat} (h : rfs k j = none) : smT num rfs idx k j = 2 * (num k j).toInt64 := by unfold smT; rw [h]
theorem smT_s {num : Nat → Nat → Int32} {rfs : Nat → Nat → Option Nat} {idx : Nat → Nat} {k j t : Nat} (h : rfs k j = some t) : smT num rfs idx k j = 2 * (nI (idx t)).toInt64 + 1 := by unfold smT; rw [h]
theorem swO_own {c : Nat → Bool} {own : Nat → Option Nat} {k t : Nat} (h : swO c own k = some t) : own k = some t := by
  unfold swO at h
  split at h
  · cases h
  · split at h
    · cases h
    · rename_i u hu _; cases h; exact hu
theorem cal_X2_walkFromRoots : mCal yX2_walkFromRoots cX2_walkFromRoots 1 0 none := ⟨in_297, by decide +kernel⟩
set_option maxHeartbeats 4000000 in
set_option maxRecDepth 100000 in
theorem e_walkFromRoots {l : Launch} {dC : Nat → ClassId} {dI : Nat → Nat → Nat} {cI cZ cT : ClassId} {q : Nat → Nat} {kp : Nat} {Wn : Nat} {made : Nat} {fl : (Nat → Nat)} {num : (Nat → Nat → Int32)} {rfs : (Nat → Nat → Option Nat)} {root : (Nat → Option Nat)} {own : (Nat → Option Nat)} {tad : (Nat → Nat)} {trm : (Nat → Bool)} {tpl : (Nat → Nat)} {wlk : (Nat → Nat)} {ord : (Nat → Nat)} {met : (Nat → Option Nat)} {msz : Nat} {cur : Nat} {mend : Nat} {pnx : Nat} {pen : Nat} {st : Nat} {coll : Nat} {mins : Nat} {movd : Nat} {Kp : Nat → Prop} (hB : ∀ M : List Nat, M.Nodup → (∀ x ∈ M, Kp x) → M.length ≤ Wn) (hKm : ∀ x, Kp x → x < made) (hKf : ∀ x, Kp x → ∀ i, i < fl x → ∀ t, rfs x i = some t → Kp t) (hfl : ∀ x, x < made → fl x ≤ 6) {w : mM} (hC : CW cI cT q kp Wn made fl num rfs root own tad trm tpl wlk ord met msz cur mend pnx pen st coll mins movd w) (hW4 : Wn ≤ 400) (hcb : cur + 1 < 2147483648) (htb : ∀ t, t < made → tad t < 2147483648) (hwb : ∀ o, o < made → wlk o ≤ cur) (hmt : ∀ k t, met k = some t → t < made) (hKr : ∀ i, i < 16 → ∀ t, root i = some t → Kp t) : mC l yX2_walkFromRoots (wsY yX2_walkFromRoots cX2_walkFromRoots 1 none) { frames := 3, cells := 0, slots := 0, locals := 64 } (dC, dI) vwCl (tyL cI cZ cT) 0 0 w [.ref (q 5)] (fun v w2 => v = none ∧ ∃ (mt3 : Nat → Option Nat) (ms3 : Nat) (wl3 od3 : Nat → Nat), CW cI cT q kp Wn made fl num rfs root own tad trm tpl wl3 od3 mt3 ms3 ((cur + 1)) Wn pnx pen st coll mins movd w2 ∧ LsC made (cur + 1) ms3 mt3 wl3 od3 (flw (okC tad Wn) fl rfs 401 0 (mtN (okC tad Wn) root 16 []))) := by
  refine mC.on (by decide) (Nat.le_of_ble_eq_true rfl) ?_
  intro p e s m args below meth c ls S hr hlk hnm hK hN hG hl
  have hl : lv_has ls 1 [(0, .ref (q 5))] := hl
  generalize hAe : mA w s.heap.size = A at hG ⊢
  refine lv_aload_n S.1 S.2.1 dX2_walkFromRoots_0 rfl (lv_at hl 0 rfl) ?_
  refine cg_RX2_30 S hK hG hC dX2_walkFromRoots_1 ?_
  refine lv_aload_n S.1 S.2.1 dX2_walkFromRoots_4 rfl (lv_at hl 0 rfl) ?_
  refine cg_RX2_9 S hK hG hC dX2_walkFromRoots_5 ?_
  refine mCV (As := []) (rest := [.ref (q 6)]) S (w_length hC) cal_X8_length in_84 in_85 in_86 in_18 hK hN hG hC.obj8 rfl rfl rfl hl.1 (Nat.le_of_ble_eq_true rfl) ⟨by decide, by decide⟩ ⟨rfl, rfl⟩ ⟨by decide, by decide⟩ dX2_walkFromRoots_8 (fun v w H locs hp hG => ?_)
  obtain ⟨rfl, hw9⟩ := hp
  have hw9 := hw9.symm
  subst hw9
  refine W.eq (g2 := F0 m 11 ls [.int (nI (Wn)), .ref (q 6)]) rfl ?_
  refine mCV (As := [.int (nI (Wn))]) (rest := []) S (k_begin hC Wn) cal_X7_begin in_298 in_188 in_189 in_79 hK hN hG hC.obj7 rfl rfl rfl hl.1 (Nat.le_of_ble_eq_true rfl) ⟨by decide, by decide⟩ ⟨rfl, rfl⟩ ⟨by decide, by decide⟩ dX2_walkFromRoots_11 (fun v w H locs hp hG => ?_)
  obtain ⟨rfl, hC⟩ := hp
  refine W.eq (g2 := F0 m 14 ls []) rfl ?_
  refine lv_aload_n S.1 S.2.1 dX2_walkFromRoots_14 rfl (lv_at hl 0 rfl) ?_
  refine cg_RX2_30 S hK hG hC dX2_walkFromRoots_15 ?_
  refine lv_aload_n S.1 S.2.1 dX2_walkFromRoots_18 rfl (lv_at hl 0 rfl) ?_
  refine cg_RX2_15 S hK hG hC dX2_walkFromRoots_19 ?_
  refine mCV (As := [.ref (q 3)]) (rest := []) S (k_meetRoots hB hKm hKf hfl hC hW4 hcb hW4 htb (LsC_nil hwb hmt) (fun x hx => absurd hx List.not_mem_nil) hKr) cal_X7_meetRoots in_299 in_192 in_193 in_79 hK hN hG hC.obj7 rfl rfl rfl hl.1 (Nat.le_of_ble_eq_true rfl) ⟨by decide, by decide⟩ ⟨rfl, rfl⟩ ⟨by decide, by decide⟩ dX2_walkFromRoots_22 (fun v w H locs hp hG => ?_)
  obtain ⟨rfl, mt4, ms4, wl4, od4, hC, hLe⟩ := hp
  refine W.eq (g2 := F0 m 25 ls []) rfl ?_
  refine lv_aload_n S.1 S.2.1 dX2_walkFromRoots_25 rfl (lv_at hl 0 rfl) ?_
  refine cg_RX2_30 S hK hG hC dX2_walkFromRoots_26 ?_
  refine mCV (As := []) (rest := []) S (k_follow hB hKm hKf hfl hC hW4 hcb hW4 htb hLe (mtN_all (fun x hx => absurd hx List.not_mem_nil) 16 (fun i hi t ht _ => hKr i hi t ht))) cal_X7_follow in_300 in_236 in_237 in_79 hK hN hG hC.obj7 rfl rfl rfl hl.1 (Nat.le_of_ble_eq_true rfl) ⟨by decide, by decide⟩ ⟨rfl, rfl⟩ ⟨by decide, by decide⟩ dX2_walkFromRoots_29 (fun v w H locs hp hG => ?_)
  obtain ⟨rfl, mt5, ms5, wl5, od5, hC, hLf⟩ := hp
  refine W.eq (g2 := F0 m 32 ls []) rfl ?_
  exact mw_vret S hr hlk hK hG dX2_walkFromRoots_32 ⟨rfl, mt5, ms5, wl5, od5, hC, hLf⟩
theorem cal_X2_reachedThings : mCal yX2_reachedThings cX2_reachedThings 1 0 (some .int) := ⟨in_627, by decide +kernel⟩
set_option maxHeartbeats 4000000 in
set_option maxRecDepth 100000 in
theorem e_reachedThings {l : Launch} {dC : Nat → ClassId} {dI : Nat → Nat → Nat} {cI cZ cT : ClassId} {q : Nat → Nat} {kp : Nat} {Wn : Nat} {made : Nat} {fl : (Nat → Nat)} {num : (Nat → Nat → Int32)} {rfs : (Nat → Nat → Option Nat)} {root : (Nat → Option Nat)} {own : (Nat → Option Nat)} {tad : (Nat → Nat)} {trm : (Nat → Bool)} {tpl : (Nat → Nat)} {wlk : (Nat → Nat)} {ord : (Nat → Nat)} {met : (Nat → Option Nat)} {msz : Nat} {cur : Nat} {mend : Nat} {pnx : Nat} {pen : Nat} {st : Nat} {coll : Nat} {mins : Nat} {movd : Nat} {Kp : Nat → Prop} (hB : ∀ M : List Nat, M.Nodup → (∀ x ∈ M, Kp x) → M.length ≤ Wn) (hKm : ∀ x, Kp x → x < made) (hKf : ∀ x, Kp x → ∀ i, i < fl x → ∀ t, rfs x i = some t → Kp t) (hfl : ∀ x, x < made → fl x ≤ 6) {w : mM} (hC : CW cI cT q kp Wn made fl num rfs root own tad trm tpl wlk ord met msz cur mend pnx pen st coll mins movd w) (hW4 : Wn ≤ 400) (hcb : cur + 1 < 2147483648) (htb : ∀ t, t < made → tad t < 2147483648) (hwb : ∀ o, o < made → wlk o ≤ cur) (hmt : ∀ k t, met k = some t → t < made) (hKr : ∀ i, i < 16 → ∀ t, root i = some t → Kp t) (hkp3 : kp ≤ 2) : mC l yX2_reachedThings (wsY yX2_reachedThings cX2_reachedThings 1 (some .int)) { frames := 4, cells := 0, slots := 0, locals := 84 } (dC, dI) vwCl (tyL cI cZ cT) 0 0 w [.ref (q 5)] (fun v w2 => v = some (.int (nI (flw (okC tad Wn) fl rfs 401 0 (mtN (okC tad Wn) root 16 [])).length)) ∧ ∃ (mt3 : Nat → Option Nat) (ms3 : Nat) (wl3 od3 : Nat → Nat), CW cI cT q kp Wn made fl num rfs root own tad trm tpl wl3 od3 mt3 ms3 ((cur + 1)) Wn pnx pen st coll mins movd w2 ∧ LsC made (cur + 1) ms3 mt3 wl3 od3 (flw (okC tad Wn) fl rfs 401 0 (mtN (okC tad Wn) root 16 []))) := by
  refine mC.on (by decide) (Nat.le_of_ble_eq_true rfl) ?_
  intro p e s m args below meth c ls S hr hlk hnm hK hN hG hl
  have hl : lv_has ls 1 [(0, .ref (q 5))] := hl
  generalize hAe : mA w s.heap.size = A at hG ⊢
  refine lv_aload_n S.1 S.2.1 dX2_reachedThings_0 rfl (lv_at hl 0 rfl) ?_
  rcases (show kp = 0 ∨ kp = 1 ∨ kp = 2 by omega) with hkp | hkp | hkp
  · refine mCU (As := []) (rest := []) S (e_walkFromRoots hB hKm hKf hfl hC hW4 hcb htb hwb hmt hKr) (va_cwU (owner := "KeptHeap$Keeper") (x := ⟨"KeptHeap$Keeper", "walkFromRoots", "()V"⟩) 0 S.2.2.2.2 (mGU (own := RX2) (index := 44) (x := ⟨"KeptHeap$Keeper", "walkFromRoots", "()V"⟩) (owner := "KeptHeap$Keeper") in_297 in_628 in_629 in_632 in_296 in_72) rfl rfl rfl rfl (by decide +kernel) ⟨by decide, by decide⟩) hK hN hG (hC.obj5 hkp) rfl rfl rfl hl.1 (Nat.le_of_ble_eq_true rfl) ⟨by decide, by decide⟩ dX2_reachedThings_1 (fun v w H locs hp hG => ?_)
    obtain ⟨rfl, mt5, ms5, wl5, od5, hC, hLf⟩ := hp
    refine W.eq (g2 := F0 m 4 ls []) rfl ?_
    refine lv_aload_n S.1 S.2.1 dX2_reachedThings_4 rfl (lv_at hl 0 rfl) ?_
    refine cg_RX2_30 S hK hG hC dX2_reachedThings_5 ?_
    refine mCV (As := []) (rest := []) S (k_size hC) cal_X7_size in_633 in_246 in_247 in_79 hK hN hG hC.obj7 rfl rfl rfl hl.1 (Nat.le_of_ble_eq_true rfl) ⟨by decide, by decide⟩ ⟨rfl, rfl⟩ ⟨by decide, by decide⟩ dX2_reachedThings_8 (fun v w H locs hp hG => ?_)
    obtain ⟨rfl, hw9⟩ := hp
    have hw9 := hw9.symm
    subst hw9
    refine W.eq (g2 := F0 m 11 ls [.int (nI (ms5))]) rfl ?_
    exact mw_iret S hr hlk hK hG dX2_reachedThings_11 ⟨by rw [hLf.2.1], mt5, ms5, wl5, od5, hC, hLf⟩
  · refine mCU (As := []) (rest := []) S (e_walkFromRoots hB hKm hKf hfl hC hW4 hcb htb hwb hmt hKr) (va_cwU (owner := "KeptHeap$Keeper") (x := ⟨"KeptHeap$Keeper", "walkFromRoots", "()V"⟩) 0 S.2.2.2.2 (mGU (own := RX2) (index := 44) (x := ⟨"KeptHeap$Keeper", "walkFromRoots", "()V"⟩) (owner := "KeptHeap$Keeper") in_297 in_628 in_629 in_631 in_296 in_72) rfl rfl rfl rfl (by decide +kernel) ⟨by decide, by decide⟩) hK hN hG (hC.obj1 hkp) rfl rfl rfl hl.1 (Nat.le_of_ble_eq_true rfl) ⟨by decide, by decide⟩ dX2_reachedThings_1 (fun v w H locs hp hG => ?_)
    obtain ⟨rfl, mt5, ms5, wl5, od5, hC, hLf⟩ := hp
    refine W.eq (g2 := F0 m 4 ls []) rfl ?_
    refine lv_aload_n S.1 S.2.1 dX2_reachedThings_4 rfl (lv_at hl 0 rfl) ?_
    refine cg_RX2_30 S hK hG hC dX2_reachedThings_5 ?_
    refine mCV (As := []) (rest := []) S (k_size hC) cal_X7_size in_633 in_246 in_247 in_79 hK hN hG hC.obj7 rfl rfl rfl hl.1 (Nat.le_of_ble_eq_true rfl) ⟨by decide, by decide⟩ ⟨rfl, rfl⟩ ⟨by decide, by decide⟩ dX2_reachedThings_8 (fun v w H locs hp hG => ?_)
    obtain ⟨rfl, hw9⟩ := hp
    have hw9 := hw9.symm
    subst hw9
    refine W.eq (g2 := F0 m 11 ls [.int (nI (ms5))]) rfl ?_
    exact mw_iret S hr hlk hK hG dX2_reachedThings_11 ⟨by rw [hLf.2.1], mt5, ms5, wl5, od5, hC, hLf⟩
  · refine mCU (As := []) (rest := []) S (e_walkFromRoots hB hKm hKf hfl hC hW4 hcb htb hwb hmt hKr) (va_cwU (owner := "KeptHeap$Keeper") (x := ⟨"KeptHeap$Keeper", "walkFromRoots", "()V"⟩) 0 S.2.2.2.2 (mGU (own := RX2) (index := 44) (x := ⟨"KeptHeap$Keeper", "walkFromRoots", "()V"⟩) (owner := "KeptHeap$Keeper") in_297 in_628 in_629 in_630 in_296 in_72) rfl rfl rfl rfl (by decide +kernel) ⟨by decide, by decide⟩) hK hN hG (hC.obj0 hkp) rfl rfl rfl hl.1 (Nat.le_of_ble_eq_true rfl) ⟨by decide, by decide⟩ dX2_reachedThings_1 (fun v w H locs hp hG => ?_)
    obtain ⟨rfl, mt5, ms5, wl5, od5, hC, hLf⟩ := hp
    refine W.eq (g2 := F0 m 4 ls []) rfl ?_
    refine lv_aload_n S.1 S.2.1 dX2_reachedThings_4 rfl (lv_at hl 0 rfl) ?_
    refine cg_RX2_30 S hK hG hC dX2_reachedThings_5 ?_
    refine mCV (As := []) (rest := []) S (k_size hC) cal_X7_size in_633 in_246 in_247 in_79 hK hN hG hC.obj7 rfl rfl rfl hl.1 (Nat.le_of_ble_eq_true rfl) ⟨by decide, by decide⟩ ⟨rfl, rfl⟩ ⟨by decide, by decide⟩ dX2_reachedThings_8 (fun v w H locs hp hG => ?_)
    obtain ⟨rfl, hw9⟩ := hp
    have hw9 := hw9.symm
    subst hw9
    refine W.eq (g2 := F0 m 11 ls [.int (nI (ms5))]) rfl ?_
    exact mw_iret S hr hlk hK hG dX2_reachedThings_11 ⟨by rw [hLf.2.1], mt5, ms5, wl5, od5, hC, hLf⟩
theorem cal_X2_sweepFrom : mCal yX2_sweepFrom cX2_sweepFrom 5 1 (some .int) := ⟨in_305, by decide +kernel⟩
set_option maxHeartbeats 4000000 in
set_option maxRecDepth 100000 in
theorem e_sweepFrom {l : Launch} {dC : Nat → ClassId} {dI : Nat → Nat → Nat} {cI cZ cT : ClassId} {q : Nat → Nat} {kp : Nat} {Wn : Nat} {made : Nat} {fl : (Nat → Nat)} {num : (Nat → Nat → Int32)} {rfs : (Nat → Nat → Option Nat)} {root : (Nat → Option Nat)} {own : (Nat → Option Nat)} {tad : (Nat → Nat)} {trm : (Nat → Bool)} {tpl : (Nat → Nat)} {wlk : (Nat → Nat)} {ord : (Nat → Nat)} {met : (Nat → Option Nat)} {msz : Nat} {cur : Nat} {mend : Nat} {pnx : Nat} {pen : Nat} {st : Nat} {coll : Nat} {mins : Nat} {movd : Nat} {w : mM} (hC : CW cI cT q kp Wn made fl num rfs root own tad trm tpl wlk ord met msz cur mend pnx pen st coll mins movd w) (hW : Wn < 1000) (hcb : cur < 2147483648) (hwb : ∀ t, t < made → wlk t ≤ cur) (htb : ∀ t, t < made → tad t < 2147483648) (hLy : LyC made Wn fl tad own) (f : Nat) (hf : f ≤ Wn) : mC l yX2_sweepFrom (wsY yX2_sweepFrom cX2_sweepFrom 5 (some .int)) { frames := 2, cells := 0, slots := 0, locals := 47 } (dC, dI) vwCl (tyL cI cZ cT) 0 0 w [.ref (q 5), .int (nI (f))] (fun v w2 => v = some (.int (nI (cnt (cw f own tad (unm wlk cur)) Wn))) ∧ CW cI cT q kp Wn made fl num rfs root (swO (dd f Wn tad (unm wlk cur)) own) tad trm tpl wlk ord met msz cur mend pnx pen st coll mins movd w2) := by
  refine mC.on (by decide) (Nat.le_of_ble_eq_true rfl) ?_
  intro p e s m args below meth c ls S hr hlk hnm hK hN hG hl
  have hl : lv_has ls 5 [(0, .ref (q 5)), (1, .int (nI (f)))] := hl
  generalize hAe : mA w s.heap.size = A at hG ⊢
  refine lv_iconst (v := nI (0)) S.1 S.2.1 dX2_sweepFrom_0 (by decide) ?_
  refine lv_istore_n (lv' := [(2, .int (nI (0))), (0, .ref (q 5)), (1, .int (nI (f)))]) S.1 S.2.1 dX2_sweepFrom_1 rfl hl (by decide) rfl (fun ls hl => ?_)
  refine lv_iload_n S.1 S.2.1 dX2_sweepFrom_2 rfl (lv_at hl 2 rfl) ?_
  refine lv_istore_n (lv' := [(3, .int (nI (f))), (2, .int (nI (0))), (0, .ref (q 5)), (1, .int (nI (f)))]) S.1 S.2.1 dX2_sweepFrom_3 rfl hl (by decide) rfl (fun ls hl => ?_)
  have L : ∀ (fu : Nat) (k : Nat), Wn - k < fu → (k ≤ Wn) → (f ≤ k) → ∀ (w : mM) (H : Heap) (locs : List Loc), CW cI cT q kp Wn made fl num rfs root (swO (dd f k tad (unm wlk cur)) own) tad trm tpl wlk ord met msz cur mend pnx pen st coll mins movd w → mG (dC, dI) vwCl A s.heap w H locs → ∀ ls : Array Slot, lv_has ls 5 [(3, .int (nI (k))), (2, .int (nI (cnt (cw f own tad (unm wlk cur)) k))), (0, .ref (q 5)), (1, .int (nI (f)))] → W p l e { frames := 2, cells := 0, slots := 0, locals := 47 } s m args below meth c H locs 0 0 (MQ below (mQ (dC, dI) vwCl (tyL cI cZ cT) (fun v w2 => v = some (.int (nI (cnt (cw f own tad (unm wlk cur)) Wn))) ∧ CW cI cT q kp Wn made fl num rfs root (swO (dd f Wn tad (unm wlk cur)) own) tad trm tpl wlk ord met msz cur mend pnx pen st coll mins movd w2) A) args s 0 0 A) (F0 m 4 ls []) := by
    intro fu
    induction fu with
    | zero => intro k h1; exact absurd h1 (Nat.not_lt_zero _)
    | succ fu ihL =>
      intro k h1 h2 h3 w H locs hC hG ls hl
      have hob2 : ∀ x t, swO (dd f k tad (unm wlk cur)) own x = some t → t < made := fun x t ht => (hLy x t (swO_own ht)).1
      refine lv_iload_n S.1 S.2.1 dX2_sweepFrom_4 rfl (lv_at hl 0 rfl) ?_
      refine lv_aload_n S.1 S.2.1 dX2_sweepFrom_5 rfl (lv_at hl 2 rfl) ?_
      refine cg_RX2_9 S hK hG hC dX2_sweepFrom_6 ?_
      refine mCV (As := []) (rest := [.int (nI (k))]) S (w_length hC) cal_X8_length in_84 in_85 in_86 in_18 hK hN hG hC.obj8 rfl rfl rfl hl.1 (Nat.le_of_ble_eq_true rfl) ⟨by decide, by decide⟩ ⟨rfl, rfl⟩ ⟨by decide, by decide⟩ dX2_sweepFrom_9 (fun v w H locs hp hG => ?_)
      obtain ⟨rfl, hw9⟩ := hp
      have hw9 := hw9.symm
      subst hw9
      refine W.eq (g2 := F0 m 12 ls [.int (nI (Wn)), .int (nI (k))]) rfl ?_
      refine lv_icmp_ge (tgt := 65) S.1 S.2.1 dX2_sweepFrom_12 (by decide) (fun c1 => ?_) (fun c1 => ?_)
      · have c1 : Wn ≤ k := (nI_leI (a := Wn) (b := k) (by omega) (by omega)).mp c1
        have hk : k = Wn := by omega
        rw [hk] at hC hl
        refine lv_iload_n S.1 S.2.1 dX2_sweepFrom_65 rfl (lv_at hl 1 rfl) ?_
        exact mw_iret S hr hlk hK hG dX2_sweepFrom_66 ⟨rfl, hC⟩
      · have c1 : ¬ (Wn ≤ k) := fun h9 => c1 ((nI_leI (a := Wn) (b := k) (by omega) (by omega)).mpr h9)
        refine lv_aload_n S.1 S.2.1 dX2_sweepFrom_15 rfl (lv_at hl 2 rfl) ?_
        refine cg_RX2_9 S hK hG hC dX2_sweepFrom_16 ?_
        refine lv_iload_n S.1 S.2.1 dX2_sweepFrom_19 rfl (lv_at hl 0 rfl) ?_
        refine mCV (As := [.int (nI (k))]) (rest := []) S (w_beginningAt hC hob2 hW htb k (by omega)) cal_X8_beginningAt in_306 in_213 in_214 in_18 hK hN hG hC.obj8 rfl rfl rfl hl.1 (Nat.le_of_ble_eq_true rfl) ⟨by decide, by decide⟩ ⟨rfl, rfl⟩ ⟨by decide, by decide⟩ dX2_sweepFrom_20 (fun v w H locs hp hG => ?_)
        obtain ⟨rfl, hw9⟩ := hp
        have hw9 := hw9.symm
        subst hw9
        rw [bgn_sw]
        refine W.eq (g2 := F0 m 23 ls [va_rf ((bgn own tad k).map (tq q))]) rfl ?_
        refine lw_astore (lv' := [(4, va_rf ((bgn own tad k).map (tq q))), (3, .int (nI (k))), (2, .int (nI (cnt (cw f own tad (unm wlk cur)) k))), (0, .ref (q 5)), (1, .int (nI (f)))]) S.1 S.2.1 dX2_sweepFrom_23 hl (by decide) rfl (fun ls hl => ?_)
        refine lw_aload S.1 S.2.1 dX2_sweepFrom_25 (lv_at hl 0 rfl) ?_
        refine lw_ifnull (x := bgn own tad k) (tgt := 59) S.1 S.2.1 dX2_sweepFrom_27 (by decide) (fun c2 => ?_) (fun t c2 => ?_)
        · rw [sw_keep h3 hLy (fun t ht => by rw [c2] at ht; cases ht)] at hC
          refine lv_iinc (v := nI (k + 1)) (lv' := [(3, .int (nI (k + 1))), (4, va_rf ((bgn own tad k).map (tq q))), (2, .int (nI (cnt (cw f own tad (unm wlk cur)) k))), (0, .ref (q 5)), (1, .int (nI (f)))]) S.1 S.2.1 dX2_sweepFrom_59 hl (k := 1) rfl (nI_1 _) (by decide) rfl (fun ls hl => ?_)
          refine lv_goto (tgt := 4) S.1 S.2.1 dX2_sweepFrom_62 (by decide) ?_
          rw [← cnt_s0 (c := cw f own tad (unm wlk cur)) (by unfold cw; rw [c2]; simp)] at hl
          exact ihL (k + 1) (by omega) (by omega) (by omega) _ _ _ hC hG ls (lv_sub hl [0, 2, 3, 4] rfl)
        · have htm := (hLy k t (bgn_own c2).1).1
          have htt := (bgn_own c2).2
          rw [c2] at hl
          have hl : lv_has ls 5 [(4, .ref (tq q t)), (3, .int (nI (k))), (2, .int (nI (cnt (cw f own tad (unm wlk cur)) k))), (0, .ref (q 5)), (1, .int (nI (f)))] := hl
          refine lv_aload_n S.1 S.2.1 dX2_sweepFrom_30 rfl (lv_at hl 3 rfl) ?_
          refine cg_RX2_30 S hK hG hC dX2_sweepFrom_31 ?_
          refine lv_aload S.1 S.2.1 dX2_sweepFrom_34 (lv_at hl 0 rfl) ?_
          refine mCV (As := [.ref (tq q t)]) (rest := []) S (k_hasMet hC hcb hwb t htm) cal_X7_hasMet in_307 in_308 in_309 in_79 hK hN hG hC.obj7 rfl rfl rfl hl.1 (Nat.le_of_ble_eq_true rfl) ⟨by decide, by decide⟩ ⟨rfl, rfl⟩ ⟨by decide, by decide⟩ dX2_sweepFrom_36 (fun v w H locs hp hG => ?_)
          obtain ⟨rfl, hw9⟩ := hp
          have hw9 := hw9.symm
          subst hw9
          refine W.eq (g2 := F0 m 39 ls [.int (bI (decide (wlk t = cur)))]) rfl ?_
          refine lv_if_ne (tgt := 59) S.1 S.2.1 dX2_sweepFrom_39 (by decide) (fun c3 => ?_) (fun c3 => ?_)
          · have c3 : (unm wlk cur) t = false := by unfold unm; rw [bI_t c3]; rfl
            rw [sw_keep h3 hLy (fun u hu => by rw [c2] at hu; cases hu; exact c3)] at hC
            refine lv_iinc (v := nI (k + 1)) (lv' := [(3, .int (nI (k + 1))), (4, .ref (tq q t)), (2, .int (nI (cnt (cw f own tad (unm wlk cur)) k))), (0, .ref (q 5)), (1, .int (nI (f)))]) S.1 S.2.1 dX2_sweepFrom_59 hl (k := 1) rfl (nI_1 _) (by decide) rfl (fun ls hl => ?_)
            refine lv_goto (tgt := 4) S.1 S.2.1 dX2_sweepFrom_62 (by decide) ?_
            rw [← cnt_s0 (c := cw f own tad (unm wlk cur)) (by unfold cw; rw [c2]; simp [c3])] at hl
            exact ihL (k + 1) (by omega) (by omega) (by omega) _ _ _ hC hG ls (lv_sub hl [0, 2, 3, 4] rfl)
          · have c3 : (unm wlk cur) t = true := by unfold unm; rw [bI_f c3]; rfl
            obtain ⟨-, -, -, g5, -⟩ := hLy k t (bgn_own c2).1
            refine lv_aload_n S.1 S.2.1 dX2_sweepFrom_42 rfl (lv_at hl 3 rfl) ?_
            refine cg_RX2_9 S hK hG hC dX2_sweepFrom_43 ?_
            refine lv_iload_n S.1 S.2.1 dX2_sweepFrom_46 rfl (lv_at hl 1 rfl) ?_
            refine lv_aload S.1 S.2.1 dX2_sweepFrom_47 (lv_at hl 0 rfl) ?_
            refine mCV (As := []) (rest := [.int (nI (k)), .ref (q 1)]) S (t_size hC t htm) cal_X6_size in_311 in_254 in_255 in_142 hK hN hG (hC.th htm) rfl rfl rfl hl.1 (Nat.le_of_ble_eq_true rfl) ⟨by decide, by decide⟩ ⟨rfl, rfl⟩ ⟨by decide, by decide⟩ dX2_sweepFrom_49 (fun v w H locs hp hG => ?_)
            obtain ⟨rfl, hw9⟩ := hp
            have hw9 := hw9.symm
            subst hw9
            refine W.eq (g2 := F0 m 52 ls [.int (nI (fl t + 1)), .int (nI (k)), .ref (q 1)]) rfl ?_
            refine lv_null S.1 S.2.1 dX2_sweepFrom_52 ?_
            refine mCV (As := [.int (nI (k)), .int (nI (fl t + 1)), .null]) (rest := []) S (w_fill hC hW k (fl t + 1) (by omega) none (fun u hu => by cases hu)) cal_X8_fill in_312 in_259 in_260 in_18 hK hN hG hC.obj8 rfl rfl rfl hl.1 (Nat.le_of_ble_eq_true rfl) ⟨by decide, by decide⟩ ⟨rfl, rfl⟩ ⟨by decide, by decide⟩ dX2_sweepFrom_53 (fun v w H locs hp hG => ?_)
            obtain ⟨rfl, hC⟩ := hp
            refine W.eq (g2 := F0 m 56 ls []) rfl ?_
            rw [sw_die h3 hLy c2 c3] at hC
            refine lv_iinc (v := nI (cnt (cw f own tad (unm wlk cur)) k + 1)) (lv' := [(2, .int (nI (cnt (cw f own tad (unm wlk cur)) k + 1))), (4, .ref (tq q t)), (3, .int (nI (k))), (0, .ref (q 5)), (1, .int (nI (f)))]) S.1 S.2.1 dX2_sweepFrom_56 hl (k := 2) rfl (nI_1 _) (by decide) rfl (fun ls hl => ?_)
            refine lv_iinc (v := nI (k + 1)) (lv' := [(3, .int (nI (k + 1))), (2, .int (nI (cnt (cw f own tad (unm wlk cur)) k + 1))), (4, .ref (tq q t)), (0, .ref (q 5)), (1, .int (nI (f)))]) S.1 S.2.1 dX2_sweepFrom_59 hl (k := 2) rfl (nI_1 _) (by decide) rfl (fun ls hl => ?_)
            refine lv_goto (tgt := 4) S.1 S.2.1 dX2_sweepFrom_62 (by decide) ?_
            rw [← cnt_s1 (c := cw f own tad (unm wlk cur)) (by unfold cw; rw [c2]; simp [c3]; omega)] at hl
            exact ihL (k + 1) (by omega) (by omega) (by omega) _ _ _ hC hG ls (lv_sub hl [0, 1, 3, 4] rfl)
  exact L (Wn + 1) f (by omega) hf (by omega) _ _ _ (by rw [dd_0, swO_f]; exact hC) hG ls (by rw [cw_0 f own tad (unm wlk cur) f (Nat.le_refl f)]; exact lv_sub hl [0, 1, 2, 3] rfl)
def ntL (L : List Nat) : Nat → Bool := fun t => decide (t ∉ L)
theorem unm_nt {made cur msz t : Nat} {met : Nat → Option Nat} {wlk ord : Nat → Nat} {L : List Nat} (hL : LsC made cur msz met wlk ord L) (ht : t < made) : unm wlk cur t = ntL L t := by
  unfold unm ntL
  by_cases h : t ∈ L
  · rw [decide_eq_true ((hL.2.2.2.1 t ht).mpr h), decide_eq_false (fun z => z h)]; rfl
  · rw [decide_eq_false (fun z => h ((hL.2.2.2.1 t ht).mp z)), decide_eq_true h]; rfl
theorem sw_unm {made Wn cur msz f k : Nat} {fl tad : Nat → Nat} {own met : Nat → Option Nat} {wlk ord : Nat → Nat} {L : List Nat} (hLy : LyC made Wn fl tad own) (hL : LsC made cur msz met wlk ord L) : swO (dd f k tad (unm wlk cur)) own = swO (dd f k tad (ntL L)) own := by
  funext x
  unfold swO
  cases hx : own x with
  | none => rfl
  | some t =>
    simp only []
    unfold dd
    rw [unm_nt hL (hLy x t hx).1]
theorem cw_unm {made Wn cur msz f : Nat} {fl tad : Nat → Nat} {own met : Nat → Option Nat} {wlk ord : Nat → Nat} {L : List Nat} (hLy : LyC made Wn fl tad own) (hL : LsC made cur msz met wlk ord L) : cw f own tad (unm wlk cur) = cw f own tad (ntL L) := by
  funext k
  unfold cw
  cases hb : bgn own tad k with
  | none => rfl
  | some t => simp only [unm_nt hL (hLy k t (bgn_own hb).1).1]
theorem e_sweepFromL {l : Launch} {dC : Nat → ClassId} {dI : Nat → Nat → Nat} {cI cZ cT : ClassId} {q : Nat → Nat} {kp : Nat} {Wn : Nat} {made : Nat} {fl : (Nat → Nat)} {num : (Nat → Nat → Int32)} {rfs : (Nat → Nat → Option Nat)} {root : (Nat → Option Nat)} {own : (Nat → Option Nat)} {tad : (Nat → Nat)} {trm : (Nat → Bool)} {tpl : (Nat → Nat)} {wlk : (Nat → Nat)} {ord : (Nat → Nat)} {met : (Nat → Option Nat)} {msz : Nat} {cur : Nat} {mend : Nat} {pnx : Nat} {pen : Nat} {st : Nat} {coll : Nat} {mins : Nat} {movd : Nat} {w : mM} (hC : CW cI cT q kp Wn made fl num rfs root own tad trm tpl wlk ord met msz cur mend pnx pen st coll mins movd w) (hW : Wn < 1000) (hcb : cur < 2147483648) (htb : ∀ t, t < made → tad t < 2147483648) (hLy : LyC made Wn fl tad own) {L : List Nat} (hL : LsC made cur msz met wlk ord L) (f : Nat) (hf : f ≤ Wn) : mC l yX2_sweepFrom (wsY yX2_sweepFrom cX2_sweepFrom 5 (some .int)) { frames := 2, cells := 0, slots := 0, locals := 47 } (dC, dI) vwCl (tyL cI cZ cT) 0 0 w [.ref (q 5), .int (nI f)] (fun v w2 => v = some (.int (nI (cnt (cw f own tad (ntL L)) Wn))) ∧ CW cI cT q kp Wn made fl num rfs root (swO (dd f Wn tad (ntL L)) own) tad trm tpl wlk ord met msz cur mend pnx pen st coll mins movd w2) := by
  have h := e_sweepFrom (l := l) (dC := dC) (dI := dI) (cZ := cZ) hC hW hcb hL.hw htb hLy f hf
  rw [sw_unm hLy hL, cw_unm hLy hL] at h
  exact h
theorem cal_X2_sumWith : mCal yX2_sumWith cX2_sumWith 9 2 (some .long) := ⟨in_663, by decide +kernel⟩
set_option maxHeartbeats 4000000 in
set_option maxRecDepth 100000 in
theorem e_sumWith {l : Launch} {dC : Nat → ClassId} {dI : Nat → Nat → Nat} {cI cZ cT : ClassId} {q : Nat → Nat} {kp : Nat} {Wn : Nat} {made : Nat} {fl : (Nat → Nat)} {num : (Nat → Nat → Int32)} {rfs : (Nat → Nat → Option Nat)} {root : (Nat → Option Nat)} {own : (Nat → Option Nat)} {tad : (Nat → Nat)} {trm : (Nat → Bool)} {tpl : (Nat → Nat)} {wlk : (Nat → Nat)} {ord : (Nat → Nat)} {met : (Nat → Option Nat)} {msz : Nat} {cur : Nat} {mend : Nat} {pnx : Nat} {pen : Nat} {st : Nat} {coll : Nat} {mins : Nat} {movd : Nat} {w : mM} (hC : CW cI cT q kp Wn made fl num rfs root own tad trm tpl wlk ord met msz cur mend pnx pen st coll mins movd w) (hW : Wn < 1000) (b : Int64) (k : Nat) (hk : k < made) (hf : fl k ≤ 6) (hrb : ∀ j, j < fl k → ∀ t, rfs k j = some t → t < made) : mC l yX2_sumWith (wsY yX2_sumWith cX2_sumWith 9 (some .long)) { frames := 1, cells := 0, slots := 0, locals := 21 } (dC, dI) vwCl (tyL cI cZ cT) 0 0 w [.long (b), .ref (tq q k)] (fun v w2 => v = some (.long (smO fl num rfs ord b k)) ∧ w2 = w) := by
  refine mC.on (by decide) (Nat.le_of_ble_eq_true rfl) ?_
  intro p e s m args below meth c ls S hr hlk hnm hK hN hG hl
  have hl : lv_has ls 9 [(0, .long (b)), (2, .ref (tq q k))] := hl
  generalize hAe : mA w s.heap.size = A at hG ⊢
  refine lv_ldc2 S.1 S.2.1 S.2.2.2.1 (S.2.2.2.2 _ in_664) dX2_sumWith_0 ?_
  refine lv_lload_n S.1 S.2.1 dX2_sumWith_3 rfl (lv_at hl 0 rfl) ?_
  refine lv_lmul S.1 S.2.1 dX2_sumWith_4 ?_
  refine lv_aload_n S.1 S.2.1 dX2_sumWith_5 rfl (lv_at hl 1 rfl) ?_
  refine mCV (As := []) (rest := [.long ((31) * (b))]) S (t_fields hC k hk) cal_X6_fields in_667 in_226 in_227 in_142 hK hN hG (hC.th hk) rfl rfl rfl hl.1 (Nat.le_of_ble_eq_true rfl) ⟨by decide, by decide⟩ ⟨rfl, rfl⟩ ⟨by decide, by decide⟩ dX2_sumWith_6 (fun v w H locs hp hG => ?_)
  obtain ⟨rfl, hw9⟩ := hp
  have hw9 := hw9.symm
  subst hw9
  refine W.eq (g2 := F0 m 9 ls [.int (nI (fl k)), .long ((31) * (b))]) rfl ?_
  refine lv_i2l (v := (nI (fl k)).toInt64) S.1 S.2.1 dX2_sumWith_9 rfl ?_
  refine lv_ladd S.1 S.2.1 dX2_sumWith_10 ?_
  refine lv_lstore_n (lv' := [(3, .long (((31) * (b)) + ((nI (fl k)).toInt64))), (0, .long (b)), (2, .ref (tq q k))]) S.1 S.2.1 dX2_sumWith_11 rfl hl (by decide) rfl (fun ls hl => ?_)
  refine lv_iconst (v := nI (0)) S.1 S.2.1 dX2_sumWith_12 (by decide) ?_
  refine lv_istore (lv' := [(5, .int (nI (0))), (3, .long (((31) * (b)) + ((nI (fl k)).toInt64))), (0, .long (b)), (2, .ref (tq q k))]) S.1 S.2.1 dX2_sumWith_13 hl (by decide) rfl (fun ls hl => ?_)
  have L : ∀ (fu : Nat) (j : Nat), fl k - j < fu → (j ≤ fl k) → ∀ (H : Heap) (locs : List Loc), mG (dC, dI) vwCl A s.heap w H locs → ∀ ls : Array Slot, lv_has ls 9 [(5, .int (nI (j))), (3, .long (smR num rfs ord k j (31 * b + (nI (fl k)).toInt64))), (0, .long (b)), (2, .ref (tq q k))] → W p l e { frames := 1, cells := 0, slots := 0, locals := 21 } s m args below meth c H locs 0 0 (MQ below (mQ (dC, dI) vwCl (tyL cI cZ cT) (fun v w2 => v = some (.long (smO fl num rfs ord b k)) ∧ w2 = w) A) args s 0 0 A) (F0 m 15 ls []) := by
    intro fu
    induction fu with
    | zero => intro j h1; exact absurd h1 (Nat.not_lt_zero _)
    | succ fu ihL =>
      intro j h1 h2 H locs hG ls hl
      refine lv_iload S.1 S.2.1 dX2_sumWith_15 (lv_at hl 0 rfl) ?_
      refine lv_aload_n S.1 S.2.1 dX2_sumWith_17 rfl (lv_at hl 3 rfl) ?_
      refine mCV (As := []) (rest := [.int (nI (j))]) S (t_fields hC k hk) cal_X6_fields in_667 in_226 in_227 in_142 hK hN hG (hC.th hk) rfl rfl rfl hl.1 (Nat.le_of_ble_eq_true rfl) ⟨by decide, by decide⟩ ⟨rfl, rfl⟩ ⟨by decide, by decide⟩ dX2_sumWith_18 (fun v w H locs hp hG => ?_)
      obtain ⟨rfl, hw9⟩ := hp
      have hw9 := hw9.symm
      subst hw9
      refine W.eq (g2 := F0 m 21 ls [.int (nI (fl k)), .int (nI (j))]) rfl ?_
      refine lv_icmp_ge (tgt := 80) S.1 S.2.1 dX2_sumWith_21 (by decide) (fun c1 => ?_) (fun c1 => ?_)
      · have c1 : (fl k) ≤ j := (nI_leI (a := fl k) (b := j) (by omega) (by omega)).mp c1
        have hj : j = fl k := by omega
        rw [hj] at hl
        refine lv_lload_n S.1 S.2.1 dX2_sumWith_80 rfl (lv_at hl 1 rfl) ?_
        exact mw_lret S hr hlk hK hG dX2_sumWith_81 ⟨rfl, rfl⟩
      · have c1 : ¬ ((fl k) ≤ j) := fun h9 => c1 ((nI_leI (a := fl k) (b := j) (by omega) (by omega)).mpr h9)
        refine lv_aload_n S.1 S.2.1 dX2_sumWith_24 rfl (lv_at hl 3 rfl) ?_
        refine lv_iload S.1 S.2.1 dX2_sumWith_25 (lv_at hl 0 rfl) ?_
        refine mCV (As := [.int (nI (j))]) (rest := []) S (t_targetOf hC k hk hf (nI j)) cal_X6_targetOf in_668 in_231 in_232 in_142 hK hN hG (hC.th hk) rfl rfl rfl hl.1 (Nat.le_of_ble_eq_true rfl) ⟨by decide, by decide⟩ ⟨rfl, rfl⟩ ⟨by decide, by decide⟩ dX2_sumWith_27 (fun v w H locs hp hG => ?_)
        obtain ⟨rfl, hw9⟩ := hp
        have hw9 := hw9.symm
        subst hw9
        rw [if_pos (inR_nI (show j < fl k by omega) (by omega)), nI_clamp (by omega)]
        refine W.eq (g2 := F0 m 30 ls [va_rf ((rfs k j).map (tq q))]) rfl ?_
        refine lw_astore (lv' := [(6, va_rf ((rfs k j).map (tq q))), (5, .int (nI (j))), (3, .long (smR num rfs ord k j (31 * b + (nI (fl k)).toInt64))), (0, .long (b)), (2, .ref (tq q k))]) S.1 S.2.1 dX2_sumWith_30 hl (by decide) rfl (fun ls hl => ?_)
        refine lw_aload S.1 S.2.1 dX2_sumWith_32 (lv_at hl 0 rfl) ?_
        refine lw_ifnonnull (x := rfs k j) (tgt := 51) S.1 S.2.1 dX2_sumWith_34 (by decide) (fun c2 => ?_) (fun t c2 => ?_)
        · refine lv_ldc2 S.1 S.2.1 S.2.2.2.1 (S.2.2.2.2 _ in_665) dX2_sumWith_37 ?_
          refine lv_aload_n S.1 S.2.1 dX2_sumWith_40 rfl (lv_at hl 4 rfl) ?_
          refine lv_iload S.1 S.2.1 dX2_sumWith_41 (lv_at hl 1 rfl) ?_
          refine mCV (As := [.int (nI (j))]) (rest := [.long (2)]) S (t_numberOf hC k hk hf (nI j)) cal_X6_numberOf in_669 in_523 in_524 in_142 hK hN hG (hC.th hk) rfl rfl rfl hl.1 (Nat.le_of_ble_eq_true rfl) ⟨by decide, by decide⟩ ⟨rfl, rfl⟩ ⟨by decide, by decide⟩ dX2_sumWith_43 (fun v w H locs hp hG => ?_)
          obtain ⟨rfl, hw9⟩ := hp
          have hw9 := hw9.symm
          subst hw9
          rw [if_pos (inR_nI (show j < fl k by omega) (by omega)), nI_clamp (by omega)]
          refine W.eq (g2 := F0 m 46 ls [.int (num k j), .long (2)]) rfl ?_
          refine lv_i2l (v := (num k j).toInt64) S.1 S.2.1 dX2_sumWith_46 rfl ?_
          refine lv_lmul S.1 S.2.1 dX2_sumWith_47 ?_
          refine lv_goto (tgt := 63) S.1 S.2.1 dX2_sumWith_48 (by decide) ?_
          refine lv_eql (y := smT num rfs ord k j) ((smT_n c2).symm) ?_
          refine lv_lstore (lv' := [(7, .long (smT num rfs ord k j)), (6, va_rf ((rfs k j).map (tq q))), (5, .int (nI (j))), (3, .long (smR num rfs ord k j (31 * b + (nI (fl k)).toInt64))), (0, .long (b)), (2, .ref (tq q k))]) S.1 S.2.1 dX2_sumWith_63 hl (by decide) (by simp only [List.filter, rf_cat]; rfl) (fun ls hl => ?_)
          refine lv_ldc2 S.1 S.2.1 S.2.2.2.1 (S.2.2.2.2 _ in_664) dX2_sumWith_65 ?_
          refine lv_lload_n S.1 S.2.1 dX2_sumWith_68 rfl (lv_at hl 3 rfl) ?_
          refine lv_lmul S.1 S.2.1 dX2_sumWith_69 ?_
          refine lv_lload S.1 S.2.1 dX2_sumWith_70 (lv_at hl 0 rfl) ?_
          refine lv_ladd S.1 S.2.1 dX2_sumWith_72 ?_
          refine lv_lstore_n (lv' := [(3, .long (((31) * (smR num rfs ord k j (31 * b + (nI (fl k)).toInt64))) + (smT num rfs ord k j))), (7, .long (smT num rfs ord k j)), (6, va_rf ((rfs k j).map (tq q))), (5, .int (nI (j))), (0, .long (b)), (2, .ref (tq q k))]) S.1 S.2.1 dX2_sumWith_73 rfl hl (by decide) rfl (fun ls hl => ?_)
          refine lv_iinc (v := nI (j + 1)) (lv' := [(5, .int (nI (j + 1))), (3, .long (((31) * (smR num rfs ord k j (31 * b + (nI (fl k)).toInt64))) + (smT num rfs ord k j))), (7, .long (smT num rfs ord k j)), (6, va_rf ((rfs k j).map (tq q))), (0, .long (b)), (2, .ref (tq q k))]) S.1 S.2.1 dX2_sumWith_74 hl (k := 3) rfl (nI_1 _) (by decide) rfl (fun ls hl => ?_)
          refine lv_goto (tgt := 15) S.1 S.2.1 dX2_sumWith_77 (by decide) ?_
          exact ihL (j + 1) (by omega) (by omega) _ _ hG ls (lv_sub hl [0, 1, 4, 5] rfl)
        · have htm := hrb j (by omega) t c2
          rw [c2] at hl
          have hl : lv_has ls 9 [(6, .ref (tq q t)), (5, .int (nI (j))), (3, .long (smR num rfs ord k j (31 * b + (nI (fl k)).toInt64))), (0, .long (b)), (2, .ref (tq q k))] := hl
          refine lv_ldc2 S.1 S.2.1 S.2.2.2.1 (S.2.2.2.2 _ in_665) dX2_sumWith_51 ?_
          refine lv_aload S.1 S.2.1 dX2_sumWith_54 (lv_at hl 0 rfl) ?_
          refine cg_RX2_102 S hK hG hC (t) (by omega) dX2_sumWith_56 ?_
          refine lv_i2l (v := (nI (ord t)).toInt64) S.1 S.2.1 dX2_sumWith_59 rfl ?_
          refine lv_lmul S.1 S.2.1 dX2_sumWith_60 ?_
          refine lv_lconst (v := 1) S.1 S.2.1 dX2_sumWith_61 (by decide) ?_
          refine lv_ladd S.1 S.2.1 dX2_sumWith_62 ?_
          refine lv_eql (y := smT num rfs ord k j) ((smT_s c2).symm) ?_
          refine lv_lstore (lv' := [(7, .long (smT num rfs ord k j)), (6, .ref (tq q t)), (5, .int (nI (j))), (3, .long (smR num rfs ord k j (31 * b + (nI (fl k)).toInt64))), (0, .long (b)), (2, .ref (tq q k))]) S.1 S.2.1 dX2_sumWith_63 hl (by decide) rfl (fun ls hl => ?_)
          refine lv_ldc2 S.1 S.2.1 S.2.2.2.1 (S.2.2.2.2 _ in_664) dX2_sumWith_65 ?_
          refine lv_lload_n S.1 S.2.1 dX2_sumWith_68 rfl (lv_at hl 3 rfl) ?_
          refine lv_lmul S.1 S.2.1 dX2_sumWith_69 ?_
          refine lv_lload S.1 S.2.1 dX2_sumWith_70 (lv_at hl 0 rfl) ?_
          refine lv_ladd S.1 S.2.1 dX2_sumWith_72 ?_
          refine lv_lstore_n (lv' := [(3, .long (((31) * (smR num rfs ord k j (31 * b + (nI (fl k)).toInt64))) + (smT num rfs ord k j))), (7, .long (smT num rfs ord k j)), (6, .ref (tq q t)), (5, .int (nI (j))), (0, .long (b)), (2, .ref (tq q k))]) S.1 S.2.1 dX2_sumWith_73 rfl hl (by decide) rfl (fun ls hl => ?_)
          refine lv_iinc (v := nI (j + 1)) (lv' := [(5, .int (nI (j + 1))), (3, .long (((31) * (smR num rfs ord k j (31 * b + (nI (fl k)).toInt64))) + (smT num rfs ord k j))), (7, .long (smT num rfs ord k j)), (6, .ref (tq q t)), (0, .long (b)), (2, .ref (tq q k))]) S.1 S.2.1 dX2_sumWith_74 hl (k := 3) rfl (nI_1 _) (by decide) rfl (fun ls hl => ?_)
          refine lv_goto (tgt := 15) S.1 S.2.1 dX2_sumWith_77 (by decide) ?_
          exact ihL (j + 1) (by omega) (by omega) _ _ hG ls (lv_sub hl [0, 1, 4, 5] rfl)
  exact L (fl k + 1) 0 (by omega) (by omega) _ _ hG ls (lv_sub hl [0, 1, 2, 3] rfl)
