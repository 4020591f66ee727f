/-! THE REFERENCE: count and sum -/
def smW (adr : Nat → Option Nat) (fl : Nat → Nat) : Nat → Nat
  | 0 => 0
  | n + 1 => smW adr fl n + (if (adr n).isSome = true then 1 + fl n else 0)
theorem smW_1 {adr : Nat → Option Nat} {fl : Nat → Nat} {n : Nat} (h : (adr n).isSome = true) : smW adr fl (n + 1) = smW adr fl n + (1 + fl n) := by
  show smW adr fl n + _ = _
  rw [if_pos h]
theorem smW_0 {adr : Nat → Option Nat} {fl : Nat → Nat} {n : Nat} (h : (adr n).isSome = false) : smW adr fl (n + 1) = smW adr fl n := by
  show smW adr fl n + _ = _
  rw [if_neg (by rw [h]; decide)]
  rfl
def plI (pl : Nat → Option Nat) (t : Nat) : Nat := (pl t).getD 0
/-- what is reached from one -/
def LSR (fl : Nat → Nat) (rfs : Nat → Nat → Option Nat) (k : Nat) : List Nat := flw allOk fl rfs 401 0 (mtL allOk [] (some k))
theorem LSR_closed {fl : Nat → Nat} {rfs : Nat → Nat → Option Nat} {k : Nat} (hl : (LSR fl rfs k).length ≤ 401) : ∀ x ∈ LSR fl rfs k, ∀ f, f < fl x → ∀ t, rfs x f = some t → t ∈ LSR fl rfs k :=
  flw_closed 401 0 _ (fun j hj => absurd hj (Nat.not_lt_zero _)) (by rw [Nat.zero_add]; exact hl)
theorem cal_X10_count : mCal yX10_count cX10_count 6 1 (some .int) := ⟨in_639, by decide +kernel⟩
set_option maxHeartbeats 4000000 in
set_option maxRecDepth 100000 in
theorem r_count {l : Launch} {dC : Nat → ClassId} {dI : Nat → Nat → Nat} {cI cZ cT : ClassId} {q : Nat → Nat} {thr : Int32} {kp : Nat} {Wn : Nat} {made : Nat} {adr : (Nat → Option Nat)} {fl : (Nat → Nat)} {rem : (Nat → Bool)} {num : (Nat → Nat → Int32)} {rfs : (Nat → Nat → Option Nat)} {root : (Nat → Option Nat)} {own : (Nat → Option Nat)} {half : Nat} {top : Nat} {coll : Nat} {mins : Nat} {movd : Nat} {size : Nat} {row : (Nat → Nat)} {plc : (Nat → Option Nat)} {old : (Nat → Option Nat)} {Kp : Nat → Prop} (hB : ∀ M : List Nat, M.Nodup → (∀ x ∈ M, Kp x) → M.length ≤ 400) (hKm : ∀ x, Kp x → x < made ∧ ∃ a, adr x = some a) (hKf : ∀ x, Kp x → ∀ i, i < fl x → ∀ t, rfs x i = some t → Kp t) {w : mM} (hR : RW cI cZ q thr kp Wn made adr fl rem num rfs root own half top coll mins movd size row plc old w) (hm : made ≤ 2000) (hW : Wn ≤ 400) (hfl : ∀ x, x < made → fl x ≤ 6) (hLay : Lay made Wn fl adr own) (hKr : ∀ i, i < 16 → ∀ t, root i = some t → Kp t) (y : Int32) : mC l yX10_count (wsY yX10_count cX10_count 6 (some .int)) { frames := 3, cells := 0, slots := 0, locals := 64 } (dC, dI) vwCl (tyL cI cZ cT) 0 0 w [.ref (q 0), .int (y)] (fun v w2 => v = some (.int (if y = nI 0 then nI (cnt (fun o => (adr o).isSome) made) else if y = nI 1 then nI (smW adr fl made) else if y = nI 2 then nI made else if y = nI 3 then nI coll else if y = nI 4 then nI mins else if y = nI 5 then nI movd else if y = nI 6 then nI (cnt (fun o => (adr o).isSome && rem o) made) else if y = nI 7 then nI (LRR fl rfs root).length else if y = nI 8 then nI Wn else -2)) ∧ ∃ (sz2 : Nat) (rw2 : Nat → Nat) (pl2 : Nat → Option Nat), RW cI cZ q 0 kp Wn made adr fl rem num rfs root own half top coll mins movd sz2 rw2 pl2 old w2) := by
  refine mC.on (by decide) (Nat.le_of_ble_eq_true rfl) ?_
  intro p e s m args below meth c ls S hr hlk hnm hK hN hG hl
  have hl : lv_has ls 6 [(0, .ref (q 0)), (1, .int (y))] := hl
  generalize hAe : mA w s.heap.size = A at hG ⊢
  refine lv_aload_n S.1 S.2.1 dX10_count_0 rfl (lv_at hl 0 rfl) ?_
  refine lv_iconst (v := 0) S.1 S.2.1 dX10_count_1 (by decide) ?_
  refine rp_thr S hK hG hR (0) dX10_count_2 (fun w H locs hR hG => ?_)
  refine lv_iconst (v := nI (0)) S.1 S.2.1 dX10_count_5 (by decide) ?_
  refine lv_istore_n (lv' := [(2, .int (nI (0))), (0, .ref (q 0)), (1, .int (y))]) S.1 S.2.1 dX10_count_6 rfl hl (by decide) rfl (fun ls hl => ?_)
  refine lv_iconst (v := nI (0)) S.1 S.2.1 dX10_count_7 (by decide) ?_
  refine lv_istore_n (lv' := [(3, .int (nI (0))), (2, .int (nI (0))), (0, .ref (q 0)), (1, .int (y))]) S.1 S.2.1 dX10_count_8 rfl hl (by decide) rfl (fun ls hl => ?_)
  refine lv_iconst (v := nI (0)) S.1 S.2.1 dX10_count_9 (by decide) ?_
  refine lv_istore (lv' := [(4, .int (nI (0))), (3, .int (nI (0))), (2, .int (nI (0))), (0, .ref (q 0)), (1, .int (y))]) S.1 S.2.1 dX10_count_10 hl (by decide) rfl (fun ls hl => ?_)
  refine lv_iconst (v := nI (0)) S.1 S.2.1 dX10_count_12 (by decide) ?_
  refine lv_istore (lv' := [(5, .int (nI (0))), (4, .int (nI (0))), (3, .int (nI (0))), (2, .int (nI (0))), (0, .ref (q 0)), (1, .int (y))]) S.1 S.2.1 dX10_count_13 hl (by decide) rfl (fun ls hl => ?_)
  have L : ∀ (fu : Nat) (k : Nat), made - k < fu → (k ≤ made) → ∀ (H : Heap) (locs : List Loc), mG (dC, dI) vwCl A s.heap w H locs → ∀ ls : Array Slot, lv_has ls 6 [(5, .int (nI (k))), (4, .int (nI (cnt (fun o => (adr o).isSome && rem o) k))), (3, .int (nI (smW adr fl k))), (2, .int (nI (cnt (fun o => (adr o).isSome) k))), (0, .ref (q 0)), (1, .int (y))] → W p l e { frames := 3, cells := 0, slots := 0, locals := 64 } s m args below meth c H locs 0 0 (MQ below (mQ (dC, dI) vwCl (tyL cI cZ cT) (fun v w2 => v = some (.int (if y = nI 0 then nI (cnt (fun o => (adr o).isSome) made) else if y = nI 1 then nI (smW adr fl made) else if y = nI 2 then nI made else if y = nI 3 then nI coll else if y = nI 4 then nI mins else if y = nI 5 then nI movd else if y = nI 6 then nI (cnt (fun o => (adr o).isSome && rem o) made) else if y = nI 7 then nI (LRR fl rfs root).length else if y = nI 8 then nI Wn else -2)) ∧ ∃ (sz2 : Nat) (rw2 : Nat → Nat) (pl2 : Nat → Option Nat), RW cI cZ q 0 kp Wn made adr fl rem num rfs root own half top coll mins movd sz2 rw2 pl2 old w2) A) args s 0 0 A) (F0 m 15 ls []) := by
    intro fu
    induction fu with
    | zero => intro k h1; exact absurd h1 (Nat.not_lt_zero _)
    | succ fu ihL =>
      intro k h1 h2 H locs hG ls hl
      refine lv_iload S.1 S.2.1 dX10_count_15 (lv_at hl 0 rfl) ?_
      refine lv_aload_n S.1 S.2.1 dX10_count_17 rfl (lv_at hl 4 rfl) ?_
      refine rg_made S hK hG hR dX10_count_18 ?_
      refine lv_icmp_ge (tgt := 76) S.1 S.2.1 dX10_count_21 (by decide) (fun c1 => ?_) (fun c1 => ?_)
      · have c1 : made ≤ k := (nI_leI (a := made) (b := k) (by omega) (by omega)).mp c1
        have hk : k = made := by omega
        rw [hk] at hl
        refine lv_iload_n S.1 S.2.1 dX10_count_76 rfl (lv_at hl 5 rfl) ?_
        by_cases hy : inR 9 y = true
        · obtain ⟨i, hi, rfl⟩ := inR_ex (by decide) hy
          rcases (show i = 0 ∨ i = 1 ∨ i = 2 ∨ i = 3 ∨ i = 4 ∨ i = 5 ∨ i = 6 ∨ i = 7 ∨ i = 8 by omega) with rfl | rfl | rfl | rfl | rfl | rfl | rfl | rfl | rfl
          · refine lv_tableIn (tgt := 128) (off := 51) S.1 S.2.1 dX10_count_77 (by decide) (by decide) (by decide) (by decide) ?_
            refine lv_iload_n S.1 S.2.1 dX10_count_128 rfl (lv_at hl 3 rfl) ?_
            exact mw_iret S hr hlk hK hG dX10_count_129 ⟨by rw [if_pos rfl], size, row, plc, hR⟩
          · refine lv_tableIn (tgt := 130) (off := 53) S.1 S.2.1 dX10_count_77 (by decide) (by decide) (by decide) (by decide) ?_
            refine lv_iload_n S.1 S.2.1 dX10_count_130 rfl (lv_at hl 2 rfl) ?_
            exact mw_iret S hr hlk hK hG dX10_count_131 ⟨by rw [if_neg (show ¬ nI 1 = nI 0 by decide), if_pos rfl], size, row, plc, hR⟩
          · refine lv_tableIn (tgt := 132) (off := 55) S.1 S.2.1 dX10_count_77 (by decide) (by decide) (by decide) (by decide) ?_
            refine lv_aload_n S.1 S.2.1 dX10_count_132 rfl (lv_at hl 4 rfl) ?_
            refine rg_made S hK hG hR dX10_count_133 ?_
            exact mw_iret S hr hlk hK hG dX10_count_136 ⟨by rw [if_neg (show ¬ nI 2 = nI 0 by decide), if_neg (show ¬ nI 2 = nI 1 by decide), if_pos rfl], size, row, plc, hR⟩
          · refine lv_tableIn (tgt := 137) (off := 60) S.1 S.2.1 dX10_count_77 (by decide) (by decide) (by decide) (by decide) ?_
            refine lv_aload_n S.1 S.2.1 dX10_count_137 rfl (lv_at hl 4 rfl) ?_
            refine rg_coll S hK hG hR dX10_count_138 ?_
            exact mw_iret S hr hlk hK hG dX10_count_141 ⟨by rw [if_neg (show ¬ nI 3 = nI 0 by decide), if_neg (show ¬ nI 3 = nI 1 by decide), if_neg (show ¬ nI 3 = nI 2 by decide), if_pos rfl], size, row, plc, hR⟩
          · refine lv_tableIn (tgt := 142) (off := 65) S.1 S.2.1 dX10_count_77 (by decide) (by decide) (by decide) (by decide) ?_
            refine lv_aload_n S.1 S.2.1 dX10_count_142 rfl (lv_at hl 4 rfl) ?_
            refine rg_mins S hK hG hR dX10_count_143 ?_
            exact mw_iret S hr hlk hK hG dX10_count_146 ⟨by rw [if_neg (show ¬ nI 4 = nI 0 by decide), if_neg (show ¬ nI 4 = nI 1 by decide), if_neg (show ¬ nI 4 = nI 2 by decide), if_neg (show ¬ nI 4 = nI 3 by decide), if_pos rfl], size, row, plc, hR⟩
          · refine lv_tableIn (tgt := 147) (off := 70) S.1 S.2.1 dX10_count_77 (by decide) (by decide) (by decide) (by decide) ?_
            refine lv_aload_n S.1 S.2.1 dX10_count_147 rfl (lv_at hl 4 rfl) ?_
            refine rg_movd S hK hG hR dX10_count_148 ?_
            exact mw_iret S hr hlk hK hG dX10_count_151 ⟨by rw [if_neg (show ¬ nI 5 = nI 0 by decide), if_neg (show ¬ nI 5 = nI 1 by decide), if_neg (show ¬ nI 5 = nI 2 by decide), if_neg (show ¬ nI 5 = nI 3 by decide), if_neg (show ¬ nI 5 = nI 4 by decide), if_pos rfl], size, row, plc, hR⟩
          · refine lv_tableIn (tgt := 152) (off := 75) S.1 S.2.1 dX10_count_77 (by decide) (by decide) (by decide) (by decide) ?_
            refine lv_iload S.1 S.2.1 dX10_count_152 (lv_at hl 1 rfl) ?_
            exact mw_iret S hr hlk hK hG dX10_count_154 ⟨by rw [if_neg (show ¬ nI 6 = nI 0 by decide), if_neg (show ¬ nI 6 = nI 1 by decide), if_neg (show ¬ nI 6 = nI 2 by decide), if_neg (show ¬ nI 6 = nI 3 by decide), if_neg (show ¬ nI 6 = nI 4 by decide), if_neg (show ¬ nI 6 = nI 5 by decide), if_pos rfl], size, row, plc, hR⟩
          · refine lv_tableIn (tgt := 155) (off := 78) S.1 S.2.1 dX10_count_77 (by decide) (by decide) (by decide) (by decide) ?_
            refine lv_aload_n S.1 S.2.1 dX10_count_155 rfl (lv_at hl 4 rfl) ?_
            refine mCV (As := []) (rest := []) S (r_reach (Kp := Kp) hB (fun x hx => (hKm x hx).1) hKf hfl hm hR hKr) cal_X10_reach in_408 in_409 in_410 in_5 hK hN hG hR.obj rfl rfl rfl hl.1 (Nat.le_of_ble_eq_true rfl) ⟨by decide, by decide⟩ ⟨rfl, rfl⟩ ⟨by decide, by decide⟩ dX10_count_156 (fun v w H locs hp hG => ?_)
            obtain ⟨rfl, sz2, rw2, pl2, hR, hLs⟩ := hp
            change Lst made sz2 rw2 pl2 (LRR fl rfs root) at hLs
            have hl4 : (LRR fl rfs root).length ≤ 400 := hB _ LRR_nd (LRR_all hKf hKr)
            have hszc : sz2 = (LRR fl rfs root).length := hLs.2.1
            refine W.eq (g2 := F0 m 159 ls []) rfl ?_
            refine lv_aload_n S.1 S.2.1 dX10_count_159 rfl (lv_at hl 4 rfl) ?_
            refine rg_size S hK hG hR dX10_count_160 ?_
            exact mw_iret S hr hlk hK hG dX10_count_163 ⟨by rw [hszc, if_neg (show ¬ nI 7 = nI 0 by decide), if_neg (show ¬ nI 7 = nI 1 by decide), if_neg (show ¬ nI 7 = nI 2 by decide), if_neg (show ¬ nI 7 = nI 3 by decide), if_neg (show ¬ nI 7 = nI 4 by decide), if_neg (show ¬ nI 7 = nI 5 by decide), if_neg (show ¬ nI 7 = nI 6 by decide), if_pos rfl], sz2, rw2, pl2, hR⟩
          · refine lv_tableIn (tgt := 164) (off := 87) S.1 S.2.1 dX10_count_77 (by decide) (by decide) (by decide) (by decide) ?_
            refine lv_aload_n S.1 S.2.1 dX10_count_164 rfl (lv_at hl 4 rfl) ?_
            refine rg_Wn S hK hG hR dX10_count_165 ?_
            exact mw_iret S hr hlk hK hG dX10_count_168 ⟨by rw [if_neg (show ¬ nI 8 = nI 0 by decide), if_neg (show ¬ nI 8 = nI 1 by decide), if_neg (show ¬ nI 8 = nI 2 by decide), if_neg (show ¬ nI 8 = nI 3 by decide), if_neg (show ¬ nI 8 = nI 4 by decide), if_neg (show ¬ nI 8 = nI 5 by decide), if_neg (show ¬ nI 8 = nI 6 by decide), if_neg (show ¬ nI 8 = nI 7 by decide), if_pos rfl], size, row, plc, hR⟩
        · refine lv_tableOut (tgt := 169) S.1 S.2.1 dX10_count_77 (inR_out (n := 8) hy) (by decide) ?_
          refine lv_bipush (v := -2) S.1 S.2.1 dX10_count_169 (by decide) ?_
          exact mw_iret S hr hlk hK hG dX10_count_171 ⟨by rw [if_neg (show ¬ y = nI 0 from fun z => hy (by rw [z]; decide)), if_neg (show ¬ y = nI 1 from fun z => hy (by rw [z]; decide)), if_neg (show ¬ y = nI 2 from fun z => hy (by rw [z]; decide)), if_neg (show ¬ y = nI 3 from fun z => hy (by rw [z]; decide)), if_neg (show ¬ y = nI 4 from fun z => hy (by rw [z]; decide)), if_neg (show ¬ y = nI 5 from fun z => hy (by rw [z]; decide)), if_neg (show ¬ y = nI 6 from fun z => hy (by rw [z]; decide)), if_neg (show ¬ y = nI 7 from fun z => hy (by rw [z]; decide)), if_neg (show ¬ y = nI 8 from fun z => hy (by rw [z]; decide))], size, row, plc, hR⟩
      · have c1 : ¬ (made ≤ k) := fun h9 => c1 ((nI_leI (a := made) (b := k) (by omega) (by omega)).mpr h9)
        have hab : ∀ x, adr k = some x → x < 2147483648 := fun x hx => by have := Lay_b hLay (by omega) hx; omega
        refine lv_aload_n S.1 S.2.1 dX10_count_24 rfl (lv_at hl 4 rfl) ?_
        refine rg_adr S hK hG hR dX10_count_25 ?_
        refine lv_iload S.1 S.2.1 dX10_count_28 (lv_at hl 0 rfl) ?_
        refine rl_adr S hK hG hR (k) (by omega) dX10_count_30 ?_
        refine lv_iconst (v := -1) S.1 S.2.1 dX10_count_31 (by decide) ?_
        refine lv_icmp_eq (tgt := 70) S.1 S.2.1 dX10_count_32 (by decide) (fun c2 => ?_) (fun c2 => ?_)
        · have hn : adr k = none := (oI_m1 hab).mp c2
          have h9 : (fun o => (adr o).isSome) k = false := by show (adr k).isSome = false; rw [hn]; rfl
          have h8 : (fun o => (adr o).isSome && rem o) k = false := by show ((adr k).isSome && rem k) = false; rw [hn]; rfl
          refine lv_iinc (v := nI (k + 1)) (lv' := [(5, .int (nI (k + 1))), (4, .int (nI (cnt (fun o => (adr o).isSome && rem o) k))), (3, .int (nI (smW adr fl k))), (2, .int (nI (cnt (fun o => (adr o).isSome) k))), (0, .ref (q 0)), (1, .int (y))]) S.1 S.2.1 dX10_count_70 hl (k := 0) rfl (nI_1 _) (by decide) rfl (fun ls hl => ?_)
          refine lv_goto (tgt := 15) S.1 S.2.1 dX10_count_73 (by decide) ?_
          rw [← cnt_s0 (c := (fun o => (adr o).isSome)) h9, ← cnt_s0 (c := (fun o => (adr o).isSome && rem o)) h8, ← smW_0 (fl := fl) h9] at hl
          exact ihL (k + 1) (by omega) (by omega) _ _ hG ls (lv_sub hl [0, 1, 2, 3, 4, 5] rfl)
        · have h9 : (fun o => (adr o).isSome) k = true := by
            show (adr k).isSome = true
            cases h : adr k with
            | none => exact absurd ((oI_m1 hab).mpr h) c2
            | some a => rfl
          have hfk := hfl k (by omega)
          refine lv_iinc (v := nI (cnt (fun o => (adr o).isSome) k + 1)) (lv' := [(2, .int (nI (cnt (fun o => (adr o).isSome) k + 1))), (5, .int (nI (k))), (4, .int (nI (cnt (fun o => (adr o).isSome && rem o) k))), (3, .int (nI (smW adr fl k))), (0, .ref (q 0)), (1, .int (y))]) S.1 S.2.1 dX10_count_35 hl (k := 3) rfl (nI_1 _) (by decide) rfl (fun ls hl => ?_)
          refine lv_iload_n S.1 S.2.1 dX10_count_38 rfl (lv_at hl 3 rfl) ?_
          refine lv_iconst (v := nI (1)) S.1 S.2.1 dX10_count_39 (by decide) ?_
          refine lv_aload_n S.1 S.2.1 dX10_count_40 rfl (lv_at hl 4 rfl) ?_
          refine rg_fl S hK hG hR dX10_count_41 ?_
          refine lv_iload S.1 S.2.1 dX10_count_44 (lv_at hl 1 rfl) ?_
          refine rl_fl S hK hG hR (k) (by omega) dX10_count_46 ?_
          refine lv_iadd S.1 S.2.1 dX10_count_47 ?_
          refine lv_eqi (nI_add _ _) ?_
          refine lv_iadd S.1 S.2.1 dX10_count_48 ?_
          refine lv_eqi (nI_add _ _) ?_
          refine lv_istore_n (lv' := [(3, .int (nI ((smW adr fl k) + (1 + (fl k))))), (2, .int (nI (cnt (fun o => (adr o).isSome) k + 1))), (5, .int (nI (k))), (4, .int (nI (cnt (fun o => (adr o).isSome && rem o) k))), (0, .ref (q 0)), (1, .int (y))]) S.1 S.2.1 dX10_count_49 rfl hl (by decide) rfl (fun ls hl => ?_)
          refine lv_iload S.1 S.2.1 dX10_count_50 (lv_at hl 3 rfl) ?_
          refine lv_aload_n S.1 S.2.1 dX10_count_52 rfl (lv_at hl 4 rfl) ?_
          refine rg_rem S hK hG hR dX10_count_53 ?_
          refine lv_iload S.1 S.2.1 dX10_count_56 (lv_at hl 2 rfl) ?_
          refine rl_rem S hK hG hR (k) (by omega) dX10_count_58 ?_
          refine lv_if_eq (tgt := 66) S.1 S.2.1 dX10_count_59 (by decide) (fun c3 => ?_) (fun c3 => ?_)
          · have h8 : (fun o => (adr o).isSome && rem o) k = false := by show ((adr k).isSome && rem k) = false; rw [bI_f c3]; simp
            refine lv_iconst (v := nI (0)) S.1 S.2.1 dX10_count_66 (by decide) ?_
            refine lv_iadd S.1 S.2.1 dX10_count_67 ?_
            refine lv_eqi (nI_add _ _) ?_
            refine lv_istore (lv' := [(4, .int (nI ((cnt (fun o => (adr o).isSome && rem o) k) + 0))), (3, .int (nI ((smW adr fl k) + (1 + (fl k))))), (2, .int (nI (cnt (fun o => (adr o).isSome) k + 1))), (5, .int (nI (k))), (0, .ref (q 0)), (1, .int (y))]) S.1 S.2.1 dX10_count_68 hl (by decide) rfl (fun ls hl => ?_)
            refine lv_iinc (v := nI (k + 1)) (lv' := [(5, .int (nI (k + 1))), (4, .int (nI ((cnt (fun o => (adr o).isSome && rem o) k) + 0))), (3, .int (nI ((smW adr fl k) + (1 + (fl k))))), (2, .int (nI (cnt (fun o => (adr o).isSome) k + 1))), (0, .ref (q 0)), (1, .int (y))]) S.1 S.2.1 dX10_count_70 hl (k := 3) rfl (nI_1 _) (by decide) rfl (fun ls hl => ?_)
            refine lv_goto (tgt := 15) S.1 S.2.1 dX10_count_73 (by decide) ?_
            rw [← cnt_s1 (c := (fun o => (adr o).isSome)) h9, ← smW_1 (fl := fl) h9, Nat.add_zero, ← cnt_s0 (c := (fun o => (adr o).isSome && rem o)) h8] at hl
            exact ihL (k + 1) (by omega) (by omega) _ _ hG ls (lv_sub hl [0, 1, 2, 3, 4, 5] rfl)
          · have h8 : (fun o => (adr o).isSome && rem o) k = true := by show ((adr k).isSome && rem k) = true; rw [bI_t c3, show (adr k).isSome = true from h9]; rfl
            refine lv_iconst (v := nI (1)) S.1 S.2.1 dX10_count_62 (by decide) ?_
            refine lv_goto (tgt := 67) S.1 S.2.1 dX10_count_63 (by decide) ?_
            refine lv_iadd S.1 S.2.1 dX10_count_67 ?_
            refine lv_eqi (nI_add _ _) ?_
            refine lv_istore (lv' := [(4, .int (nI ((cnt (fun o => (adr o).isSome && rem o) k) + 1))), (3, .int (nI ((smW adr fl k) + (1 + (fl k))))), (2, .int (nI (cnt (fun o => (adr o).isSome) k + 1))), (5, .int (nI (k))), (0, .ref (q 0)), (1, .int (y))]) S.1 S.2.1 dX10_count_68 hl (by decide) rfl (fun ls hl => ?_)
            refine lv_iinc (v := nI (k + 1)) (lv' := [(5, .int (nI (k + 1))), (4, .int (nI ((cnt (fun o => (adr o).isSome && rem o) k) + 1))), (3, .int (nI ((smW adr fl k) + (1 + (fl k))))), (2, .int (nI (cnt (fun o => (adr o).isSome) k + 1))), (0, .ref (q 0)), (1, .int (y))]) S.1 S.2.1 dX10_count_70 hl (k := 3) rfl (nI_1 _) (by decide) rfl (fun ls hl => ?_)
            refine lv_goto (tgt := 15) S.1 S.2.1 dX10_count_73 (by decide) ?_
            rw [← cnt_s1 (c := (fun o => (adr o).isSome)) h9, ← smW_1 (fl := fl) h9, ← cnt_s1 (c := (fun o => (adr o).isSome && rem o)) h8] at hl
            exact ihL (k + 1) (by omega) (by omega) _ _ hG ls (lv_sub hl [0, 1, 2, 3, 4, 5] rfl)
  exact L (made + 1) 0 (by omega) (by omega) _ _ hG ls (lv_sub hl [0, 1, 2, 3, 4, 5] rfl)
theorem cal_X10_sum : mCal yX10_sum cX10_sum 8 1 (some .long) := ⟨in_675, by decide +kernel⟩
set_option maxHeartbeats 4000000 in
set_option maxRecDepth 100000 in
theorem r_sum {l : Launch} {dC : Nat → ClassId} {dI : Nat → Nat → Nat} {cI cZ cT : ClassId} {q : Nat → Nat} {thr : Int32} {kp : Nat} {Wn : Nat} {made : Nat} {adr : (Nat → Option Nat)} {fl : (Nat → Nat)} {rem : (Nat → Bool)} {num : (Nat → Nat → Int32)} {rfs : (Nat → Nat → Option Nat)} {root : (Nat → Option Nat)} {own : (Nat → Option Nat)} {half : Nat} {top : Nat} {coll : Nat} {mins : Nat} {movd : Nat} {size : Nat} {row : (Nat → Nat)} {plc : (Nat → Option Nat)} {old : (Nat → Option Nat)} {Kp : Nat → Prop} (hB : ∀ M : List Nat, M.Nodup → (∀ x ∈ M, Kp x) → M.length ≤ 400) (hKm : ∀ x, Kp x → x < made ∧ ∃ a, adr x = some a) (hKf : ∀ x, Kp x → ∀ i, i < fl x → ∀ t, rfs x i = some t → Kp t) {w : mM} (hR : RW cI cZ q thr kp Wn made adr fl rem num rfs root own half top coll mins movd size row plc old w) (hm : made ≤ 2000) (hW : Wn ≤ 400) (hfl : ∀ x, x < made → fl x ≤ 6) (hLay : Lay made Wn fl adr own) (hKr : ∀ i, i < 16 → ∀ t, root i = some t → Kp t) (x : Int32) : mC l yX10_sum (wsY yX10_sum cX10_sum 8 (some .long)) { frames := 2, cells := 0, slots := 0, locals := 43 } (dC, dI) vwCl (tyL cI cZ cT) 0 0 w [.ref (q 0), .int (x)] (fun v w2 => ∃ (sz2 : Nat) (rw2 : Nat → Nat) (pl2 : Nat → Option Nat), RW cI cZ q 0 kp Wn made adr fl rem num rfs root own half top coll mins movd sz2 rw2 pl2 old w2 ∧ ((inR 16 x = false ∧ v = some (.long (-2))) ∨ (∃ j, j < 16 ∧ x = nI j ∧ root j = none ∧ v = some (.long 0)) ∨ ∃ j k, j < 16 ∧ x = nI j ∧ root j = some k ∧ v = some (.long ((LSR fl rfs k).foldl (smO fl num rfs (plI pl2)) 7)) ∧ Lst made sz2 rw2 pl2 (LSR fl rfs k))) := by
  refine mC.on (by decide) (Nat.le_of_ble_eq_true rfl) ?_
  intro p e s m args below meth c ls S hr hlk hnm hK hN hG hl
  have hl : lv_has ls 8 [(0, .ref (q 0)), (1, .int (x))] := hl
  generalize hAe : mA w s.heap.size = A at hG ⊢
  refine lv_aload_n S.1 S.2.1 dX10_sum_0 rfl (lv_at hl 0 rfl) ?_
  refine lv_iconst (v := 0) S.1 S.2.1 dX10_sum_1 (by decide) ?_
  refine rp_thr S hK hG hR (0) dX10_sum_2 (fun w H locs hR hG => ?_)
  refine lv_iload_n S.1 S.2.1 dX10_sum_5 rfl (lv_at hl 1 rfl) ?_
  refine mCS (As := [.int (x)]) (rest := []) S (r_isRoot x) cal_X10_isRoot rfl in_382 in_383 in_5 hK hN hG rfl rfl hl.1 (Nat.le_of_ble_eq_true rfl) ⟨by decide, by decide⟩ ⟨rfl, rfl⟩ ⟨by decide, by decide⟩ dX10_sum_6 (fun v w H locs hp hG => ?_)
  obtain ⟨rfl, hw9⟩ := hp
  rw [hw9] at hG
  refine W.eq (g2 := F0 m 9 ls [.int (bI (inR 16 x))]) rfl ?_
  refine lv_if_ne (tgt := 16) S.1 S.2.1 dX10_sum_9 (by decide) (fun c1 => ?_) (fun c1 => ?_)
  · obtain ⟨j, hj, rfl⟩ := inR_ex (by decide) (bI_t c1)
    have hub : ∀ u, root j = some u → u < 2147483648 := fun u hu => by have := (hKm _ (hKr j hj u hu)).1; omega
    refine lv_aload_n S.1 S.2.1 dX10_sum_16 rfl (lv_at hl 0 rfl) ?_
    refine rg_root S hK hG hR dX10_sum_17 ?_
    refine lv_iload_n S.1 S.2.1 dX10_sum_20 rfl (lv_at hl 1 rfl) ?_
    refine rl_root S hK hG hR (j) (by omega) dX10_sum_21 ?_
    refine lv_iconst (v := -1) S.1 S.2.1 dX10_sum_22 (by decide) ?_
    refine lv_icmp_ne (tgt := 28) S.1 S.2.1 dX10_sum_23 (by decide) (fun c2 => ?_) (fun c2 => ?_)
    · obtain ⟨k, hk⟩ : ∃ k, root j = some k := by
        cases h : root j with
        | none => exact absurd ((oI_m1 hub).mpr h) c2
        | some k => exact ⟨k, rfl⟩
      have hKk := hKr j hj k hk
      have hkm := (hKm k hKk).1
      have hn1 : ∀ x ∈ mtL allOk [] (some k), Kp x := mtL_all (fun x hx => absurd hx List.not_mem_nil) (fun t ht _ => by cases ht; exact hKk)
      have hKL : ∀ x ∈ (LSR fl rfs k), Kp x := flw_all (fun x hx i hi t ht _ => hKf x hx i hi t ht) 401 0 _ hn1
      have hl4 : (LSR fl rfs k).length ≤ 400 := hB _ (flw_nd _ _ _ (mtL_nd List.nodup_nil)) hKL
      have hcl := LSR_closed (fl := fl) (rfs := rfs) (k := k) (by omega)
      refine lv_aload_n S.1 S.2.1 dX10_sum_28 rfl (lv_at hl 0 rfl) ?_
      refine mCV (As := []) (rest := []) S (r_begin hR hm) cal_X10_begin in_412 in_413 in_414 in_5 hK hN hG hR.obj rfl rfl rfl hl.1 (Nat.le_of_ble_eq_true rfl) ⟨by decide, by decide⟩ ⟨rfl, rfl⟩ ⟨by decide, by decide⟩ dX10_sum_29 (fun v w H locs hp hG => ?_)
      obtain ⟨rfl, hR⟩ := hp
      refine W.eq (g2 := F0 m 32 ls []) rfl ?_
      refine lv_aload_n S.1 S.2.1 dX10_sum_32 rfl (lv_at hl 0 rfl) ?_
      refine lv_aload_n S.1 S.2.1 dX10_sum_33 rfl (lv_at hl 0 rfl) ?_
      refine rg_root S hK hG hR dX10_sum_34 ?_
      refine lv_iload_n S.1 S.2.1 dX10_sum_37 rfl (lv_at hl 1 rfl) ?_
      refine rl_root S hK hG hR (j) (by omega) dX10_sum_38 ?_
      refine lv_eqi (y := oI (some k)) (by rw [hk]) ?_
      refine mCV (As := [.int (oI (some k))]) (rest := []) S (r_meet hR Lst_nil (some k) (fun t ht => by cases ht; exact hkm) hm (hB _ (mtL_nd List.nodup_nil) hn1)) cal_X10_meet in_416 in_417 in_418 in_5 hK hN hG hR.obj rfl rfl rfl hl.1 (Nat.le_of_ble_eq_true rfl) ⟨by decide, by decide⟩ ⟨rfl, rfl⟩ ⟨by decide, by decide⟩ dX10_sum_39 (fun v w H locs hp hG => ?_)
      obtain ⟨rfl, sz3, rw3, pl3, hR, hLa⟩ := hp
      refine W.eq (g2 := F0 m 42 ls []) rfl ?_
      refine lv_aload_n S.1 S.2.1 dX10_sum_42 rfl (lv_at hl 0 rfl) ?_
      refine mCV (As := []) (rest := []) S (r_follow (Kp := Kp) hB (fun x hx => (hKm x hx).1) hKf hfl hm hR hLa hn1) cal_X10_follow in_420 in_421 in_422 in_5 hK hN hG hR.obj rfl rfl rfl hl.1 (Nat.le_of_ble_eq_true rfl) ⟨by decide, by decide⟩ ⟨rfl, rfl⟩ ⟨by decide, by decide⟩ dX10_sum_43 (fun v w H locs hp hG => ?_)
      obtain ⟨rfl, sz2, rw2, pl2, hR, hLs⟩ := hp
      change Lst made sz2 rw2 pl2 (LSR fl rfs k) at hLs
      have hszc : sz2 = (LSR fl rfs k).length := hLs.2.1
      refine W.eq (g2 := F0 m 46 ls []) rfl ?_
      refine lv_ldc2 S.1 S.2.1 S.2.2.2.1 (S.2.2.2.2 _ in_677) dX10_sum_46 ?_
      refine lv_lstore_n (lv' := [(2, .long (7)), (0, .ref (q 0)), (1, .int (nI (j)))]) S.1 S.2.1 dX10_sum_49 rfl hl (by decide) rfl (fun ls hl => ?_)
      refine lv_iconst (v := nI (0)) S.1 S.2.1 dX10_sum_50 (by decide) ?_
      refine lv_istore (lv' := [(4, .int (nI (0))), (2, .long (7)), (0, .ref (q 0)), (1, .int (nI (j)))]) S.1 S.2.1 dX10_sum_51 hl (by decide) rfl (fun ls hl => ?_)
      have L1 : ∀ (fu : Nat) (i : Nat), (LSR fl rfs k).length - i < fu → (i ≤ (LSR fl rfs k).length) → ∀ (H : Heap) (locs : List Loc), mG (dC, dI) vwCl A s.heap w H locs → ∀ ls : Array Slot, lv_has ls 8 [(4, .int (nI (i))), (2, .long (((LSR fl rfs k).take i).foldl (smO fl num rfs (plI pl2)) 7)), (0, .ref (q 0)), (1, .int (nI (j)))] → W p l e { frames := 2, cells := 0, slots := 0, locals := 43 } s m args below meth c H locs 0 0 (MQ below (mQ (dC, dI) vwCl (tyL cI cZ cT) (fun v w2 => ∃ (sz2 : Nat) (rw2 : Nat → Nat) (pl2 : Nat → Option Nat), RW cI cZ q 0 kp Wn made adr fl rem num rfs root own half top coll mins movd sz2 rw2 pl2 old w2 ∧ ((inR 16 (nI j) = false ∧ v = some (.long (-2))) ∨ (∃ j2, j2 < 16 ∧ (nI j) = nI j2 ∧ root j2 = none ∧ v = some (.long 0)) ∨ ∃ j2 k, j2 < 16 ∧ (nI j) = nI j2 ∧ root j2 = some k ∧ v = some (.long ((LSR fl rfs k).foldl (smO fl num rfs (plI pl2)) 7)) ∧ Lst made sz2 rw2 pl2 (LSR fl rfs k))) A) args s 0 0 A) (F0 m 53 ls []) := by
        intro fu
        induction fu with
        | zero => intro i h1; exact absurd h1 (Nat.not_lt_zero _)
        | succ fu ihL1 =>
          intro i h1 h5 H locs hG ls hl
          refine lv_iload S.1 S.2.1 dX10_sum_53 (lv_at hl 0 rfl) ?_
          refine lv_aload_n S.1 S.2.1 dX10_sum_55 rfl (lv_at hl 2 rfl) ?_
          refine rg_size S hK hG hR dX10_sum_56 ?_
          refine lv_icmp_ge (tgt := 176) S.1 S.2.1 dX10_sum_59 (by decide) (fun c3 => ?_) (fun c3 => ?_)
          · have c3 : sz2 ≤ i := (nI_leI (a := sz2) (b := i) (by omega) (by omega)).mp c3
            rw [take_all (by omega)] at hl
            refine lv_lload_n S.1 S.2.1 dX10_sum_176 rfl (lv_at hl 1 rfl) ?_
            exact mw_lret S hr hlk hK hG dX10_sum_177 ⟨sz2, rw2, pl2, hR, Or.inr (Or.inr ⟨j, k, hj, rfl, hk, rfl, hLs⟩)⟩
          · have c3 : ¬ (sz2 ≤ i) := fun h9 => c3 ((nI_leI (a := sz2) (b := i) (by omega) (by omega)).mpr h9)
            have hi2 : i < (LSR fl rfs k).length := by omega
            have hrow := Lst_row hLs (show i < sz2 by omega)
            generalize hoe : (LSR fl rfs k).getD i 0 = o at hrow
            have hom := hrow.2.2
            have hfo := hfl o hom
            refine lv_aload_n S.1 S.2.1 dX10_sum_62 rfl (lv_at hl 2 rfl) ?_
            refine rg_row S hK hG hR dX10_sum_63 ?_
            refine lv_iload S.1 S.2.1 dX10_sum_66 (lv_at hl 0 rfl) ?_
            refine rl_row S hK hG hR (i) (by omega) dX10_sum_68 ?_
            refine lv_eqi (y := nI (o)) (by rw [hrow.1]) ?_
            refine lv_istore (lv' := [(5, .int (nI (o))), (4, .int (nI (i))), (2, .long (((LSR fl rfs k).take i).foldl (smO fl num rfs (plI pl2)) 7)), (0, .ref (q 0)), (1, .int (nI (j)))]) S.1 S.2.1 dX10_sum_69 hl (by decide) rfl (fun ls hl => ?_)
            refine lv_ldc2 S.1 S.2.1 S.2.2.2.1 (S.2.2.2.2 _ in_678) dX10_sum_71 ?_
            refine lv_lload_n S.1 S.2.1 dX10_sum_74 rfl (lv_at hl 2 rfl) ?_
            refine lv_lmul S.1 S.2.1 dX10_sum_75 ?_
            refine lv_aload_n S.1 S.2.1 dX10_sum_76 rfl (lv_at hl 3 rfl) ?_
            refine rg_fl S hK hG hR dX10_sum_77 ?_
            refine lv_iload S.1 S.2.1 dX10_sum_80 (lv_at hl 0 rfl) ?_
            refine rl_fl S hK hG hR (o) (by omega) dX10_sum_82 ?_
            refine lv_i2l (v := (nI (fl o)).toInt64) S.1 S.2.1 dX10_sum_83 rfl ?_
            refine lv_ladd S.1 S.2.1 dX10_sum_84 ?_
            refine lv_lstore_n (lv' := [(2, .long (((31) * (((LSR fl rfs k).take i).foldl (smO fl num rfs (plI pl2)) 7)) + ((nI (fl o)).toInt64))), (5, .int (nI (o))), (4, .int (nI (i))), (0, .ref (q 0)), (1, .int (nI (j)))]) S.1 S.2.1 dX10_sum_85 rfl hl (by decide) rfl (fun ls hl => ?_)
            refine lv_iconst (v := nI (0)) S.1 S.2.1 dX10_sum_86 (by decide) ?_
            refine lv_istore (lv' := [(6, .int (nI (0))), (2, .long (((31) * (((LSR fl rfs k).take i).foldl (smO fl num rfs (plI pl2)) 7)) + ((nI (fl o)).toInt64))), (5, .int (nI (o))), (4, .int (nI (i))), (0, .ref (q 0)), (1, .int (nI (j)))]) S.1 S.2.1 dX10_sum_87 hl (by decide) rfl (fun ls hl => ?_)
            have L2 : ∀ (fu : Nat) (f : Nat), fl o - f < fu → (f ≤ fl o) → ∀ (H : Heap) (locs : List Loc), mG (dC, dI) vwCl A s.heap w H locs → ∀ ls : Array Slot, lv_has ls 8 [(6, .int (nI (f))), (2, .long (smR num rfs (plI pl2) o f (31 * (((LSR fl rfs k).take i).foldl (smO fl num rfs (plI pl2)) 7) + (nI (fl o)).toInt64))), (5, .int (nI (o))), (4, .int (nI (i))), (0, .ref (q 0)), (1, .int (nI (j)))] → W p l e { frames := 2, cells := 0, slots := 0, locals := 43 } s m args below meth c H locs 0 0 (MQ below (mQ (dC, dI) vwCl (tyL cI cZ cT) (fun v w2 => ∃ (sz2 : Nat) (rw2 : Nat → Nat) (pl2 : Nat → Option Nat), RW cI cZ q 0 kp Wn made adr fl rem num rfs root own half top coll mins movd sz2 rw2 pl2 old w2 ∧ ((inR 16 (nI j) = false ∧ v = some (.long (-2))) ∨ (∃ j2, j2 < 16 ∧ (nI j) = nI j2 ∧ root j2 = none ∧ v = some (.long 0)) ∨ ∃ j2 k, j2 < 16 ∧ (nI j) = nI j2 ∧ root j2 = some k ∧ v = some (.long ((LSR fl rfs k).foldl (smO fl num rfs (plI pl2)) 7)) ∧ Lst made sz2 rw2 pl2 (LSR fl rfs k))) A) args s 0 0 A) (F0 m 89 ls []) := by
              intro fu
              induction fu with
              | zero => intro f h1; exact absurd h1 (Nat.not_lt_zero _)
              | succ fu ihL2 =>
                intro f h1 h6 H locs hG ls hl
                refine lv_iload S.1 S.2.1 dX10_sum_89 (lv_at hl 0 rfl) ?_
                refine lv_aload_n S.1 S.2.1 dX10_sum_91 rfl (lv_at hl 4 rfl) ?_
                refine rg_fl S hK hG hR dX10_sum_92 ?_
                refine lv_iload S.1 S.2.1 dX10_sum_95 (lv_at hl 2 rfl) ?_
                refine rl_fl S hK hG hR (o) (by omega) dX10_sum_97 ?_
                refine lv_icmp_ge (tgt := 170) S.1 S.2.1 dX10_sum_98 (by decide) (fun c4 => ?_) (fun c4 => ?_)
                · have c4 : (fl o) ≤ f := (nI_leI (a := fl o) (b := f) (by omega) (by omega)).mp c4
                  have hf : f = fl o := by omega
                  rw [hf] at hl
                  refine lv_iinc (v := nI (i + 1)) (lv' := [(4, .int (nI (i + 1))), (6, .int (nI (fl o))), (2, .long (smR num rfs (plI pl2) o (fl o) (31 * (((LSR fl rfs k).take i).foldl (smO fl num rfs (plI pl2)) 7) + (nI (fl o)).toInt64))), (5, .int (nI (o))), (0, .ref (q 0)), (1, .int (nI (j)))]) S.1 S.2.1 dX10_sum_170 hl (k := 3) rfl (nI_1 _) (by decide) rfl (fun ls hl => ?_)
                  refine lv_goto (tgt := 53) S.1 S.2.1 dX10_sum_173 (by decide) ?_
                  have hfs : ((LSR fl rfs k).take (i + 1)).foldl (smO fl num rfs (plI pl2)) 7 = smO fl num rfs (plI pl2) (((LSR fl rfs k).take i).foldl (smO fl num rfs (plI pl2)) 7) o := by rw [fold_s hi2, hoe]
                  have hl : lv_has ls 8 [(4, .int (nI (i + 1))), (6, .int (nI (fl o))), (2, .long (((LSR fl rfs k).take (i + 1)).foldl (smO fl num rfs (plI pl2)) 7)), (5, .int (nI (o))), (0, .ref (q 0)), (1, .int (nI (j)))] := by rw [hfs]; exact hl
                  exact ihL1 (i + 1) (by omega) (by omega) _ _ hG ls (lv_sub hl [0, 2, 4, 5] rfl)
                · have c4 : ¬ ((fl o) ≤ f) := fun h9 => c4 ((nI_leI (a := fl o) (b := f) (by omega) (by omega)).mpr h9)
                  have hto : ∀ t, rfs o f = some t → t ∈ (LSR fl rfs k) := fun t ht => hcl o hrow.2.1 f (by omega) t ht
                  have htb : ∀ t, rfs o f = some t → t < 2147483648 := fun t ht => by have := hLs.2.2.2.2.2 t (hto t ht); omega
                  refine lv_aload_n S.1 S.2.1 dX10_sum_101 rfl (lv_at hl 4 rfl) ?_
                  refine rg_rfs S hK hG hR dX10_sum_102 ?_
                  refine lv_bipush (v := nI (6)) S.1 S.2.1 dX10_sum_105 (by decide) ?_
                  refine lv_iload S.1 S.2.1 dX10_sum_107 (lv_at hl 2 rfl) ?_
                  refine lv_imul S.1 S.2.1 dX10_sum_109 ?_
                  refine lv_eqi (pk_mul _ _) ?_
                  refine lv_iload S.1 S.2.1 dX10_sum_110 (lv_at hl 0 rfl) ?_
                  refine lv_iadd S.1 S.2.1 dX10_sum_112 ?_
                  refine lv_eqi (nI_add _ _) ?_
                  refine rl_rfs S hK hG hR (o) (f) (by omega) (by omega) dX10_sum_113 ?_
                  refine lv_istore (lv' := [(7, .int (oI (rfs o f))), (6, .int (nI (f))), (2, .long (smR num rfs (plI pl2) o f (31 * (((LSR fl rfs k).take i).foldl (smO fl num rfs (plI pl2)) 7) + (nI (fl o)).toInt64))), (5, .int (nI (o))), (4, .int (nI (i))), (0, .ref (q 0)), (1, .int (nI (j)))]) S.1 S.2.1 dX10_sum_114 hl (by decide) rfl (fun ls hl => ?_)
                  refine lv_ldc2 S.1 S.2.1 S.2.2.2.1 (S.2.2.2.2 _ in_678) dX10_sum_116 ?_
                  refine lv_lload_n S.1 S.2.1 dX10_sum_119 rfl (lv_at hl 2 rfl) ?_
                  refine lv_lmul S.1 S.2.1 dX10_sum_120 ?_
                  refine lv_iload S.1 S.2.1 dX10_sum_121 (lv_at hl 0 rfl) ?_
                  refine lv_iconst (v := -1) S.1 S.2.1 dX10_sum_123 (by decide) ?_
                  refine lv_icmp_ne (tgt := 148) S.1 S.2.1 dX10_sum_124 (by decide) (fun c5 => ?_) (fun c5 => ?_)
                  · obtain ⟨t, ht⟩ : ∃ t, rfs o f = some t := by
                      cases h : rfs o f with
                      | none => exact absurd ((oI_m1 htb).mpr h) c5
                      | some t => exact ⟨t, rfl⟩
                    have htl := hto t ht
                    have htm := hLs.2.2.2.2.2 t htl
                    obtain ⟨i9, hi9⟩ := List.getElem?_of_mem htl
                    have hpt := hLs.2.2.2.2.1 i9 t hi9
                    rw [ht] at hl
                    have hl : lv_has ls 8 [(7, .int (nI (t))), (6, .int (nI (f))), (2, .long (smR num rfs (plI pl2) o f (31 * (((LSR fl rfs k).take i).foldl (smO fl num rfs (plI pl2)) 7) + (nI (fl o)).toInt64))), (5, .int (nI (o))), (4, .int (nI (i))), (0, .ref (q 0)), (1, .int (nI (j)))] := hl
                    refine lv_ldc2 S.1 S.2.1 S.2.2.2.1 (S.2.2.2.2 _ in_679) dX10_sum_148 ?_
                    refine lv_aload_n S.1 S.2.1 dX10_sum_151 rfl (lv_at hl 5 rfl) ?_
                    refine rg_plc S hK hG hR dX10_sum_152 ?_
                    refine lv_iload S.1 S.2.1 dX10_sum_155 (lv_at hl 0 rfl) ?_
                    refine rl_plc S hK hG hR (t) (by omega) dX10_sum_157 ?_
                    refine lv_eqi (y := nI (plI pl2 t)) (by unfold plI; rw [hpt]; rfl) ?_
                    refine lv_i2l (v := (nI (plI pl2 t)).toInt64) S.1 S.2.1 dX10_sum_158 rfl ?_
                    refine lv_lmul S.1 S.2.1 dX10_sum_159 ?_
                    refine lv_lconst (v := 1) S.1 S.2.1 dX10_sum_160 (by decide) ?_
                    refine lv_ladd S.1 S.2.1 dX10_sum_161 ?_
                    refine lv_eql (y := smT num rfs (plI pl2) o f) ((smT_s ht).symm) ?_
                    refine lv_ladd S.1 S.2.1 dX10_sum_162 ?_
                    refine lv_lstore_n (lv' := [(2, .long (((31) * (smR num rfs (plI pl2) o f (31 * (((LSR fl rfs k).take i).foldl (smO fl num rfs (plI pl2)) 7) + (nI (fl o)).toInt64))) + (smT num rfs (plI pl2) o f))), (7, .int (nI (t))), (6, .int (nI (f))), (5, .int (nI (o))), (4, .int (nI (i))), (0, .ref (q 0)), (1, .int (nI (j)))]) S.1 S.2.1 dX10_sum_163 rfl hl (by decide) rfl (fun ls hl => ?_)
                    refine lv_iinc (v := nI (f + 1)) (lv' := [(6, .int (nI (f + 1))), (2, .long (((31) * (smR num rfs (plI pl2) o f (31 * (((LSR fl rfs k).take i).foldl (smO fl num rfs (plI pl2)) 7) + (nI (fl o)).toInt64))) + (smT num rfs (plI pl2) o f))), (7, .int (nI (t))), (5, .int (nI (o))), (4, .int (nI (i))), (0, .ref (q 0)), (1, .int (nI (j)))]) S.1 S.2.1 dX10_sum_164 hl (k := 2) rfl (nI_1 _) (by decide) rfl (fun ls hl => ?_)
                    refine lv_goto (tgt := 89) S.1 S.2.1 dX10_sum_167 (by decide) ?_
                    exact ihL2 (f + 1) (by omega) (by omega) _ _ hG ls (lv_sub hl [0, 1, 3, 4, 5, 6] rfl)
                  · refine lv_ldc2 S.1 S.2.1 S.2.2.2.1 (S.2.2.2.2 _ in_679) dX10_sum_127 ?_
                    refine lv_aload_n S.1 S.2.1 dX10_sum_130 rfl (lv_at hl 5 rfl) ?_
                    refine rg_num S hK hG hR dX10_sum_131 ?_
                    refine lv_bipush (v := nI (6)) S.1 S.2.1 dX10_sum_134 (by decide) ?_
                    refine lv_iload S.1 S.2.1 dX10_sum_136 (lv_at hl 3 rfl) ?_
                    refine lv_imul S.1 S.2.1 dX10_sum_138 ?_
                    refine lv_eqi (pk_mul _ _) ?_
                    refine lv_iload S.1 S.2.1 dX10_sum_139 (lv_at hl 1 rfl) ?_
                    refine lv_iadd S.1 S.2.1 dX10_sum_141 ?_
                    refine lv_eqi (nI_add _ _) ?_
                    refine rl_num S hK hG hR (o) (f) (by omega) (by omega) dX10_sum_142 ?_
                    refine lv_i2l (v := (num o f).toInt64) S.1 S.2.1 dX10_sum_143 rfl ?_
                    refine lv_lmul S.1 S.2.1 dX10_sum_144 ?_
                    refine lv_goto (tgt := 162) S.1 S.2.1 dX10_sum_145 (by decide) ?_
                    refine lv_eql (y := smT num rfs (plI pl2) o f) ((smT_n ((oI_m1 htb).mp c5)).symm) ?_
                    refine lv_ladd S.1 S.2.1 dX10_sum_162 ?_
                    refine lv_lstore_n (lv' := [(2, .long (((31) * (smR num rfs (plI pl2) o f (31 * (((LSR fl rfs k).take i).foldl (smO fl num rfs (plI pl2)) 7) + (nI (fl o)).toInt64))) + (smT num rfs (plI pl2) o f))), (7, .int (oI (rfs o f))), (6, .int (nI (f))), (5, .int (nI (o))), (4, .int (nI (i))), (0, .ref (q 0)), (1, .int (nI (j)))]) S.1 S.2.1 dX10_sum_163 rfl hl (by decide) rfl (fun ls hl => ?_)
                    refine lv_iinc (v := nI (f + 1)) (lv' := [(6, .int (nI (f + 1))), (2, .long (((31) * (smR num rfs (plI pl2) o f (31 * (((LSR fl rfs k).take i).foldl (smO fl num rfs (plI pl2)) 7) + (nI (fl o)).toInt64))) + (smT num rfs (plI pl2) o f))), (7, .int (oI (rfs o f))), (5, .int (nI (o))), (4, .int (nI (i))), (0, .ref (q 0)), (1, .int (nI (j)))]) S.1 S.2.1 dX10_sum_164 hl (k := 2) rfl (nI_1 _) (by decide) rfl (fun ls hl => ?_)
                    refine lv_goto (tgt := 89) S.1 S.2.1 dX10_sum_167 (by decide) ?_
                    exact ihL2 (f + 1) (by omega) (by omega) _ _ hG ls (lv_sub hl [0, 1, 3, 4, 5, 6] rfl)
            exact L2 (fl o + 1) 0 (by omega) (by omega) _ _ hG ls (lv_sub hl [0, 1, 2, 3, 4, 5] rfl)
      exact L1 ((LSR fl rfs k).length + 1) 0 (by omega) (by omega) _ _ hG ls (lv_sub hl [0, 1, 2, 3] rfl)
    · refine lv_lconst (v := 0) S.1 S.2.1 dX10_sum_26 (by decide) ?_
      exact mw_lret S hr hlk hK hG dX10_sum_27 ⟨size, row, plc, hR, Or.inr (Or.inl ⟨j, hj, rfl, (oI_m1 hub).mp c2, rfl⟩)⟩
  · refine lv_ldc2 S.1 S.2.1 S.2.2.2.1 (S.2.2.2.2 _ in_676) dX10_sum_12 ?_
    exact mw_lret S hr hlk hK hG dX10_sum_15 ⟨size, row, plc, hR, Or.inl ⟨bI_f c1, rfl⟩⟩
