/-! THE REFERENCE: what a walk has met is closed; to collect -/
theorem mtL_has {L : List Nat} {o : Option Nat} {t : Nat} (h : o = some t) : t ∈ mtL allOk L o := by
  subst h
  by_cases hin : t ∈ L
  · rw [mtL_in hin]; exact hin
  · rw [mtL_out hin]; exact mem_snoc.mpr (Or.inr rfl)
theorem mtL_sub {ok : Nat → Bool} {L : List Nat} {o : Option Nat} {x : Nat} (h : x ∈ L) : x ∈ mtL ok L o := by
  obtain ⟨M, hM⟩ := mtL_pre ok L o
  rw [hM]
  exact List.mem_append_left _ h
theorem mtN_has {f : Nat → Option Nat} {L : List Nat} : ∀ (n i t : Nat), i < n → f i = some t → t ∈ mtN allOk f n L
  | 0, _, _, h, _ => absurd h (Nat.not_lt_zero _)
  | n + 1, i, t, h, h2 => by
    show t ∈ mtL allOk (mtN allOk f n L) (f n)
    by_cases e : i = n
    · rw [e] at h2
      exact mtL_has h2
    · exact mtL_sub (mtN_has n i t (by omega) h2)
theorem flw_closed {fl : Nat → Nat} {rfs : Nat → Nat → Option Nat} : ∀ (n i : Nat) (L : List Nat), (∀ j, j < i → j < L.length → ∀ f, f < fl (L.getD j 0) → ∀ t, rfs (L.getD j 0) f = some t → t ∈ L) → (flw allOk fl rfs n i L).length ≤ i + n → ∀ x ∈ flw allOk fl rfs n i L, ∀ f, f < fl x → ∀ t, rfs x f = some t → t ∈ flw allOk fl rfs n i L
  | 0, i, L, h, hl, x, hx, f, hf, t, ht => by
    change L.length ≤ i at hl
    change x ∈ L at hx
    obtain ⟨j, hj⟩ := List.getElem?_of_mem hx
    have hj2 := (List.getElem?_eq_some_iff.mp hj).1
    have e : L.getD j 0 = x := by
      have := getD_some hj2
      rw [hj] at this
      cases this
      rfl
    exact h j (by omega) hj2 f (by rw [e]; exact hf) t (by rw [e]; exact ht)
  | n + 1, i, L, h, hl, x, hx, f, hf, t, ht => by
    by_cases hi : i < L.length
    · rw [flw_step hi] at hl hx ⊢
      obtain ⟨M, hM⟩ := mtN_pre allOk (rfs (L.getD i 0)) (fl (L.getD i 0)) L
      refine flw_closed n (i + 1) _ (fun j hj hj2 f hf t ht => ?_) (by omega) x hx f hf t ht
      have hjL : j < L.length := by omega
      have e : (mtN allOk (rfs (L.getD i 0)) (fl (L.getD i 0)) L).getD j 0 = L.getD j 0 := by rw [hM]; exact getD_pre hjL
      rw [e] at hf ht
      by_cases hji : j = i
      · subst hji
        exact mtN_has _ f t hf ht
      · rw [hM]
        exact List.mem_append_left _ (h j (by omega) hjL f hf t ht)
    · rw [flw_end (by omega)] at hl hx ⊢
      obtain ⟨j, hj⟩ := List.getElem?_of_mem hx
      have hj2 := (List.getElem?_eq_some_iff.mp hj).1
      have e : L.getD j 0 = x := by
        have := getD_some hj2
        rw [hj] at this
        cases this
        rfl
      exact h j (by omega) hj2 f (by rw [e]; exact hf) t (by rw [e]; exact ht)
/-- what is reached from the roots, in its order -/
def LRR (fl : Nat → Nat) (rfs : Nat → Nat → Option Nat) (root : Nat → Option Nat) : List Nat := flw allOk fl rfs 401 0 (mtN allOk root 16 [])
section LRR
variable {made N : Nat} {fl : Nat → Nat} {rfs : Nat → Nat → Option Nat} {root : Nat → Option Nat} {Kp : Nat → Prop}
theorem LRR_nd : (LRR fl rfs root).Nodup := flw_nd _ _ _ (mtN_nd List.nodup_nil _)
theorem LRR_all (hKf : ∀ x, Kp x → ∀ i, i < fl x → ∀ t, rfs x i = some t → Kp t) (hKr : ∀ i, i < 16 → ∀ t, root i = some t → Kp t) : ∀ x ∈ LRR fl rfs root, Kp x :=
  flw_all (fun x hx i hi k hk _ => hKf x hx i hi k hk) _ _ _ (mtN_all (fun x hx => absurd hx List.not_mem_nil) _ (fun i hi k hk _ => hKr i hi k hk))
theorem LRR_closed (hl : (LRR fl rfs root).length ≤ 401) : ∀ x ∈ LRR fl rfs root, ∀ f, f < fl x → ∀ t, rfs x f = some t → t ∈ LRR fl rfs root :=
  flw_closed 401 0 _ (fun j hj => absurd hj (Nat.not_lt_zero _)) (by rw [Nat.zero_add]; exact hl)
theorem LRR_root : ∀ i, i < 16 → ∀ t, root i = some t → t ∈ LRR fl rfs root := fun i hi t ht => by
  obtain ⟨M, hM⟩ := flw_pre (ok := allOk) (fl := fl) (rfs := rfs) 401 0 (mtN allOk root 16 [])
  unfold LRR
  rw [hM]
  exact List.mem_append_left _ (mtN_has 16 i t hi ht)
end LRR
def ded (old : Bool) (kp Wn : Nat) (adr : Nat → Option Nat) (L : List Nat) : Nat → Bool := fun o => (adr o).isSome && (decide (o ∉ L) && (!old || isOldR kp Wn adr o))
theorem swC_L {made sz : Nat} {rw : Nat → Nat} {pl : Nat → Option Nat} {L : List Nat} {old : Bool} {kp Wn : Nat} {adr : Nat → Option Nat} (h : Lst made sz rw pl L) {o : Nat} (ho : o < made) : swC old kp Wn adr pl o = ded old kp Wn adr L o := by
  unfold swC ded
  have e : (pl o).isNone = decide (o ∉ L) := by
    by_cases hin : o ∉ L
    · rw [(h.2.2.2.1 o ho).mpr hin, decide_eq_true hin]; rfl
    · rw [decide_eq_false hin]
      cases hp : pl o with
      | none => exact absurd ((h.2.2.2.1 o ho).mp hp) hin
      | some x => rfl
  rw [e]
theorem blw_congr {n : Nat} {c d : Nat → Bool} (h : ∀ o, o < n → c o = d o) : blw n c = blw n d := by
  funext o
  unfold blw
  by_cases ho : o < n
  · rw [h o ho]
  · rw [decide_eq_false ho]; rfl
theorem cnt_congr {c d : Nat → Bool} : ∀ n, (∀ o, o < n → c o = d o) → cnt c n = cnt d n
  | 0, _ => rfl
  | n + 1, h => by
    show cnt c n + _ = cnt d n + _
    rw [cnt_congr n (fun o ho => h o (by omega)), h n (by omega)]
theorem Lay_sw {made Wn : Nat} {fl : Nat → Nat} {adr own : Nat → Option Nat} (hL : Lay made Wn fl adr own) (c : Nat → Bool) : Lay made Wn fl (swA (blw made c) adr) (swO (blw made c) own) := by
  refine ⟨fun o a ho ha => ?_, fun k o hk => ?_⟩
  · unfold swA at ha
    split at ha
    · cases ha
    · rename_i hc
      obtain ⟨g1, g2⟩ := hL.1 o a ho ha
      refine ⟨g1, fun k h1 h2 => ?_⟩
      unfold swO
      rw [g2 k h1 h2]
      simp only [if_neg hc]
  · unfold swO at hk
    split at hk
    · cases hk
    · rename_i o2 ho2
      split at hk
      · cases hk
      · rename_i hc
        cases hk
        obtain ⟨g1, a, g2, g3⟩ := hL.2 k _ ho2
        exact ⟨g1, a, by unfold swA; rw [if_neg hc]; exact g2, g3⟩
theorem swA_some {c : Nat → Bool} {adr : Nat → Option Nat} {o a : Nat} (h : swA c adr o = some a) : adr o = some a ∧ c o = false := by
  unfold swA at h
  split at h
  · cases h
  · rename_i hc
    exact ⟨h, by cases hh : c o with | false => rfl | true => exact absurd hh hc⟩
theorem swA_kept {c : Nat → Bool} {adr : Nat → Option Nat} {o : Nat} (h : c o = false) : swA c adr o = adr o := by
  unfold swA
  rw [if_neg (by rw [h]; decide)]
theorem ded_in {old : Bool} {kp Wn : Nat} {adr : Nat → Option Nat} {L : List Nat} {o : Nat} (h : o ∈ L) : ded old kp Wn adr L o = false := by
  unfold ded
  rw [decide_eq_false (fun z => z h)]
  simp
theorem blw_in {n : Nat} {c : Nat → Bool} {o : Nat} (h : c o = false) : blw n c o = false := by unfold blw; rw [h]; simp
/-- after the unreached went, leaving is leaving all -/
theorem gb_all {made Wn kp : Nat} {fl : Nat → Nat} {adr own : Nat → Option Nat} {L : List Nat} (hL : Lay made Wn fl adr own) : gbO fl (tda adr) (swO (blw made (ded false kp Wn adr L)) own) L = fun _ => none := by
  funext k
  by_cases hex : ∃ x ∈ L, tda adr x ≤ k ∧ k < tda adr x + (fl x + 1)
  · exact gbO_in L _ hex
  · rw [gbO_out L _ hex]
    unfold swO
    cases ho : own k with
    | none => rfl
    | some o =>
      obtain ⟨g1, a, g2, g3, g4⟩ := hL.2 k o ho
      have hn : o ∉ L := fun hin => hex ⟨o, hin, by unfold tda; rw [g2]; simp only [Option.getD_some]; omega⟩
      have hd : blw made (ded false kp Wn adr L) o = true := by
        unfold blw ded
        rw [g2, decide_eq_true g1, decide_eq_true hn]
        rfl
      simp only [if_pos hd]
def plR (fl : Nat → Nat) (s : Nat × (Nat → Option Nat) × (Nat → Option Nat)) (x : Nat) : Nat × (Nat → Option Nat) × (Nat → Option Nat) := (s.1 + (fl x + 1), va_up s.2.1 x (some s.1), fillO s.2.2 s.1 (fl x + 1) (some x))
theorem plR_1 (fl : Nat → Nat) : ∀ (L : List Nat) (s : Nat × (Nat → Option Nat) × (Nat → Option Nat)), (L.foldl (plR fl) s).1 = szL fl s.1 L
  | [], _ => rfl
  | x :: l, s => plR_1 fl l (plR fl s x)
theorem sw_keeps {made Wn kp : Nat} {fl : Nat → Nat} {adr own : Nat → Option Nat} {L : List Nat} (hkp : kp = 2) (hL : Lay made Wn fl adr own) (hY : ∀ k a, k < made → adr k = some a → a < Wn / 4 → a + fl k < Wn / 4) : ∀ k t, Wn / 4 ≤ k → swO (blw made (ded true kp Wn adr L)) own k = some t → t ∈ L := fun k t hk ht => by
  have h1 := swO_own ht
  obtain ⟨g1, a, g2, g3, g4⟩ := hL.2 k t h1
  apply Classical.byContradiction
  intro hn
  have ho : isOldR kp Wn adr t = true := isOld_o hkp g2 (fun z => by have := hY t a g1 g2 z; omega)
  have hd : blw made (ded true kp Wn adr L) t = true := by
    unfold blw ded
    rw [g2, decide_eq_true g1, decide_eq_true hn, ho]
    rfl
  unfold swO at ht
  rw [h1] at ht
  simp only [if_pos hd] at ht
  cases ht
theorem cal_X10_copyAll : mCal yX10_copyAll cX10_copyAll 3 0 (some .int) := ⟨in_405, by decide +kernel⟩
set_option maxHeartbeats 4000000 in
set_option maxRecDepth 100000 in
theorem r_copyAll {l : Launch} {dC : Nat → ClassId} {dI : Nat → Nat → Nat} {cI cZ cT : ClassId} {q : Nat → Nat} {thr : Int32} {kp : Nat} {Wn : Nat} {made : Nat} {adr : (Nat → Option Nat)} {fl : (Nat → Nat)} {rem : (Nat → Bool)} {num : (Nat → Nat → Int32)} {rfs : (Nat → Nat → Option Nat)} {root : (Nat → Option Nat)} {own : (Nat → Option Nat)} {half : Nat} {top : Nat} {coll : Nat} {mins : Nat} {movd : Nat} {size : Nat} {row : (Nat → Nat)} {plc : (Nat → Option Nat)} {old : (Nat → Option Nat)} {Kp : Nat → Prop} (hB : ∀ M : List Nat, M.Nodup → (∀ x ∈ M, Kp x) → M.length ≤ 400) (hKm : ∀ x, Kp x → x < made ∧ ∃ a, adr x = some a) (hKf : ∀ x, Kp x → ∀ i, i < fl x → ∀ t, rfs x i = some t → Kp t) {w : mM} (hR : RW cI cZ q thr kp Wn made adr fl rem num rfs root own half top coll mins movd size row plc old w) (hm : made ≤ 2000) (hW : Wn ≤ 400) (hfl : ∀ x, x < made → fl x ≤ 6) (hLay : Lay made Wn fl adr own) (hKr : ∀ i, i < 16 → ∀ t, root i = some t → Kp t) (hkp : kp ≤ 2) (hh : half ≤ 1) (hcap : szL fl 0 (LRR fl rfs root) ≤ Wn / 2) : mC l yX10_copyAll (wsY yX10_copyAll cX10_copyAll 3 (some .int)) { frames := 3, cells := 0, slots := 0, locals := 66 } (dC, dI) vwCl (tyL cI cZ cT) 0 0 w [.ref (q 0)] (fun v w2 => ∃ (sz2 : Nat) (rw2 : Nat → Nat) (pl2 : Nat → Option Nat), v = some (.int (nI (cnt (ded false kp Wn adr (LRR fl rfs root)) made))) ∧ Lst made sz2 rw2 pl2 (LRR fl rfs root) ∧ RW cI cZ q thr kp Wn made (((LRR fl rfs root).foldl (plR fl) ((1 - half) * (Wn / 2), swA (blw made (ded false kp Wn adr (LRR fl rfs root))) adr, fun _ => none)).2.1) fl (swR (blw made (ded false kp Wn adr (LRR fl rfs root))) rem) num rfs root (((LRR fl rfs root).foldl (plR fl) ((1 - half) * (Wn / 2), swA (blw made (ded false kp Wn adr (LRR fl rfs root))) adr, fun _ => none)).2.2) (1 - half) (((LRR fl rfs root).foldl (plR fl) ((1 - half) * (Wn / 2), swA (blw made (ded false kp Wn adr (LRR fl rfs root))) adr, fun _ => none)).1) coll mins (movd + (LRR fl rfs root).length) sz2 rw2 pl2 old w2) := by
  refine mC.on (by decide) (Nat.le_of_ble_eq_true rfl) ?_
  intro p e s m args below meth c ls S hr hlk hnm hK hN hG hl
  have hl : lv_has ls 3 [(0, .ref (q 0))] := hl
  generalize hAe : mA w s.heap.size = A at hG ⊢
  refine lv_aload_n S.1 S.2.1 dX10_copyAll_0 rfl (lv_at hl 0 rfl) ?_
  refine mCV (As := []) (rest := []) S (r_reach (Kp := Kp) hB (fun x hx => (hKm x hx).1) hKf hfl hm hR hKr) cal_X10_reach in_408 in_409 in_410 in_5 hK hN hG hR.obj rfl rfl rfl hl.1 (Nat.le_of_ble_eq_true rfl) ⟨by decide, by decide⟩ ⟨rfl, rfl⟩ ⟨by decide, by decide⟩ dX10_copyAll_1 (fun v w H locs hp hG => ?_)
  obtain ⟨rfl, sz2, rw2, pl2, hR, hLs⟩ := hp
  change Lst made sz2 rw2 pl2 (LRR fl rfs root) at hLs
  have hl4 : (LRR fl rfs root).length ≤ 400 := hB _ LRR_nd (LRR_all hKf hKr)
  have hszc : sz2 = (LRR fl rfs root).length := hLs.2.1
  refine W.eq (g2 := F0 m 4 ls []) rfl ?_
  refine lv_aload_n S.1 S.2.1 dX10_copyAll_4 rfl (lv_at hl 0 rfl) ?_
  refine lv_iconst (v := bI false) S.1 S.2.1 dX10_copyAll_5 (by decide) ?_
  refine mCV (As := [.int (bI (false))]) (rest := []) S (r_sweep hR false hm hW (by omega) hLay (fun o ho x hx => Lst_b hLs ho hl4 x hx)) cal_X10_sweep in_424 in_425 in_426 in_5 hK hN hG hR.obj rfl rfl rfl hl.1 (Nat.le_of_ble_eq_true rfl) ⟨by decide, by decide⟩ ⟨rfl, rfl⟩ ⟨by decide, by decide⟩ dX10_copyAll_6 (fun v w H locs hp hG => ?_)
  obtain ⟨rfl, hR⟩ := hp
  rw [blw_congr (fun o ho => swC_L hLs ho)] at hR
  rw [cnt_congr made (fun o ho => swC_L hLs ho)]
  refine W.eq (g2 := F0 m 9 ls [.int (nI (cnt (ded false kp Wn adr (LRR fl rfs root)) made))]) rfl ?_
  refine lv_istore_n (lv' := [(1, .int (nI (cnt (ded false kp Wn adr (LRR fl rfs root)) made))), (0, .ref (q 0))]) S.1 S.2.1 dX10_copyAll_9 rfl hl (by decide) rfl (fun ls hl => ?_)
  refine lv_iconst (v := nI (0)) S.1 S.2.1 dX10_copyAll_10 (by decide) ?_
  refine lv_istore_n (lv' := [(2, .int (nI (0))), (1, .int (nI (cnt (ded false kp Wn adr (LRR fl rfs root)) made))), (0, .ref (q 0))]) S.1 S.2.1 dX10_copyAll_11 rfl hl (by decide) rfl (fun ls hl => ?_)
  have LA : ∀ (fu : Nat) (i : Nat), (LRR fl rfs root).length - i < fu → (i ≤ (LRR fl rfs root).length) → ∀ (w : mM) (H : Heap) (locs : List Loc), RW cI cZ q thr kp Wn made (swA (blw made (ded false kp Wn adr (LRR fl rfs root))) adr) fl (swR (blw made (ded false kp Wn adr (LRR fl rfs root))) rem) num rfs root (gbO fl (tda adr) (swO (blw made (ded false kp Wn adr (LRR fl rfs root))) own) ((LRR fl rfs root).take i)) half top coll mins movd sz2 rw2 pl2 old w → mG (dC, dI) vwCl A s.heap w H locs → ∀ ls : Array Slot, lv_has ls 3 [(2, .int (nI (i))), (1, .int (nI (cnt (ded false kp Wn adr (LRR fl rfs root)) made))), (0, .ref (q 0))] → W p l e { frames := 3, cells := 0, slots := 0, locals := 66 } s m args below meth c H locs 0 0 (MQ below (mQ (dC, dI) vwCl (tyL cI cZ cT) (fun v w2 => ∃ (sz2 : Nat) (rw2 : Nat → Nat) (pl2 : Nat → Option Nat), v = some (.int (nI (cnt (ded false kp Wn adr (LRR fl rfs root)) made))) ∧ Lst made sz2 rw2 pl2 (LRR fl rfs root) ∧ RW cI cZ q thr kp Wn made (((LRR fl rfs root).foldl (plR fl) ((1 - half) * (Wn / 2), swA (blw made (ded false kp Wn adr (LRR fl rfs root))) adr, fun _ => none)).2.1) fl (swR (blw made (ded false kp Wn adr (LRR fl rfs root))) rem) num rfs root (((LRR fl rfs root).foldl (plR fl) ((1 - half) * (Wn / 2), swA (blw made (ded false kp Wn adr (LRR fl rfs root))) adr, fun _ => none)).2.2) (1 - half) (((LRR fl rfs root).foldl (plR fl) ((1 - half) * (Wn / 2), swA (blw made (ded false kp Wn adr (LRR fl rfs root))) adr, fun _ => none)).1) coll mins (movd + (LRR fl rfs root).length) sz2 rw2 pl2 old w2) A) args s 0 0 A) (F0 m 12 ls []) := by
    intro fu
    induction fu with
    | zero => intro i h1; exact absurd h1 (Nat.not_lt_zero _)
    | succ fu ihLA =>
      intro i h1 h2 w H locs hR hG ls hl
      refine lv_iload_n S.1 S.2.1 dX10_copyAll_12 rfl (lv_at hl 0 rfl) ?_
      refine lv_aload_n S.1 S.2.1 dX10_copyAll_13 rfl (lv_at hl 2 rfl) ?_
      refine rg_size S hK hG hR dX10_copyAll_14 ?_
      refine lv_icmp_ge (tgt := 36) S.1 S.2.1 dX10_copyAll_17 (by decide) (fun c1 => ?_) (fun c1 => ?_)
      · have c1 : sz2 ≤ i := (nI_leI (a := sz2) (b := i) (by omega) (by omega)).mp c1
        have hi : i = (LRR fl rfs root).length := by omega
        subst hi
        rw [List.take_length, gb_all hLay] at hR
        refine lv_aload_n S.1 S.2.1 dX10_copyAll_36 rfl (lv_at hl 2 rfl) ?_
        refine lv_iconst (v := nI (1)) S.1 S.2.1 dX10_copyAll_37 (by decide) ?_
        refine lv_aload_n S.1 S.2.1 dX10_copyAll_38 rfl (lv_at hl 2 rfl) ?_
        refine rg_half S hK hG hR dX10_copyAll_39 ?_
        refine lv_isub S.1 S.2.1 dX10_copyAll_42 ?_
        refine lv_eqi (pk_sub (by omega)) ?_
        refine rp_half S hK hG hR (1 - half) dX10_copyAll_43 (fun w H locs hR hG => ?_)
        refine lv_aload_n S.1 S.2.1 dX10_copyAll_46 rfl (lv_at hl 2 rfl) ?_
        refine lv_aload_n S.1 S.2.1 dX10_copyAll_47 rfl (lv_at hl 2 rfl) ?_
        refine rg_half S hK hG hR dX10_copyAll_48 ?_
        refine lv_aload_n S.1 S.2.1 dX10_copyAll_51 rfl (lv_at hl 2 rfl) ?_
        refine rg_Wn S hK hG hR dX10_copyAll_52 ?_
        refine lv_iconst (v := nI (2)) S.1 S.2.1 dX10_copyAll_55 (by decide) ?_
        refine lv_idiv S.1 S.2.1 dX10_copyAll_56 (by decide) ?_
        refine lv_eqi (pk_div (by omega) (by omega) (by omega)) ?_
        refine lv_imul S.1 S.2.1 dX10_copyAll_57 ?_
        refine lv_eqi (pk_mul _ _) ?_
        refine rp_top S hK hG hR ((1 - half) * (Wn / 2)) dX10_copyAll_58 (fun w H locs hR hG => ?_)
        refine lv_iconst (v := nI (0)) S.1 S.2.1 dX10_copyAll_61 (by decide) ?_
        refine lv_istore_n (lv' := [(2, .int (nI (0))), (1, .int (nI (cnt (ded false kp Wn adr (LRR fl rfs root)) made))), (0, .ref (q 0))]) S.1 S.2.1 dX10_copyAll_62 rfl hl (by decide) rfl (fun ls hl => ?_)
        have LB : ∀ (fu : Nat) (i : Nat), (LRR fl rfs root).length - i < fu → (i ≤ (LRR fl rfs root).length) → ∀ (w : mM) (H : Heap) (locs : List Loc), RW cI cZ q thr kp Wn made ((((LRR fl rfs root).take i).foldl (plR fl) ((1 - half) * (Wn / 2), swA (blw made (ded false kp Wn adr (LRR fl rfs root))) adr, fun _ => none)).2.1) fl (swR (blw made (ded false kp Wn adr (LRR fl rfs root))) rem) num rfs root ((((LRR fl rfs root).take i).foldl (plR fl) ((1 - half) * (Wn / 2), swA (blw made (ded false kp Wn adr (LRR fl rfs root))) adr, fun _ => none)).2.2) (1 - half) ((((LRR fl rfs root).take i).foldl (plR fl) ((1 - half) * (Wn / 2), swA (blw made (ded false kp Wn adr (LRR fl rfs root))) adr, fun _ => none)).1) coll mins (movd + i) sz2 rw2 pl2 old w → mG (dC, dI) vwCl A s.heap w H locs → ∀ ls : Array Slot, lv_has ls 3 [(2, .int (nI (i))), (1, .int (nI (cnt (ded false kp Wn adr (LRR fl rfs root)) made))), (0, .ref (q 0))] → W p l e { frames := 3, cells := 0, slots := 0, locals := 66 } s m args below meth c H locs 0 0 (MQ below (mQ (dC, dI) vwCl (tyL cI cZ cT) (fun v w2 => ∃ (sz2 : Nat) (rw2 : Nat → Nat) (pl2 : Nat → Option Nat), v = some (.int (nI (cnt (ded false kp Wn adr (LRR fl rfs root)) made))) ∧ Lst made sz2 rw2 pl2 (LRR fl rfs root) ∧ RW cI cZ q thr kp Wn made (((LRR fl rfs root).foldl (plR fl) ((1 - half) * (Wn / 2), swA (blw made (ded false kp Wn adr (LRR fl rfs root))) adr, fun _ => none)).2.1) fl (swR (blw made (ded false kp Wn adr (LRR fl rfs root))) rem) num rfs root (((LRR fl rfs root).foldl (plR fl) ((1 - half) * (Wn / 2), swA (blw made (ded false kp Wn adr (LRR fl rfs root))) adr, fun _ => none)).2.2) (1 - half) (((LRR fl rfs root).foldl (plR fl) ((1 - half) * (Wn / 2), swA (blw made (ded false kp Wn adr (LRR fl rfs root))) adr, fun _ => none)).1) coll mins (movd + (LRR fl rfs root).length) sz2 rw2 pl2 old w2) A) args s 0 0 A) (F0 m 63 ls []) := by
          intro fu
          induction fu with
          | zero => intro i h1; exact absurd h1 (Nat.not_lt_zero _)
          | succ fu ihLB =>
            intro i h1 h3 w H locs hR hG ls hl
            refine lv_iload_n S.1 S.2.1 dX10_copyAll_63 rfl (lv_at hl 0 rfl) ?_
            refine lv_aload_n S.1 S.2.1 dX10_copyAll_64 rfl (lv_at hl 2 rfl) ?_
            refine rg_size S hK hG hR dX10_copyAll_65 ?_
            refine lv_icmp_ge (tgt := 123) S.1 S.2.1 dX10_copyAll_68 (by decide) (fun c2 => ?_) (fun c2 => ?_)
            · have c2 : sz2 ≤ i := (nI_leI (a := sz2) (b := i) (by omega) (by omega)).mp c2
              have hi : i = (LRR fl rfs root).length := by omega
              subst hi
              rw [List.take_length] at hR
              refine lv_iload_n S.1 S.2.1 dX10_copyAll_123 rfl (lv_at hl 1 rfl) ?_
              exact mw_iret S hr hlk hK hG dX10_copyAll_124 ⟨sz2, rw2, pl2, rfl, hLs, hR⟩
            · have c2 : ¬ (sz2 ≤ i) := fun h9 => c2 ((nI_leI (a := sz2) (b := i) (by omega) (by omega)).mpr h9)
              have hi2 : i < (LRR fl rfs root).length := by omega
              have hrow := Lst_row hLs (show i < sz2 by omega)
              have hxm := hrow.2.2
              have hfx := hfl _ hxm
              have hp1 := plR_1 fl ((LRR fl rfs root).take i) ((1 - half) * (Wn / 2), swA (blw made (ded false kp Wn adr (LRR fl rfs root))) adr, fun _ => none)
              dsimp only at hp1
              have hz1 := szL_take fl ((1 - half) * (Wn / 2)) (i + 1) (LRR fl rfs root)
              rw [szL_s hi2, szL_add fl (LRR fl rfs root)] at hz1
              have hh2 : (1 - half) * (Wn / 2) ≤ Wn / 2 := by
                have h9 : 1 - half ≤ 1 := by omega
                have := Nat.mul_le_mul_right (Wn / 2) h9
                omega
              refine lv_aload_n S.1 S.2.1 dX10_copyAll_71 rfl (lv_at hl 2 rfl) ?_
              refine lv_aload_n S.1 S.2.1 dX10_copyAll_72 rfl (lv_at hl 2 rfl) ?_
              refine rg_row S hK hG hR dX10_copyAll_73 ?_
              refine lv_iload_n S.1 S.2.1 dX10_copyAll_76 rfl (lv_at hl 0 rfl) ?_
              refine rl_row S hK hG hR (i) (by omega) dX10_copyAll_77 ?_
              refine lv_eqi (y := nI ((LRR fl rfs root).getD i 0)) (by rw [hrow.1]) ?_
              refine lv_aload_n S.1 S.2.1 dX10_copyAll_78 rfl (lv_at hl 2 rfl) ?_
              refine rg_top S hK hG hR dX10_copyAll_79 ?_
              refine mCV (As := [.int (nI ((LRR fl rfs root).getD i 0)), .int (nI ((((LRR fl rfs root).take i).foldl (plR fl) ((1 - half) * (Wn / 2), swA (blw made (ded false kp Wn adr (LRR fl rfs root))) adr, fun _ => none)).1))]) (rest := []) S (r_lie hR ((LRR fl rfs root).getD i 0) (((LRR fl rfs root).take i).foldl (plR fl) ((1 - half) * (Wn / 2), swA (blw made (ded false kp Wn adr (LRR fl rfs root))) adr, fun _ => none)).1 (by omega) (by omega)) cal_X10_lie in_440 in_441 in_442 in_5 hK hN hG hR.obj rfl rfl rfl hl.1 (Nat.le_of_ble_eq_true rfl) ⟨by decide, by decide⟩ ⟨rfl, rfl⟩ ⟨by decide, by decide⟩ dX10_copyAll_82 (fun v w H locs hp hG => ?_)
              obtain ⟨rfl, hR⟩ := hp
              refine W.eq (g2 := F0 m 85 ls []) rfl ?_
              refine lv_aload_n S.1 S.2.1 dX10_copyAll_85 rfl (lv_at hl 2 rfl) ?_
              refine lv_dup S.1 S.2.1 dX10_copyAll_86 rfl ?_
              refine rg_top S hK hG hR dX10_copyAll_87 ?_
              refine lv_iconst (v := nI (1)) S.1 S.2.1 dX10_copyAll_90 (by decide) ?_
              refine lv_aload_n S.1 S.2.1 dX10_copyAll_91 rfl (lv_at hl 2 rfl) ?_
              refine rg_fl S hK hG hR dX10_copyAll_92 ?_
              refine lv_aload_n S.1 S.2.1 dX10_copyAll_95 rfl (lv_at hl 2 rfl) ?_
              refine rg_row S hK hG hR dX10_copyAll_96 ?_
              refine lv_iload_n S.1 S.2.1 dX10_copyAll_99 rfl (lv_at hl 0 rfl) ?_
              refine rl_row S hK hG hR (i) (by omega) dX10_copyAll_100 ?_
              refine lv_eqi (y := nI ((LRR fl rfs root).getD i 0)) (by rw [hrow.1]) ?_
              refine rl_fl S hK hG hR ((LRR fl rfs root).getD i 0) (by omega) dX10_copyAll_101 ?_
              refine lv_iadd S.1 S.2.1 dX10_copyAll_102 ?_
              refine lv_eqi (nI_add _ _) ?_
              refine lv_iadd S.1 S.2.1 dX10_copyAll_103 ?_
              refine lv_eqi (nI_add _ _) ?_
              refine lv_eqi (y := nI ((((LRR fl rfs root).take i).foldl (plR fl) ((1 - half) * (Wn / 2), swA (blw made (ded false kp Wn adr (LRR fl rfs root))) adr, fun _ => none)).1 + (fl ((LRR fl rfs root).getD i 0) + 1))) (by rw [Nat.add_comm 1 (fl _)]) ?_
              refine rp_top S hK hG hR ((((LRR fl rfs root).take i).foldl (plR fl) ((1 - half) * (Wn / 2), swA (blw made (ded false kp Wn adr (LRR fl rfs root))) adr, fun _ => none)).1 + (fl ((LRR fl rfs root).getD i 0) + 1)) dX10_copyAll_104 (fun w H locs hR hG => ?_)
              refine lv_aload_n S.1 S.2.1 dX10_copyAll_107 rfl (lv_at hl 2 rfl) ?_
              refine lv_dup S.1 S.2.1 dX10_copyAll_108 rfl ?_
              refine rg_movd S hK hG hR dX10_copyAll_109 ?_
              refine lv_iconst (v := nI (1)) S.1 S.2.1 dX10_copyAll_112 (by decide) ?_
              refine lv_iadd S.1 S.2.1 dX10_copyAll_113 ?_
              refine lv_eqi (nI_add _ _) ?_
              refine rp_movd S hK hG hR ((movd + i) + 1) dX10_copyAll_114 (fun w H locs hR hG => ?_)
              have hfs := fold_s (g := plR fl) (a := ((1 - half) * (Wn / 2), swA (blw made (ded false kp Wn adr (LRR fl rfs root))) adr, fun _ => none)) hi2
              have hR : RW cI cZ q thr kp Wn made ((((LRR fl rfs root).take (i + 1)).foldl (plR fl) ((1 - half) * (Wn / 2), swA (blw made (ded false kp Wn adr (LRR fl rfs root))) adr, fun _ => none)).2.1) fl (swR (blw made (ded false kp Wn adr (LRR fl rfs root))) rem) num rfs root ((((LRR fl rfs root).take (i + 1)).foldl (plR fl) ((1 - half) * (Wn / 2), swA (blw made (ded false kp Wn adr (LRR fl rfs root))) adr, fun _ => none)).2.2) (1 - half) ((((LRR fl rfs root).take (i + 1)).foldl (plR fl) ((1 - half) * (Wn / 2), swA (blw made (ded false kp Wn adr (LRR fl rfs root))) adr, fun _ => none)).1) coll mins (movd + (i + 1)) sz2 rw2 pl2 old w := by rw [hfs]; exact hR
              refine lv_iinc (v := nI (i + 1)) (lv' := [(2, .int (nI (i + 1))), (1, .int (nI (cnt (ded false kp Wn adr (LRR fl rfs root)) made))), (0, .ref (q 0))]) S.1 S.2.1 dX10_copyAll_117 hl (k := 0) rfl (nI_1 _) (by decide) rfl (fun ls hl => ?_)
              refine lv_goto (tgt := 63) S.1 S.2.1 dX10_copyAll_120 (by decide) ?_
              exact ihLB (i + 1) (by omega) (by omega) _ _ _ hR hG ls (lv_sub hl [0, 1, 2] rfl)
        exact LB ((LRR fl rfs root).length + 1) 0 (by omega) (by omega) _ _ _ (hR) hG ls (lv_sub hl [0, 1, 2] rfl)
      · have c1 : ¬ (sz2 ≤ i) := fun h9 => c1 ((nI_leI (a := sz2) (b := i) (by omega) (by omega)).mpr h9)
        have hi2 : i < (LRR fl rfs root).length := by omega
        have hrow := Lst_row hLs (show i < sz2 by omega)
        have hxm := hrow.2.2
        have hfx := hfl _ hxm
        obtain ⟨-, a, ha⟩ := hKm _ (LRR_all hKf hKr _ hrow.2.1)
        have hb := Lay_b hLay hxm ha
        have hta : tda adr ((LRR fl rfs root).getD i 0) = a := by unfold tda; rw [ha]; rfl
        refine lv_aload_n S.1 S.2.1 dX10_copyAll_20 rfl (lv_at hl 2 rfl) ?_
        refine lv_aload_n S.1 S.2.1 dX10_copyAll_21 rfl (lv_at hl 2 rfl) ?_
        refine rg_row S hK hG hR dX10_copyAll_22 ?_
        refine lv_iload_n S.1 S.2.1 dX10_copyAll_25 rfl (lv_at hl 0 rfl) ?_
        refine rl_row S hK hG hR (i) (by omega) dX10_copyAll_26 ?_
        refine lv_eqi (y := nI ((LRR fl rfs root).getD i 0)) (by rw [hrow.1]) ?_
        refine mCV (As := [.int (nI ((LRR fl rfs root).getD i 0))]) (rest := []) S (r_leave hR ((LRR fl rfs root).getD i 0) a (by omega) ((swA_kept (blw_in (ded_in hrow.2.1))).trans ha) (by omega)) cal_X10_leave in_436 in_437 in_438 in_5 hK hN hG hR.obj rfl rfl rfl hl.1 (Nat.le_of_ble_eq_true rfl) ⟨by decide, by decide⟩ ⟨rfl, rfl⟩ ⟨by decide, by decide⟩ dX10_copyAll_27 (fun v w H locs hp hG => ?_)
        obtain ⟨rfl, hR⟩ := hp
        rw [← hta, gbO_s hi2] at hR
        refine W.eq (g2 := F0 m 30 ls []) rfl ?_
        refine lv_iinc (v := nI (i + 1)) (lv' := [(2, .int (nI (i + 1))), (1, .int (nI (cnt (ded false kp Wn adr (LRR fl rfs root)) made))), (0, .ref (q 0))]) S.1 S.2.1 dX10_copyAll_30 hl (k := 0) rfl (nI_1 _) (by decide) rfl (fun ls hl => ?_)
        refine lv_goto (tgt := 12) S.1 S.2.1 dX10_copyAll_33 (by decide) ?_
        exact ihLA (i + 1) (by omega) (by omega) _ _ _ hR hG ls (lv_sub hl [0, 1, 2] rfl)
  exact LA ((LRR fl rfs root).length + 1) 0 (by omega) (by omega) _ _ _ (hR) hG ls (lv_sub hl [0, 1, 2] rfl)
theorem cal_X10_collectNow : mCal yX10_collectNow cX10_collectNow 3 0 (some .int) := ⟨in_400, by decide +kernel⟩
set_option maxHeartbeats 4000000 in
set_option maxRecDepth 100000 in
theorem r_cnow1 {l : Launch} {dC : Nat → ClassId} {dI : Nat → Nat → Nat} {cI cZ cT : ClassId} {q : Nat → Nat} {thr : Int32} {kp : Nat} {Wn : Nat} {made : Nat} {adr : (Nat → Option Nat)} {fl : (Nat → Nat)} {rem : (Nat → Bool)} {num : (Nat → Nat → Int32)} {rfs : (Nat → Nat → Option Nat)} {root : (Nat → Option Nat)} {own : (Nat → Option Nat)} {half : Nat} {top : Nat} {coll : Nat} {mins : Nat} {movd : Nat} {size : Nat} {row : (Nat → Nat)} {plc : (Nat → Option Nat)} {old : (Nat → Option Nat)} {Kp : Nat → Prop} (hB : ∀ M : List Nat, M.Nodup → (∀ x ∈ M, Kp x) → M.length ≤ 400) (hKm : ∀ x, Kp x → x < made ∧ ∃ a, adr x = some a) (hKf : ∀ x, Kp x → ∀ i, i < fl x → ∀ t, rfs x i = some t → Kp t) {w : mM} (hR : RW cI cZ q thr kp Wn made adr fl rem num rfs root own half top coll mins movd size row plc old w) (hm : made ≤ 2000) (hW : Wn ≤ 400) (hfl : ∀ x, x < made → fl x ≤ 6) (hLay : Lay made Wn fl adr own) (hKr : ∀ i, i < 16 → ∀ t, root i = some t → Kp t) (hkp : kp = 1) (hh : half ≤ 1) (hcap : szL fl 0 (LRR fl rfs root) ≤ Wn / 2) : mC l yX10_collectNow (wsY yX10_collectNow cX10_collectNow 3 (some .int)) { frames := 4, cells := 0, slots := 0, locals := 88 } (dC, dI) vwCl (tyL cI cZ cT) 0 0 w [.ref (q 0)] (fun v w2 => ∃ (sz2 : Nat) (rw2 : Nat → Nat) (pl2 : Nat → Option Nat), v = some (.int (nI (cnt (ded false kp Wn adr (LRR fl rfs root)) made))) ∧ RW cI cZ q thr kp Wn made (((LRR fl rfs root).foldl (plR fl) ((1 - half) * (Wn / 2), swA (blw made (ded false kp Wn adr (LRR fl rfs root))) adr, fun _ => none)).2.1) fl (swR (blw made (ded false kp Wn adr (LRR fl rfs root))) rem) num rfs root (((LRR fl rfs root).foldl (plR fl) ((1 - half) * (Wn / 2), swA (blw made (ded false kp Wn adr (LRR fl rfs root))) adr, fun _ => none)).2.2) (1 - half) (((LRR fl rfs root).foldl (plR fl) ((1 - half) * (Wn / 2), swA (blw made (ded false kp Wn adr (LRR fl rfs root))) adr, fun _ => none)).1) (coll + 1) mins (movd + (LRR fl rfs root).length) sz2 rw2 pl2 old w2) := by
  refine mC.on (by decide) (Nat.le_of_ble_eq_true rfl) ?_
  intro p e s m args below meth c ls S hr hlk hnm hK hN hG hl
  have hl : lv_has ls 3 [(0, .ref (q 0))] := hl
  generalize hAe : mA w s.heap.size = A at hG ⊢
  refine lv_aload_n S.1 S.2.1 dX10_collectNow_0 rfl (lv_at hl 0 rfl) ?_
  refine lv_dup S.1 S.2.1 dX10_collectNow_1 rfl ?_
  refine rg_coll S hK hG hR dX10_collectNow_2 ?_
  refine lv_iconst (v := nI (1)) S.1 S.2.1 dX10_collectNow_5 (by decide) ?_
  refine lv_iadd S.1 S.2.1 dX10_collectNow_6 ?_
  refine lv_eqi (nI_add _ _) ?_
  refine rp_coll S hK hG hR (coll + 1) dX10_collectNow_7 (fun w H locs hR hG => ?_)
  refine lv_aload_n S.1 S.2.1 dX10_collectNow_10 rfl (lv_at hl 0 rfl) ?_
  refine rg_kp S hK hG hR dX10_collectNow_11 ?_
  refine lv_iconst (v := nI (1)) S.1 S.2.1 dX10_collectNow_14 (by decide) ?_
  refine lv_icmp_ne (tgt := 23) S.1 S.2.1 dX10_collectNow_15 (by decide) (fun c1 => ?_) (fun c1 => ?_)
  · have c1 : ¬ (kp = 1) := fun h9 => c1 ((nI_eq (a := kp) (b := 1) (by omega) (by omega)).mpr h9)
    exact absurd hkp c1
  · have c1 : kp = 1 := (nI_eq (a := kp) (b := 1) (by omega) (by omega)).mp c1
    refine lv_aload_n S.1 S.2.1 dX10_collectNow_18 rfl (lv_at hl 0 rfl) ?_
    refine mCV (As := []) (rest := []) S (r_copyAll (Kp := Kp) hB hKm hKf hR hm hW hfl hLay hKr (by omega) hh hcap) cal_X10_copyAll in_402 in_403 in_404 in_5 hK hN hG hR.obj rfl rfl rfl hl.1 (Nat.le_of_ble_eq_true rfl) ⟨by decide, by decide⟩ ⟨rfl, rfl⟩ ⟨by decide, by decide⟩ dX10_collectNow_19 (fun v w H locs hp hG => ?_)
    obtain ⟨sz2, rw2, pl2, rfl, hLs, hR⟩ := hp
    refine W.eq (g2 := F0 m 22 ls [.int (nI (cnt (ded false kp Wn adr (LRR fl rfs root)) made))]) rfl ?_
    exact mw_iret S hr hlk hK hG dX10_collectNow_22 ⟨sz2, rw2, pl2, rfl, hR⟩
set_option maxHeartbeats 4000000 in
set_option maxRecDepth 100000 in
theorem r_cnow0 {l : Launch} {dC : Nat → ClassId} {dI : Nat → Nat → Nat} {cI cZ cT : ClassId} {q : Nat → Nat} {thr : Int32} {kp : Nat} {Wn : Nat} {made : Nat} {adr : (Nat → Option Nat)} {fl : (Nat → Nat)} {rem : (Nat → Bool)} {num : (Nat → Nat → Int32)} {rfs : (Nat → Nat → Option Nat)} {root : (Nat → Option Nat)} {own : (Nat → Option Nat)} {half : Nat} {top : Nat} {coll : Nat} {mins : Nat} {movd : Nat} {size : Nat} {row : (Nat → Nat)} {plc : (Nat → Option Nat)} {old : (Nat → Option Nat)} {Kp : Nat → Prop} (hB : ∀ M : List Nat, M.Nodup → (∀ x ∈ M, Kp x) → M.length ≤ 400) (hKm : ∀ x, Kp x → x < made ∧ ∃ a, adr x = some a) (hKf : ∀ x, Kp x → ∀ i, i < fl x → ∀ t, rfs x i = some t → Kp t) {w : mM} (hR : RW cI cZ q thr kp Wn made adr fl rem num rfs root own half top coll mins movd size row plc old w) (hm : made ≤ 2000) (hW : Wn ≤ 400) (hfl : ∀ x, x < made → fl x ≤ 6) (hLay : Lay made Wn fl adr own) (hKr : ∀ i, i < 16 → ∀ t, root i = some t → Kp t) (hkp : kp = 0) : mC l yX10_collectNow (wsY yX10_collectNow cX10_collectNow 3 (some .int)) { frames := 3, cells := 0, slots := 0, locals := 66 } (dC, dI) vwCl (tyL cI cZ cT) 0 0 w [.ref (q 0)] (fun v w2 => ∃ (sz2 : Nat) (rw2 : Nat → Nat) (pl2 : Nat → Option Nat), v = some (.int (nI (cnt (ded false kp Wn adr (LRR fl rfs root)) made))) ∧ RW cI cZ q thr kp Wn made (swA (blw made (ded false kp Wn adr (LRR fl rfs root))) adr) fl (swR (blw made (ded false kp Wn adr (LRR fl rfs root))) rem) num rfs root (swO (blw made (ded false kp Wn adr (LRR fl rfs root))) own) half top (coll + 1) mins movd sz2 rw2 pl2 old w2) := by
  refine mC.on (by decide) (Nat.le_of_ble_eq_true rfl) ?_
  intro p e s m args below meth c ls S hr hlk hnm hK hN hG hl
  have hl : lv_has ls 3 [(0, .ref (q 0))] := hl
  generalize hAe : mA w s.heap.size = A at hG ⊢
  refine lv_aload_n S.1 S.2.1 dX10_collectNow_0 rfl (lv_at hl 0 rfl) ?_
  refine lv_dup S.1 S.2.1 dX10_collectNow_1 rfl ?_
  refine rg_coll S hK hG hR dX10_collectNow_2 ?_
  refine lv_iconst (v := nI (1)) S.1 S.2.1 dX10_collectNow_5 (by decide) ?_
  refine lv_iadd S.1 S.2.1 dX10_collectNow_6 ?_
  refine lv_eqi (nI_add _ _) ?_
  refine rp_coll S hK hG hR (coll + 1) dX10_collectNow_7 (fun w H locs hR hG => ?_)
  refine lv_aload_n S.1 S.2.1 dX10_collectNow_10 rfl (lv_at hl 0 rfl) ?_
  refine rg_kp S hK hG hR dX10_collectNow_11 ?_
  refine lv_iconst (v := nI (1)) S.1 S.2.1 dX10_collectNow_14 (by decide) ?_
  refine lv_icmp_ne (tgt := 23) S.1 S.2.1 dX10_collectNow_15 (by decide) (fun c1 => ?_) (fun c1 => ?_)
  · have c1 : ¬ (kp = 1) := fun h9 => c1 ((nI_eq (a := kp) (b := 1) (by omega) (by omega)).mpr h9)
    refine lv_aload_n S.1 S.2.1 dX10_collectNow_23 rfl (lv_at hl 0 rfl) ?_
    refine mCV (As := []) (rest := []) S (r_reach (Kp := Kp) hB (fun x hx => (hKm x hx).1) hKf hfl hm hR hKr) cal_X10_reach in_408 in_409 in_410 in_5 hK hN hG hR.obj rfl rfl rfl hl.1 (Nat.le_of_ble_eq_true rfl) ⟨by decide, by decide⟩ ⟨rfl, rfl⟩ ⟨by decide, by decide⟩ dX10_collectNow_24 (fun v w H locs hp hG => ?_)
    obtain ⟨rfl, sz2, rw2, pl2, hR, hLs⟩ := hp
    change Lst made sz2 rw2 pl2 (LRR fl rfs root) at hLs
    have hl4 : (LRR fl rfs root).length ≤ 400 := hB _ LRR_nd (LRR_all hKf hKr)
    have hszc : sz2 = (LRR fl rfs root).length := hLs.2.1
    refine W.eq (g2 := F0 m 27 ls []) rfl ?_
    refine lv_aload_n S.1 S.2.1 dX10_collectNow_27 rfl (lv_at hl 0 rfl) ?_
    refine rg_kp S hK hG hR dX10_collectNow_28 ?_
    refine lv_if_ne (tgt := 40) S.1 S.2.1 dX10_collectNow_31 (by decide) (fun c2 => ?_) (fun c2 => ?_)
    · have c2 : ¬ (kp = 0) := fun h9 => c2 ((nI_eq (a := kp) (b := 0) (by omega) (by omega)).mpr h9)
      exact absurd hkp c2
    · have c2 : kp = 0 := (nI_eq (a := kp) (b := 0) (by omega) (by omega)).mp c2
      refine lv_aload_n S.1 S.2.1 dX10_collectNow_34 rfl (lv_at hl 0 rfl) ?_
      refine lv_iconst (v := bI false) S.1 S.2.1 dX10_collectNow_35 (by decide) ?_
      refine mCV (As := [.int (bI (false))]) (rest := []) S (r_sweep hR false hm hW (by omega) hLay (fun o ho x hx => Lst_b hLs ho hl4 x hx)) cal_X10_sweep in_424 in_425 in_426 in_5 hK hN hG hR.obj rfl rfl rfl hl.1 (Nat.le_of_ble_eq_true rfl) ⟨by decide, by decide⟩ ⟨rfl, rfl⟩ ⟨by decide, by decide⟩ dX10_collectNow_36 (fun v w H locs hp hG => ?_)
      obtain ⟨rfl, hR⟩ := hp
      rw [blw_congr (fun o ho => swC_L hLs ho)] at hR
      rw [cnt_congr made (fun o ho => swC_L hLs ho)]
      refine W.eq (g2 := F0 m 39 ls [.int (nI (cnt (ded false kp Wn adr (LRR fl rfs root)) made))]) rfl ?_
      exact mw_iret S hr hlk hK hG dX10_collectNow_39 ⟨sz2, rw2, pl2, rfl, hR⟩
  · have c1 : kp = 1 := (nI_eq (a := kp) (b := 1) (by omega) (by omega)).mp c1
    exact absurd c1 (by omega)
set_option maxHeartbeats 4000000 in
set_option maxRecDepth 100000 in
theorem r_cnow2 {l : Launch} {dC : Nat → ClassId} {dI : Nat → Nat → Nat} {cI cZ cT : ClassId} {q : Nat → Nat} {thr : Int32} {kp : Nat} {Wn : Nat} {made : Nat} {adr : (Nat → Option Nat)} {fl : (Nat → Nat)} {rem : (Nat → Bool)} {num : (Nat → Nat → Int32)} {rfs : (Nat → Nat → Option Nat)} {root : (Nat → Option Nat)} {own : (Nat → Option Nat)} {half : Nat} {top : Nat} {coll : Nat} {mins : Nat} {movd : Nat} {size : Nat} {row : (Nat → Nat)} {plc : (Nat → Option Nat)} {old : (Nat → Option Nat)} {Kp : Nat → Prop} (hB : ∀ M : List Nat, M.Nodup → (∀ x ∈ M, Kp x) → M.length ≤ 400) (hKm : ∀ x, Kp x → x < made ∧ ∃ a, adr x = some a) (hKf : ∀ x, Kp x → ∀ i, i < fl x → ∀ t, rfs x i = some t → Kp t) {w : mM} (hR : RW cI cZ q thr kp Wn made adr fl rem num rfs root own half top coll mins movd size row plc old w) (hm : made ≤ 2000) (hW : Wn ≤ 400) (hfl : ∀ x, x < made → fl x ≤ 6) (hLay : Lay made Wn fl adr own) (hKr : ∀ i, i < 16 → ∀ t, root i = some t → Kp t) (hkp : kp = 2) (hY : ∀ k a, k < made → adr k = some a → a < Wn / 4 → a + fl k < Wn / 4) (hrm : ∀ o a, o < made → adr o = some a → a < Wn / 4 → rem o = false) (tp0 : Nat → Nat) : mC l yX10_collectNow (wsY yX10_collectNow cX10_collectNow 3 (some .int)) { frames := 4, cells := 0, slots := 0, locals := 92 } (dC, dI) vwCl (tyL cI cZ cT) 0 0 w [.ref (q 0)] (fun v w2 => ∃ (sz2 : Nat) (rw2 : Nat → Nat) (pl2 ol2 : Nat → Option Nat), (v = some (.int (-1)) ∧ lay fl Wn (LYR kp Wn fl rfs root (swA (blw made (ded true kp Wn adr (LRR fl rfs root))) adr) (swO (blw made (ded true kp Wn adr (LRR fl rfs root))) own) (swR (blw made (ded true kp Wn adr (LRR fl rfs root))) rem)) ((swO (blw made (ded true kp Wn adr (LRR fl rfs root))) own), tp0) = none ∧ RW cI cZ q thr kp Wn made ((swA (blw made (ded true kp Wn adr (LRR fl rfs root))) adr)) fl ((swR (blw made (ded true kp Wn adr (LRR fl rfs root))) rem)) num rfs root ((swO (blw made (ded true kp Wn adr (LRR fl rfs root))) own)) half top (coll + 1) mins movd sz2 rw2 pl2 ol2 w2) ∨ ∃ (ow2 : Nat → Option Nat) (tp2 : Nat → Nat), v = some (.int (nI (cnt (ded true kp Wn adr (LRR fl rfs root)) made + cnt (yng kp Wn (rzA (swA (blw made (ded true kp Wn adr (LRR fl rfs root))) adr) tp2 (LYR kp Wn fl rfs root (swA (blw made (ded true kp Wn adr (LRR fl rfs root))) adr) (swO (blw made (ded true kp Wn adr (LRR fl rfs root))) own) (swR (blw made (ded true kp Wn adr (LRR fl rfs root))) rem)))) made))) ∧ Rz made Wn fl (swA (blw made (ded true kp Wn adr (LRR fl rfs root))) adr) (swO (blw made (ded true kp Wn adr (LRR fl rfs root))) own) tp0 (LYR kp Wn fl rfs root (swA (blw made (ded true kp Wn adr (LRR fl rfs root))) adr) (swO (blw made (ded true kp Wn adr (LRR fl rfs root))) own) (swR (blw made (ded true kp Wn adr (LRR fl rfs root))) rem)) ol2 ow2 tp2 ∧ (LYR kp Wn fl rfs root (swA (blw made (ded true kp Wn adr (LRR fl rfs root))) adr) (swO (blw made (ded true kp Wn adr (LRR fl rfs root))) own) (swR (blw made (ded true kp Wn adr (LRR fl rfs root))) rem)).Nodup ∧ RW cI cZ q thr kp Wn made (swA (blw made (yng kp Wn (rzA (swA (blw made (ded true kp Wn adr (LRR fl rfs root))) adr) tp2 (LYR kp Wn fl rfs root (swA (blw made (ded true kp Wn adr (LRR fl rfs root))) adr) (swO (blw made (ded true kp Wn adr (LRR fl rfs root))) own) (swR (blw made (ded true kp Wn adr (LRR fl rfs root))) rem))))) (rzA (swA (blw made (ded true kp Wn adr (LRR fl rfs root))) adr) tp2 (LYR kp Wn fl rfs root (swA (blw made (ded true kp Wn adr (LRR fl rfs root))) adr) (swO (blw made (ded true kp Wn adr (LRR fl rfs root))) own) (swR (blw made (ded true kp Wn adr (LRR fl rfs root))) rem)))) fl (clrB (swR (blw made (ded true kp Wn adr (LRR fl rfs root))) rem) made) num rfs root (swO (blw made (yng kp Wn (rzA (swA (blw made (ded true kp Wn adr (LRR fl rfs root))) adr) tp2 (LYR kp Wn fl rfs root (swA (blw made (ded true kp Wn adr (LRR fl rfs root))) adr) (swO (blw made (ded true kp Wn adr (LRR fl rfs root))) own) (swR (blw made (ded true kp Wn adr (LRR fl rfs root))) rem))))) (rzO Wn (swO (blw made (ded true kp Wn adr (LRR fl rfs root))) own) ow2 (LYR kp Wn fl rfs root (swA (blw made (ded true kp Wn adr (LRR fl rfs root))) adr) (swO (blw made (ded true kp Wn adr (LRR fl rfs root))) own) (swR (blw made (ded true kp Wn adr (LRR fl rfs root))) rem)))) half 0 (coll + 1) (mins + 1) (movd + (LYR kp Wn fl rfs root (swA (blw made (ded true kp Wn adr (LRR fl rfs root))) adr) (swO (blw made (ded true kp Wn adr (LRR fl rfs root))) own) (swR (blw made (ded true kp Wn adr (LRR fl rfs root))) rem)).length) sz2 rw2 pl2 ol2 w2) := by
  refine mC.on (by decide) (Nat.le_of_ble_eq_true rfl) ?_
  intro p e s m args below meth c ls S hr hlk hnm hK hN hG hl
  have hl : lv_has ls 3 [(0, .ref (q 0))] := hl
  generalize hAe : mA w s.heap.size = A at hG ⊢
  refine lv_aload_n S.1 S.2.1 dX10_collectNow_0 rfl (lv_at hl 0 rfl) ?_
  refine lv_dup S.1 S.2.1 dX10_collectNow_1 rfl ?_
  refine rg_coll S hK hG hR dX10_collectNow_2 ?_
  refine lv_iconst (v := nI (1)) S.1 S.2.1 dX10_collectNow_5 (by decide) ?_
  refine lv_iadd S.1 S.2.1 dX10_collectNow_6 ?_
  refine lv_eqi (nI_add _ _) ?_
  refine rp_coll S hK hG hR (coll + 1) dX10_collectNow_7 (fun w H locs hR hG => ?_)
  refine lv_aload_n S.1 S.2.1 dX10_collectNow_10 rfl (lv_at hl 0 rfl) ?_
  refine rg_kp S hK hG hR dX10_collectNow_11 ?_
  refine lv_iconst (v := nI (1)) S.1 S.2.1 dX10_collectNow_14 (by decide) ?_
  refine lv_icmp_ne (tgt := 23) S.1 S.2.1 dX10_collectNow_15 (by decide) (fun c1 => ?_) (fun c1 => ?_)
  · have c1 : ¬ (kp = 1) := fun h9 => c1 ((nI_eq (a := kp) (b := 1) (by omega) (by omega)).mpr h9)
    refine lv_aload_n S.1 S.2.1 dX10_collectNow_23 rfl (lv_at hl 0 rfl) ?_
    refine mCV (As := []) (rest := []) S (r_reach (Kp := Kp) hB (fun x hx => (hKm x hx).1) hKf hfl hm hR hKr) cal_X10_reach in_408 in_409 in_410 in_5 hK hN hG hR.obj rfl rfl rfl hl.1 (Nat.le_of_ble_eq_true rfl) ⟨by decide, by decide⟩ ⟨rfl, rfl⟩ ⟨by decide, by decide⟩ dX10_collectNow_24 (fun v w H locs hp hG => ?_)
    obtain ⟨rfl, sz2, rw2, pl2, hR, hLs⟩ := hp
    change Lst made sz2 rw2 pl2 (LRR fl rfs root) at hLs
    have hl4 : (LRR fl rfs root).length ≤ 400 := hB _ LRR_nd (LRR_all hKf hKr)
    have hszc : sz2 = (LRR fl rfs root).length := hLs.2.1
    refine W.eq (g2 := F0 m 27 ls []) rfl ?_
    refine lv_aload_n S.1 S.2.1 dX10_collectNow_27 rfl (lv_at hl 0 rfl) ?_
    refine rg_kp S hK hG hR dX10_collectNow_28 ?_
    refine lv_if_ne (tgt := 40) S.1 S.2.1 dX10_collectNow_31 (by decide) (fun c2 => ?_) (fun c2 => ?_)
    · have c2 : ¬ (kp = 0) := fun h9 => c2 ((nI_eq (a := kp) (b := 0) (by omega) (by omega)).mpr h9)
      refine lv_aload_n S.1 S.2.1 dX10_collectNow_40 rfl (lv_at hl 0 rfl) ?_
      refine lv_iconst (v := bI true) S.1 S.2.1 dX10_collectNow_41 (by decide) ?_
      refine mCV (As := [.int (bI (true))]) (rest := []) S (r_sweep hR true hm hW (by omega) hLay (fun o ho x hx => Lst_b hLs ho hl4 x hx)) cal_X10_sweep in_424 in_425 in_426 in_5 hK hN hG hR.obj rfl rfl rfl hl.1 (Nat.le_of_ble_eq_true rfl) ⟨by decide, by decide⟩ ⟨rfl, rfl⟩ ⟨by decide, by decide⟩ dX10_collectNow_42 (fun v w H locs hp hG => ?_)
      obtain ⟨rfl, hR⟩ := hp
      rw [blw_congr (fun o ho => swC_L hLs ho)] at hR
      rw [cnt_congr made (fun o ho => swC_L hLs ho)]
      refine W.eq (g2 := F0 m 45 ls [.int (nI (cnt (ded true kp Wn adr (LRR fl rfs root)) made))]) rfl ?_
      refine lv_istore_n (lv' := [(1, .int (nI (cnt (ded true kp Wn adr (LRR fl rfs root)) made))), (0, .ref (q 0))]) S.1 S.2.1 dX10_collectNow_45 rfl hl (by decide) rfl (fun ls hl => ?_)
      refine lv_aload_n S.1 S.2.1 dX10_collectNow_46 rfl (lv_at hl 1 rfl) ?_
      have hcl := LRR_closed (fl := fl) (rfs := rfs) (root := root) (by omega)
      have hal := LRR_all hKf hKr
      have hki := sw_keeps (kp := kp) (Wn := Wn) (made := made) hkp hLay hY (L := (LRR fl rfs root))
      have hrm2 : ∀ o a, o < made → (swA (blw made (ded true kp Wn adr (LRR fl rfs root))) adr) o = some a → a < Wn / 4 → (swR (blw made (ded true kp Wn adr (LRR fl rfs root))) rem) o = false := fun o a ho ha hy => by
        unfold swR
        split
        · rfl
        · exact hrm o a ho (swA_some ha).1 hy
      refine mCV (As := []) (rest := []) S (r_minorNow (Kp := fun x => x ∈ (LRR fl rfs root)) (fun M hM h => hB M hM (fun x hx => hal x (h x hx))) (fun x hx => ⟨(hKm x (hal x hx)).1, by rw [swA_kept (blw_in (ded_in hx))]; exact (hKm x (hal x hx)).2⟩) (fun x hx i hi t ht => hcl x hx i hi t ht) hm hW hkp hfl (Lay_sw hLay _) (fun k a hk ha hy => hY k a hk (swA_some ha).1 hy) hR (fun i hi t ht => LRR_root i hi t ht) hki hrm2 tp0) cal_X10_minorNow in_444 in_445 in_446 in_5 hK hN hG hR.obj rfl rfl rfl hl.1 (Nat.le_of_ble_eq_true rfl) ⟨by decide, by decide⟩ ⟨rfl, rfl⟩ ⟨by decide, by decide⟩ dX10_collectNow_47 (fun v w H locs hp hG => ?_)
      obtain ⟨sz2, rw2, pl2, ol2, hp⟩ := hp
      rcases hp with ⟨rfl, hno, hR⟩ | ⟨ow2, tp2, rfl, hRz, hnd, hR⟩
      · refine W.eq (g2 := F0 m 50 ls [.int (-1)]) rfl ?_
        refine lv_istore_n (lv' := [(2, .int (-1)), (1, .int (nI (cnt (ded true kp Wn adr (LRR fl rfs root)) made))), (0, .ref (q 0))]) S.1 S.2.1 dX10_collectNow_50 rfl hl (by decide) rfl (fun ls hl => ?_)
        refine lv_iload_n S.1 S.2.1 dX10_collectNow_51 rfl (lv_at hl 0 rfl) ?_
        refine lv_iconst (v := -1) S.1 S.2.1 dX10_collectNow_52 (by decide) ?_
        refine lv_icmp_ne (tgt := 60) S.1 S.2.1 dX10_collectNow_53 (by decide) (fun c3 => ?_) (fun c3 => ?_)
        · exact absurd rfl c3
        · refine lv_iconst (v := -1) S.1 S.2.1 dX10_collectNow_56 (by decide) ?_
          refine lv_goto (tgt := 63) S.1 S.2.1 dX10_collectNow_57 (by decide) ?_
          exact mw_iret S hr hlk hK hG dX10_collectNow_63 ⟨sz2, rw2, pl2, ol2, Or.inl ⟨rfl, hno, hR⟩⟩
      · have hcl9 := cnt_le (yng kp Wn (rzA (swA (blw made (ded true kp Wn adr (LRR fl rfs root))) adr) tp2 (LYR kp Wn fl rfs root (swA (blw made (ded true kp Wn adr (LRR fl rfs root))) adr) (swO (blw made (ded true kp Wn adr (LRR fl rfs root))) own) (swR (blw made (ded true kp Wn adr (LRR fl rfs root))) rem)))) made
        refine W.eq (g2 := F0 m 50 ls [.int (nI (cnt (yng kp Wn (rzA (swA (blw made (ded true kp Wn adr (LRR fl rfs root))) adr) tp2 (LYR kp Wn fl rfs root (swA (blw made (ded true kp Wn adr (LRR fl rfs root))) adr) (swO (blw made (ded true kp Wn adr (LRR fl rfs root))) own) (swR (blw made (ded true kp Wn adr (LRR fl rfs root))) rem)))) made))]) rfl ?_
        refine lv_istore_n (lv' := [(2, .int (nI (cnt (yng kp Wn (rzA (swA (blw made (ded true kp Wn adr (LRR fl rfs root))) adr) tp2 (LYR kp Wn fl rfs root (swA (blw made (ded true kp Wn adr (LRR fl rfs root))) adr) (swO (blw made (ded true kp Wn adr (LRR fl rfs root))) own) (swR (blw made (ded true kp Wn adr (LRR fl rfs root))) rem)))) made))), (1, .int (nI (cnt (ded true kp Wn adr (LRR fl rfs root)) made))), (0, .ref (q 0))]) S.1 S.2.1 dX10_collectNow_50 rfl hl (by decide) rfl (fun ls hl => ?_)
        refine lv_iload_n S.1 S.2.1 dX10_collectNow_51 rfl (lv_at hl 0 rfl) ?_
        refine lv_iconst (v := -1) S.1 S.2.1 dX10_collectNow_52 (by decide) ?_
        refine lv_icmp_ne (tgt := 60) S.1 S.2.1 dX10_collectNow_53 (by decide) (fun c3 => ?_) (fun c3 => ?_)
        · refine lv_iload_n S.1 S.2.1 dX10_collectNow_60 rfl (lv_at hl 1 rfl) ?_
          refine lv_iload_n S.1 S.2.1 dX10_collectNow_61 rfl (lv_at hl 0 rfl) ?_
          refine lv_iadd S.1 S.2.1 dX10_collectNow_62 ?_
          refine lv_eqi (nI_add _ _) ?_
          exact mw_iret S hr hlk hK hG dX10_collectNow_63 ⟨sz2, rw2, pl2, ol2, Or.inr ⟨ow2, tp2, rfl, hRz, hnd, hR⟩⟩
        · exact absurd c3 (nI_m1 (by omega))
    · have c2 : kp = 0 := (nI_eq (a := kp) (b := 0) (by omega) (by omega)).mp c2
      exact absurd c2 (by omega)
  · have c1 : kp = 1 := (nI_eq (a := kp) (b := 1) (by omega) (by omega)).mp c1
    exact absurd c1 (by omega)
