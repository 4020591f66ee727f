theorem Lst_b {made size k : Nat} {row : Nat → Nat} {plc : Nat → Option Nat} {L : List Nat} (h : Lst made size row plc L) (hk : k < made) (hl : L.length ≤ 400) : ∀ x, plc k = some x → x < 2147483648 := by
  intro x hx
  by_cases hin : k ∈ L
  · obtain ⟨i, hi⟩ := List.getElem?_of_mem hin
    have h2 := h.2.2.2.2.1 i k hi
    rw [hx] at h2
    cases h2
    have h3 := (List.getElem?_eq_some_iff.mp hi).1
    omega
  · have h2 := (h.2.2.2.1 k hk).mpr hin
    rw [hx] at h2
    cases h2
theorem nI_m1 {k : Nat} (h : k < 2147483648) : ¬ nI k = -1 := fun z => by
  have h2 := nI_toInt h
  rw [z] at h2
  have h3 : ((-1 : Int32)).toInt = -1 := by decide
  rw [h3] at h2
  omega
theorem mtL_in {L : List Nat} {k : Nat} (h : k ∈ L) : mtL allOk L (some k) = L := by
  unfold mtL
  simp only [if_neg (fun z : allOk k = true ∧ k ∉ L => z.2 h)]
theorem mtL_out {L : List Nat} {k : Nat} (h : k ∉ L) : mtL allOk L (some k) = L ++ [k] := by
  unfold mtL
  simp only [if_pos (show allOk k = true ∧ k ∉ L from ⟨rfl, h⟩)]
theorem flw_end {ok : Nat → Bool} {fl : Nat → Nat} {rfs : Nat → Nat → Option Nat} {n i : Nat} {L : List Nat} (h : L.length ≤ i) : flw ok fl rfs n i L = L := by
  cases n with
  | zero => rfl
  | succ n => unfold flw; rw [if_neg (by omega)]
theorem flw_step {ok : Nat → Bool} {fl : Nat → Nat} {rfs : Nat → Nat → Option Nat} {n i : Nat} {L : List Nat} (h : i < L.length) : flw ok fl rfs (n + 1) i L = flw ok fl rfs n (i + 1) (mtN ok (rfs (L.getD i 0)) (fl (L.getD i 0)) L) := by
  rw [flw.eq_2, if_pos h]
theorem cal_X10_meet : mCal yX10_meet cX10_meet 2 1 none := ⟨in_419, by decide +kernel⟩
set_option maxHeartbeats 4000000 in
set_option maxRecDepth 100000 in
theorem r_meet {l : Launch} {dC : Nat → ClassId} {dI : Nat → Nat → Nat} {cI cZ cT : ClassId} {q : Nat → Nat} {thr : Int32} {kp : Nat} {Wn : Nat} {made : Nat} {adr : (Nat → Option Nat)} {fl : (Nat → Nat)} {rem : (Nat → Bool)} {num : (Nat → Nat → Int32)} {rfs : (Nat → Nat → Option Nat)} {root : (Nat → Option Nat)} {own : (Nat → Option Nat)} {half : Nat} {top : Nat} {coll : Nat} {mins : Nat} {movd : Nat} {old : (Nat → Option Nat)} {sz : Nat} {rw : Nat → Nat} {pl : Nat → Option Nat} {w : mM} (hR : RW cI cZ q thr kp Wn made adr fl rem num rfs root own half top coll mins movd sz rw pl old w) {L : List Nat} (hL : Lst made sz rw pl L) (o : Option Nat) (ho : ∀ k, o = some k → k < made) (hm : made ≤ 2000) (hB : (mtL allOk L o).length ≤ 400) : mC l yX10_meet (wsY yX10_meet cX10_meet 2 none) { frames := 0, cells := 0, slots := 0, locals := 0 } (dC, dI) vwCl (tyL cI cZ cT) 0 0 w [.ref (q 0), .int (oI (o))] (fun v w2 => v = none ∧ ∃ (n2 : Nat) (r2 : Nat → Nat) (p2 : Nat → Option Nat), RW cI cZ q thr kp Wn made adr fl rem num rfs root own half top coll mins movd n2 r2 p2 old w2 ∧ Lst made n2 r2 p2 (mtL allOk L o)) := by
  refine mC.on (by decide) (Nat.le_of_ble_eq_true rfl) ?_
  intro p e s m args below meth c ls S hr hlk hnm hK hN hG hl
  have hl : lv_has ls 2 [(0, .ref (q 0)), (1, .int (oI (o)))] := hl
  generalize hAe : mA w s.heap.size = A at hG ⊢
  cases o with
  | none =>
    refine lv_iload_n S.1 S.2.1 dX10_meet_0 rfl (lv_at hl 1 rfl) ?_
    refine lv_iconst (v := -1) S.1 S.2.1 dX10_meet_1 (by decide) ?_
    refine lv_icmp_eq (tgt := 45) S.1 S.2.1 dX10_meet_2 (by decide) (fun c1 => ?_) (fun c1 => ?_)
    · exact mw_vret S hr hlk hK hG dX10_meet_45 ⟨rfl, sz, rw, pl, hR, hL⟩
    · exact absurd rfl c1
  | some k =>
    have hl : lv_has ls 2 [(0, .ref (q 0)), (1, .int (nI (k)))] := hl
    have hk := ho k rfl
    have hl0 : L.length ≤ 400 := by
      obtain ⟨M, hM⟩ := mtL_pre allOk L (some k)
      rw [hM, List.length_append] at hB
      omega
    refine lv_iload_n S.1 S.2.1 dX10_meet_0 rfl (lv_at hl 1 rfl) ?_
    refine lv_iconst (v := -1) S.1 S.2.1 dX10_meet_1 (by decide) ?_
    refine lv_icmp_eq (tgt := 45) S.1 S.2.1 dX10_meet_2 (by decide) (fun c1 => ?_) (fun c1 => ?_)
    · exact absurd c1 (nI_m1 (by omega))
    · refine lv_aload_n S.1 S.2.1 dX10_meet_5 rfl (lv_at hl 0 rfl) ?_
      refine rg_plc S hK hG hR dX10_meet_6 ?_
      refine lv_iload_n S.1 S.2.1 dX10_meet_9 rfl (lv_at hl 1 rfl) ?_
      refine rl_plc S hK hG hR (k) (by omega) dX10_meet_10 ?_
      refine lv_iconst (v := -1) S.1 S.2.1 dX10_meet_11 (by decide) ?_
      refine lv_icmp_ne (tgt := 45) S.1 S.2.1 dX10_meet_12 (by decide) (fun c2 => ?_) (fun c2 => ?_)
      · have hin : k ∈ L := Classical.not_not.mp (fun z => c2 ((oI_m1 (Lst_b hL hk hl0)).mpr ((hL.2.2.2.1 k hk).mpr z)))
        exact mw_vret S hr hlk hK hG dX10_meet_45 ⟨rfl, sz, rw, pl, hR, by rw [mtL_in hin]; exact hL⟩
      · have hin : k ∉ L := (hL.2.2.2.1 k hk).mp ((oI_m1 (Lst_b hL hk hl0)).mp c2)
        rw [mtL_out hin] at hB
        have hsz : sz = L.length := hL.2.1
        have hlen : (L ++ [k]).length = L.length + 1 := by rw [List.length_append]; rfl
        refine lv_aload_n S.1 S.2.1 dX10_meet_15 rfl (lv_at hl 0 rfl) ?_
        refine rg_plc S hK hG hR dX10_meet_16 ?_
        refine lv_iload_n S.1 S.2.1 dX10_meet_19 rfl (lv_at hl 1 rfl) ?_
        refine lv_aload_n S.1 S.2.1 dX10_meet_20 rfl (lv_at hl 0 rfl) ?_
        refine rg_size S hK hG hR dX10_meet_21 ?_
        refine rs_plc S hK hG hR (k) (some (sz)) (by omega) dX10_meet_24 (fun w H locs hR hG => ?_)
        refine lv_aload_n S.1 S.2.1 dX10_meet_25 rfl (lv_at hl 0 rfl) ?_
        refine rg_row S hK hG hR dX10_meet_26 ?_
        refine lv_aload_n S.1 S.2.1 dX10_meet_29 rfl (lv_at hl 0 rfl) ?_
        refine rg_size S hK hG hR dX10_meet_30 ?_
        refine lv_iload_n S.1 S.2.1 dX10_meet_33 rfl (lv_at hl 1 rfl) ?_
        refine rs_row S hK hG hR (sz) (k) (by omega) dX10_meet_34 (fun w H locs hR hG => ?_)
        refine lv_aload_n S.1 S.2.1 dX10_meet_35 rfl (lv_at hl 0 rfl) ?_
        refine lv_dup S.1 S.2.1 dX10_meet_36 rfl ?_
        refine rg_size S hK hG hR dX10_meet_37 ?_
        refine lv_iconst (v := nI (1)) S.1 S.2.1 dX10_meet_40 (by decide) ?_
        refine lv_iadd S.1 S.2.1 dX10_meet_41 ?_
        refine lv_eqi (nI_add _ _) ?_
        refine rp_size S hK hG hR (sz + 1) dX10_meet_42 (fun w H locs hR hG => ?_)
        exact mw_vret S hr hlk hK hG dX10_meet_45 ⟨rfl, _, _, _, hR, by rw [mtL_out hin]; exact Lst_push hL hk hin⟩
theorem cal_X10_follow : mCal yX10_follow cX10_follow 3 0 none := ⟨in_423, by decide +kernel⟩
set_option maxHeartbeats 4000000 in
set_option maxRecDepth 100000 in
theorem r_follow {l : Launch} {dC : Nat → ClassId} {dI : Nat → Nat → Nat} {cI cZ cT : ClassId} {q : Nat → Nat} {thr : Int32} {kp : Nat} {Wn : Nat} {made : Nat} {adr : (Nat → Option Nat)} {fl : (Nat → Nat)} {rem : (Nat → Bool)} {num : (Nat → Nat → Int32)} {rfs : (Nat → Nat → Option Nat)} {root : (Nat → Option Nat)} {own : (Nat → Option Nat)} {half : Nat} {top : Nat} {coll : Nat} {mins : Nat} {movd : Nat} {old : (Nat → Option Nat)} {sz : Nat} {rw : Nat → Nat} {pl : Nat → Option Nat} {Kp : Nat → Prop} (hB : ∀ M : List Nat, M.Nodup → (∀ x ∈ M, Kp x) → M.length ≤ 400) (hKm : ∀ x, Kp x → x < made) (hKf : ∀ x, Kp x → ∀ i, i < fl x → ∀ t, rfs x i = some t → Kp t) (hfl : ∀ x, x < made → fl x ≤ 6) (hm : made ≤ 2000) {w : mM} (hR : RW cI cZ q thr kp Wn made adr fl rem num rfs root own half top coll mins movd sz rw pl old w) {L : List Nat} (hL : Lst made sz rw pl L) (hKL : ∀ x ∈ L, Kp x) : mC l yX10_follow (wsY yX10_follow cX10_follow 3 none) { frames := 1, cells := 0, slots := 0, locals := 21 } (dC, dI) vwCl (tyL cI cZ cT) 0 0 w [.ref (q 0)] (fun v w2 => v = none ∧ ∃ (n2 : Nat) (r2 : Nat → Nat) (p2 : Nat → Option Nat), RW cI cZ q thr kp Wn made adr fl rem num rfs root own half top coll mins movd n2 r2 p2 old w2 ∧ Lst made n2 r2 p2 (flw allOk fl rfs 401 0 L)) := by
  refine mC.on (by decide) (Nat.le_of_ble_eq_true rfl) ?_
  intro p e s m args below meth c ls S hr hlk hnm hK hN hG hl
  have hl : lv_has ls 3 [(0, .ref (q 0))] := hl
  generalize hAe : mA w s.heap.size = A at hG ⊢
  refine lv_iconst (v := nI (0)) S.1 S.2.1 dX10_follow_0 (by decide) ?_
  refine lv_istore_n (lv' := [(1, .int (nI (0))), (0, .ref (q 0))]) S.1 S.2.1 dX10_follow_1 rfl hl (by decide) rfl (fun ls hl => ?_)
  have L1 : ∀ (fu : Nat) (i : Nat) (Lc : List Nat) (sz : Nat) (rw : Nat → Nat) (pl : Nat → Option Nat), 401 - i < fu → (i ≤ 400) → (flw allOk fl rfs (401 - i) i Lc = flw allOk fl rfs 401 0 L) → (Lst made sz rw pl Lc) → (∀ x ∈ Lc, Kp x) → ∀ (w : mM) (H : Heap) (locs : List Loc), RW cI cZ q thr kp Wn made adr fl rem num rfs root own half top coll mins movd sz rw pl old w → mG (dC, dI) vwCl A s.heap w H locs → ∀ ls : Array Slot, lv_has ls 3 [(1, .int (nI (i))), (0, .ref (q 0))] → W p l e { frames := 1, cells := 0, slots := 0, locals := 21 } s m args below meth c H locs 0 0 (MQ below (mQ (dC, dI) vwCl (tyL cI cZ cT) (fun v w2 => v = none ∧ ∃ (n2 : Nat) (r2 : Nat → Nat) (p2 : Nat → Option Nat), RW cI cZ q thr kp Wn made adr fl rem num rfs root own half top coll mins movd n2 r2 p2 old w2 ∧ Lst made n2 r2 p2 (flw allOk fl rfs 401 0 L)) A) args s 0 0 A) (F0 m 2 ls []) := by
    intro fu
    induction fu with
    | zero => intro i Lc sz rw pl h1; exact absurd h1 (Nat.not_lt_zero _)
    | succ fu ihL1 =>
      intro i Lc sz rw pl h1 h2 hT hLc hKc w H locs hR hG ls hl
      have hlen : Lc.length ≤ 400 := hB Lc hLc.1 hKc
      have hszc : sz = Lc.length := hLc.2.1
      refine lv_iload_n S.1 S.2.1 dX10_follow_2 rfl (lv_at hl 0 rfl) ?_
      refine lv_aload_n S.1 S.2.1 dX10_follow_3 rfl (lv_at hl 1 rfl) ?_
      refine rg_size S hK hG hR dX10_follow_4 ?_
      refine lv_icmp_ge (tgt := 59) S.1 S.2.1 dX10_follow_7 (by decide) (fun c1 => ?_) (fun c1 => ?_)
      · have c1 : sz ≤ i := (nI_leI (a := sz) (b := i) (by omega) (by omega)).mp c1
        rw [flw_end (by omega)] at hT
        exact mw_vret S hr hlk hK hG dX10_follow_59 ⟨rfl, sz, rw, pl, hR, by rw [← hT]; exact hLc⟩
      · have c1 : ¬ (sz ≤ i) := fun h9 => c1 ((nI_leI (a := sz) (b := i) (by omega) (by omega)).mpr h9)
        have hi2 : i < Lc.length := by omega
        have hrow := Lst_row hLc (show i < sz by omega)
        have hxm : Lc.getD i 0 < made := hrow.2.2
        have hxf := hfl _ hxm
        rw [show 401 - i = (401 - (i + 1)) + 1 by omega, flw_step hi2] at hT
        refine lv_iconst (v := nI (0)) S.1 S.2.1 dX10_follow_10 (by decide) ?_
        refine lv_istore_n (lv' := [(2, .int (nI (0))), (1, .int (nI (i))), (0, .ref (q 0))]) S.1 S.2.1 dX10_follow_11 rfl hl (by decide) rfl (fun ls hl => ?_)
        have L2 : ∀ (fu : Nat) (j : Nat) (sz : Nat) (rw : Nat → Nat) (pl : Nat → Option Nat), fl (Lc.getD i 0) - j < fu → (j ≤ fl (Lc.getD i 0)) → (Lst made sz rw pl (mtN allOk (rfs (Lc.getD i 0)) j Lc)) → ∀ (w : mM) (H : Heap) (locs : List Loc), RW cI cZ q thr kp Wn made adr fl rem num rfs root own half top coll mins movd sz rw pl old w → mG (dC, dI) vwCl A s.heap w H locs → ∀ ls : Array Slot, lv_has ls 3 [(2, .int (nI (j))), (1, .int (nI (i))), (0, .ref (q 0))] → W p l e { frames := 1, cells := 0, slots := 0, locals := 21 } s m args below meth c H locs 0 0 (MQ below (mQ (dC, dI) vwCl (tyL cI cZ cT) (fun v w2 => v = none ∧ ∃ (n2 : Nat) (r2 : Nat → Nat) (p2 : Nat → Option Nat), RW cI cZ q thr kp Wn made adr fl rem num rfs root own half top coll mins movd n2 r2 p2 old w2 ∧ Lst made n2 r2 p2 (flw allOk fl rfs 401 0 L)) A) args s 0 0 A) (F0 m 12 ls []) := by
          intro fu
          induction fu with
          | zero => intro j sz rw pl h1; exact absurd h1 (Nat.not_lt_zero _)
          | succ fu ihL2 =>
            intro j sz rw pl h1 h2 hLd w H locs hR hG ls hl
            obtain ⟨M2, hM2⟩ := mtN_pre allOk (rfs (Lc.getD i 0)) j Lc
            have hKd : ∀ x ∈ mtN allOk (rfs (Lc.getD i 0)) j Lc, Kp x := mtN_all hKc j (fun i2 hi3 t ht _ => hKf _ (hKc _ hrow.2.1) i2 (by omega) t ht)
            have hszd : sz = (mtN allOk (rfs (Lc.getD i 0)) j Lc).length := hLd.2.1
            have hld : (mtN allOk (rfs (Lc.getD i 0)) j Lc).length ≤ 400 := hB _ hLd.1 hKd
            have hid : i < sz := by rw [hszd, hM2, List.length_append]; omega
            have hr2 := (Lst_row hLd hid).1
            rw [hM2, getD_pre hi2] at hr2
            refine lv_iload_n S.1 S.2.1 dX10_follow_12 rfl (lv_at hl 0 rfl) ?_
            refine lv_aload_n S.1 S.2.1 dX10_follow_13 rfl (lv_at hl 2 rfl) ?_
            refine rg_fl S hK hG hR dX10_follow_14 ?_
            refine lv_aload_n S.1 S.2.1 dX10_follow_17 rfl (lv_at hl 2 rfl) ?_
            refine rg_row S hK hG hR dX10_follow_18 ?_
            refine lv_iload_n S.1 S.2.1 dX10_follow_21 rfl (lv_at hl 1 rfl) ?_
            refine rl_row S hK hG hR (i) (by omega) dX10_follow_22 ?_
            refine lv_eqi (y := nI (Lc.getD i 0)) (by rw [hr2]) ?_
            refine rl_fl S hK hG hR (Lc.getD i 0) (by omega) dX10_follow_23 ?_
            refine lv_icmp_ge (tgt := 53) S.1 S.2.1 dX10_follow_24 (by decide) (fun c2 => ?_) (fun c2 => ?_)
            · have c2 : (fl (Lc.getD i 0)) ≤ j := (nI_leI (a := fl (Lc.getD i 0)) (b := j) (by omega) (by omega)).mp c2
              have hj : j = fl (Lc.getD i 0) := by omega
              rw [hj] at hLd hKd
              refine lv_iinc (v := nI (i + 1)) (lv' := [(1, .int (nI (i + 1))), (2, .int (nI (j))), (0, .ref (q 0))]) S.1 S.2.1 dX10_follow_53 hl (k := 1) rfl (nI_1 _) (by decide) rfl (fun ls hl => ?_)
              refine lv_goto (tgt := 2) S.1 S.2.1 dX10_follow_56 (by decide) ?_
              exact ihL1 (i + 1) (mtN allOk (rfs (Lc.getD i 0)) (fl (Lc.getD i 0)) Lc) sz rw pl (by omega) (by omega) hT hLd hKd _ _ _ hR hG ls (lv_sub hl [0, 2] rfl)
            · have c2 : ¬ ((fl (Lc.getD i 0)) ≤ j) := fun h9 => c2 ((nI_leI (a := fl (Lc.getD i 0)) (b := j) (by omega) (by omega)).mpr h9)
              refine lv_aload_n S.1 S.2.1 dX10_follow_27 rfl (lv_at hl 2 rfl) ?_
              refine lv_aload_n S.1 S.2.1 dX10_follow_28 rfl (lv_at hl 2 rfl) ?_
              refine rg_rfs S hK hG hR dX10_follow_29 ?_
              refine lv_bipush (v := nI (6)) S.1 S.2.1 dX10_follow_32 (by decide) ?_
              refine lv_aload_n S.1 S.2.1 dX10_follow_34 rfl (lv_at hl 2 rfl) ?_
              refine rg_row S hK hG hR dX10_follow_35 ?_
              refine lv_iload_n S.1 S.2.1 dX10_follow_38 rfl (lv_at hl 1 rfl) ?_
              refine rl_row S hK hG hR (i) (by omega) dX10_follow_39 ?_
              refine lv_eqi (y := nI (Lc.getD i 0)) (by rw [hr2]) ?_
              refine lv_imul S.1 S.2.1 dX10_follow_40 ?_
              refine lv_eqi (pk_mul _ _) ?_
              refine lv_iload_n S.1 S.2.1 dX10_follow_41 rfl (lv_at hl 0 rfl) ?_
              refine lv_iadd S.1 S.2.1 dX10_follow_42 ?_
              refine lv_eqi (nI_add _ _) ?_
              refine rl_rfs S hK hG hR (Lc.getD i 0) (j) (by omega) (by omega) dX10_follow_43 ?_
              refine mCV (As := [.int (oI (rfs (Lc.getD i 0) j))]) (rest := []) S (r_meet hR hLd (rfs (Lc.getD i 0) j) (fun t ht => hKm _ (hKf _ (hKc _ hrow.2.1) j (by omega) t ht)) hm (hB _ (mtL_nd hLd.1) (mtL_all hKd (fun t ht _ => hKf _ (hKc _ hrow.2.1) j (by omega) t ht)))) cal_X10_meet in_416 in_417 in_418 in_5 hK hN hG hR.obj rfl rfl rfl hl.1 (Nat.le_of_ble_eq_true rfl) ⟨by decide, by decide⟩ ⟨rfl, rfl⟩ ⟨by decide, by decide⟩ dX10_follow_44 (fun v w H locs hp hG => ?_)
              obtain ⟨rfl, sz2, rw2, pl2, hR, hLe⟩ := hp
              refine W.eq (g2 := F0 m 47 ls []) rfl ?_
              refine lv_iinc (v := nI (j + 1)) (lv' := [(2, .int (nI (j + 1))), (1, .int (nI (i))), (0, .ref (q 0))]) S.1 S.2.1 dX10_follow_47 hl (k := 0) rfl (nI_1 _) (by decide) rfl (fun ls hl => ?_)
              refine lv_goto (tgt := 12) S.1 S.2.1 dX10_follow_50 (by decide) ?_
              exact ihL2 (j + 1) sz2 rw2 pl2 (by omega) (by omega) hLe _ _ _ hR hG ls (lv_sub hl [0, 1, 2] rfl)
        exact L2 (fl (Lc.getD i 0) + 1) 0 sz rw pl (by omega) (by omega) hLc _ _ _ (hR) hG ls (lv_sub hl [0, 1, 2] rfl)
  exact L1 (402) 0 L sz rw pl (by omega) (by omega) rfl hL hKL _ _ _ (hR) hG ls (lv_sub hl [0, 1] rfl)
theorem cal_X10_reach : mCal yX10_reach cX10_reach 2 0 none := ⟨in_411, by decide +kernel⟩
set_option maxHeartbeats 4000000 in
set_option maxRecDepth 100000 in
theorem r_reach {l : Launch} {dC : Nat → ClassId} {dI : Nat → Nat → Nat} {cI cZ cT : ClassId} {q : Nat → Nat} {thr : Int32} {kp : Nat} {Wn : Nat} {made : Nat} {adr : (Nat → Option Nat)} {fl : (Nat → Nat)} {rem : (Nat → Bool)} {num : (Nat → Nat → Int32)} {rfs : (Nat → Nat → Option Nat)} {root : (Nat → Option Nat)} {own : (Nat → Option Nat)} {half : Nat} {top : Nat} {coll : Nat} {mins : Nat} {movd : Nat} {size : Nat} {row : (Nat → Nat)} {plc : (Nat → Option Nat)} {old : (Nat → Option Nat)} {Kp : Nat → Prop} (hB : ∀ M : List Nat, M.Nodup → (∀ x ∈ M, Kp x) → M.length ≤ 400) (hKm : ∀ x, Kp x → x < made) (hKf : ∀ x, Kp x → ∀ i, i < fl x → ∀ t, rfs x i = some t → Kp t) (hfl : ∀ x, x < made → fl x ≤ 6) (hm : made ≤ 2000) {w : mM} (hR : RW cI cZ q thr kp Wn made adr fl rem num rfs root own half top coll mins movd size row plc old w) (hKr : ∀ i, i < 16 → ∀ t, root i = some t → Kp t) : mC l yX10_reach (wsY yX10_reach cX10_reach 2 none) { frames := 2, cells := 0, slots := 0, locals := 43 } (dC, dI) vwCl (tyL cI cZ cT) 0 0 w [.ref (q 0)] (fun v w2 => v = none ∧ ∃ (n2 : Nat) (r2 : Nat → Nat) (p2 : Nat → Option Nat), RW cI cZ q thr kp Wn made adr fl rem num rfs root own half top coll mins movd n2 r2 p2 old w2 ∧ Lst made n2 r2 p2 (flw allOk fl rfs 401 0 (mtN allOk root 16 []))) := by
  refine mC.on (by decide) (Nat.le_of_ble_eq_true rfl) ?_
  intro p e s m args below meth c ls S hr hlk hnm hK hN hG hl
  have hl : lv_has ls 2 [(0, .ref (q 0))] := hl
  generalize hAe : mA w s.heap.size = A at hG ⊢
  refine lv_aload_n S.1 S.2.1 dX10_reach_0 rfl (lv_at hl 0 rfl) ?_
  refine mCV (As := []) (rest := []) S (r_begin hR hm) cal_X10_begin in_412 in_413 in_414 in_5 hK hN hG hR.obj rfl rfl rfl hl.1 (Nat.le_of_ble_eq_true rfl) ⟨by decide, by decide⟩ ⟨rfl, rfl⟩ ⟨by decide, by decide⟩ dX10_reach_1 (fun v w H locs hp hG => ?_)
  obtain ⟨rfl, hR⟩ := hp
  refine W.eq (g2 := F0 m 4 ls []) rfl ?_
  refine lv_iconst (v := nI (0)) S.1 S.2.1 dX10_reach_4 (by decide) ?_
  refine lv_istore_n (lv' := [(1, .int (nI (0))), (0, .ref (q 0))]) S.1 S.2.1 dX10_reach_5 rfl hl (by decide) rfl (fun ls hl => ?_)
  have L1 : ∀ (fu : Nat) (i : Nat) (sz : Nat) (rw : Nat → Nat) (pl : Nat → Option Nat), 16 - i < fu → (i ≤ 16) → (Lst made sz rw pl (mtN allOk root i [])) → ∀ (w : mM) (H : Heap) (locs : List Loc), RW cI cZ q thr kp Wn made adr fl rem num rfs root own half top coll mins movd sz rw pl old w → mG (dC, dI) vwCl A s.heap w H locs → ∀ ls : Array Slot, lv_has ls 2 [(1, .int (nI (i))), (0, .ref (q 0))] → W p l e { frames := 2, cells := 0, slots := 0, locals := 43 } s m args below meth c H locs 0 0 (MQ below (mQ (dC, dI) vwCl (tyL cI cZ cT) (fun v w2 => v = none ∧ ∃ (n2 : Nat) (r2 : Nat → Nat) (p2 : Nat → Option Nat), RW cI cZ q thr kp Wn made adr fl rem num rfs root own half top coll mins movd n2 r2 p2 old w2 ∧ Lst made n2 r2 p2 (flw allOk fl rfs 401 0 (mtN allOk root 16 []))) A) args s 0 0 A) (F0 m 6 ls []) := by
    intro fu
    induction fu with
    | zero => intro i sz rw pl h1; exact absurd h1 (Nat.not_lt_zero _)
    | succ fu ihL1 =>
      intro i sz rw pl h1 h2 hLc w H locs hR hG ls hl
      have hKd : ∀ x ∈ mtN allOk root i [], Kp x := mtN_all (fun x hx => absurd hx List.not_mem_nil) i (fun i2 hi3 t ht _ => hKr i2 (by omega) t ht)
      refine lv_iload_n S.1 S.2.1 dX10_reach_6 rfl (lv_at hl 0 rfl) ?_
      refine lv_bipush (v := nI (16)) S.1 S.2.1 dX10_reach_7 (by decide) ?_
      refine lv_icmp_ge (tgt := 28) S.1 S.2.1 dX10_reach_9 (by decide) (fun c1 => ?_) (fun c1 => ?_)
      · have c1 : 16 ≤ i := (nI_leI (a := 16) (b := i) (by omega) (by omega)).mp c1
        have hi : i = 16 := by omega
        rw [hi] at hLc hKd
        refine lv_aload_n S.1 S.2.1 dX10_reach_28 rfl (lv_at hl 1 rfl) ?_
        refine mCV (As := []) (rest := []) S (r_follow (Kp := Kp) hB hKm hKf hfl hm hR hLc hKd) cal_X10_follow in_420 in_421 in_422 in_5 hK hN hG hR.obj rfl rfl rfl hl.1 (Nat.le_of_ble_eq_true rfl) ⟨by decide, by decide⟩ ⟨rfl, rfl⟩ ⟨by decide, by decide⟩ dX10_reach_29 (fun v w H locs hp hG => ?_)
        obtain ⟨rfl, sz2, rw2, pl2, hR, hLe⟩ := hp
        refine W.eq (g2 := F0 m 32 ls []) rfl ?_
        exact mw_vret S hr hlk hK hG dX10_reach_32 ⟨rfl, sz2, rw2, pl2, hR, hLe⟩
      · have c1 : ¬ (16 ≤ i) := fun h9 => c1 ((nI_leI (a := 16) (b := i) (by omega) (by omega)).mpr h9)
        refine lv_aload_n S.1 S.2.1 dX10_reach_12 rfl (lv_at hl 1 rfl) ?_
        refine lv_aload_n S.1 S.2.1 dX10_reach_13 rfl (lv_at hl 1 rfl) ?_
        refine rg_root S hK hG hR dX10_reach_14 ?_
        refine lv_iload_n S.1 S.2.1 dX10_reach_17 rfl (lv_at hl 0 rfl) ?_
        refine rl_root S hK hG hR (i) (by omega) dX10_reach_18 ?_
        refine mCV (As := [.int (oI (root i))]) (rest := []) S (r_meet hR hLc (root i) (fun t ht => hKm _ (hKr i (by omega) t ht)) hm (hB _ (mtL_nd hLc.1) (mtL_all hKd (fun t ht _ => hKr i (by omega) t ht)))) cal_X10_meet in_416 in_417 in_418 in_5 hK hN hG hR.obj rfl rfl rfl hl.1 (Nat.le_of_ble_eq_true rfl) ⟨by decide, by decide⟩ ⟨rfl, rfl⟩ ⟨by decide, by decide⟩ dX10_reach_19 (fun v w H locs hp hG => ?_)
        obtain ⟨rfl, sz2, rw2, pl2, hR, hLe⟩ := hp
        refine W.eq (g2 := F0 m 22 ls []) rfl ?_
        refine lv_iinc (v := nI (i + 1)) (lv' := [(1, .int (nI (i + 1))), (0, .ref (q 0))]) S.1 S.2.1 dX10_reach_22 hl (k := 0) rfl (nI_1 _) (by decide) rfl (fun ls hl => ?_)
        refine lv_goto (tgt := 6) S.1 S.2.1 dX10_reach_25 (by decide) ?_
        exact ihL1 (i + 1) sz2 rw2 pl2 (by omega) (by omega) hLe _ _ _ hR hG ls (lv_sub hl [0, 1] rfl)
  exact L1 (17) 0 0 row (clrO plc made) (by omega) (by omega) Lst_nil _ _ _ (hR) hG ls (lv_sub hl [0, 1] rfl)
