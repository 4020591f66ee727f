/-- the class's walk: its row, marks and orders hold the list -/
def LsC (made cur msz : Nat) (met : Nat → Option Nat) (wlk ord : Nat → Nat) (L : List Nat) : Prop :=
  L.Nodup ∧ msz = L.length ∧ (∀ i, i < L.length → met i = some (L.getD i 0)) ∧ (∀ o, o < made → (wlk o = cur ↔ o ∈ L)) ∧ (∀ i o, L[i]? = some o → ord o = i) ∧ (∀ o ∈ L, o < made) ∧ (∀ o, o < made → wlk o ≤ cur) ∧ ∀ k t, met k = some t → t < made
theorem LsC.hw {made cur msz : Nat} {met : Nat → Option Nat} {wlk ord : Nat → Nat} {L : List Nat} (h : LsC made cur msz met wlk ord L) : ∀ o, o < made → wlk o ≤ cur := h.2.2.2.2.2.2.1
theorem LsC.hm {made cur msz : Nat} {met : Nat → Option Nat} {wlk ord : Nat → Nat} {L : List Nat} (h : LsC made cur msz met wlk ord L) : ∀ k t, met k = some t → t < made := h.2.2.2.2.2.2.2
theorem LsC_nil {made cur : Nat} {met : Nat → Option Nat} {wlk ord : Nat → Nat} (h : ∀ o, o < made → wlk o ≤ cur) (hmt : ∀ k t, met k = some t → t < made) : LsC made (cur + 1) 0 met wlk ord [] := by
  refine ⟨List.nodup_nil, rfl, fun i h => absurd h (Nat.not_lt_zero _), fun o ho => ⟨fun z => ?_, fun z => absurd z List.not_mem_nil⟩, fun i o h => ?_, fun o h => absurd h List.not_mem_nil, fun o ho => ?_, hmt⟩
  · have := h o ho; omega
  · simp at h
  · have := h o ho; omega
theorem LsC_push {made cur msz k : Nat} {met : Nat → Option Nat} {wlk ord : Nat → Nat} {L : List Nat} (h : LsC made cur msz met wlk ord L) (hk : k < made) (hn : k ∉ L) : LsC made cur (msz + 1) (va_up met msz (some k)) (va_up wlk k cur) (va_up ord k msz) (L ++ [k]) := by
  obtain ⟨h1, h2, h3, h4, h5, h6, h7, h8⟩ := h
  subst h2
  refine ⟨List.nodup_append.mpr ⟨h1, List.nodup_cons.mpr ⟨List.not_mem_nil, List.nodup_nil⟩, ?_⟩, ?_, ?_, ?_, ?_, ?_, ?_, ?_⟩
  · intro x hx y hy
    rw [List.mem_singleton.mp hy]
    exact fun z => hn (z ▸ hx)
  · rw [List.length_append]; rfl
  · intro i hi
    rw [List.length_append] at hi
    unfold va_up
    by_cases hil : i = L.length
    · rw [if_pos hil, hil]
      simp [List.getD]
    · rw [if_neg hil]
      have : i < L.length := by have : [k].length = 1 := rfl; omega
      rw [getD_pre this]
      exact h3 i this
  · intro o ho
    unfold va_up
    by_cases hok : o = k
    · rw [if_pos hok]
      exact ⟨fun _ => hok ▸ List.mem_append_right L (List.mem_singleton.mpr rfl), fun _ => rfl⟩
    · rw [if_neg hok]
      refine (h4 o ho).trans ⟨fun z => List.mem_append_left _ z, fun z => ?_⟩
      rcases List.mem_append.mp z with z | z
      · exact z
      · exact absurd (List.mem_singleton.mp z) hok
  · intro i o hio
    unfold va_up
    by_cases hil : i < L.length
    · rw [List.getElem?_append_left hil] at hio
      have hne : o ≠ k := fun z => hn (z ▸ List.mem_of_getElem? hio)
      rw [if_neg hne]
      exact h5 i o hio
    · rw [List.getElem?_append_right (by omega)] at hio
      have hz : i - L.length < 1 := (List.getElem?_eq_some_iff.mp hio).1
      have hi : i = L.length := by omega
      subst hi
      rw [Nat.sub_self] at hio
      cases hio
      rw [if_pos rfl]
  · intro o ho
    rcases List.mem_append.mp ho with ho | ho
    · exact h6 o ho
    · rw [List.mem_singleton.mp ho]; exact hk
  · intro o ho
    unfold va_up
    by_cases hok : o = k
    · rw [if_pos hok]; exact Nat.le_refl _
    · rw [if_neg hok]; exact h7 o ho
  · intro j t ht
    unfold va_up at ht
    split at ht
    · cases ht; exact hk
    · exact h8 j t ht
theorem LsC_row {made cur msz i : Nat} {met : Nat → Option Nat} {wlk ord : Nat → Nat} {L : List Nat} (h : LsC made cur msz met wlk ord L) (hi : i < msz) : met i = some (L.getD i 0) ∧ L.getD i 0 ∈ L ∧ L.getD i 0 < made := by
  have hi2 : i < L.length := h.2.1 ▸ hi
  exact ⟨h.2.2.1 i hi2, getD_mem hi2, h.2.2.2.2.2.1 _ (getD_mem hi2)⟩
def okC (tad : Nat → Nat) (mend : Nat) : Nat → Bool := fun t => decide (tad t < mend)
theorem mtL_no {ok : Nat → Bool} {L : List Nat} {k : Nat} (h : ok k = false ∨ k ∈ L) : mtL ok L (some k) = L := by
  unfold mtL
  simp only []
  rw [if_neg (fun z => h.elim (fun h => by rw [h] at z; exact absurd z.1 (by decide)) (fun h => z.2 h))]
theorem mtL_yes {ok : Nat → Bool} {L : List Nat} {k : Nat} (h : ok k = true) (h2 : k ∉ L) : mtL ok L (some k) = L ++ [k] := by
  unfold mtL
  simp only []
  rw [if_pos ⟨h, h2⟩]
theorem cal_X7_begin : mCal yX7_begin cX7_begin 2 1 none := ⟨in_190, by decide +kernel⟩
set_option maxHeartbeats 4000000 in
set_option maxRecDepth 100000 in
theorem k_begin {l : Launch} {dC : Nat → ClassId} {dI : Nat → Nat → Nat} {cI cZ cT : ClassId} {q : Nat → Nat} {kp : Nat} {Wn : Nat} {made : Nat} {fl : (Nat → Nat)} {num : (Nat → Nat → Int32)} {rfs : (Nat → Nat → Option Nat)} {root : (Nat → Option Nat)} {own : (Nat → Option Nat)} {tad : (Nat → Nat)} {trm : (Nat → Bool)} {tpl : (Nat → Nat)} {wlk : (Nat → Nat)} {ord : (Nat → Nat)} {met : (Nat → Option Nat)} {msz : Nat} {cur : Nat} {mend : Nat} {pnx : Nat} {pen : Nat} {st : Nat} {coll : Nat} {mins : Nat} {movd : Nat} {w : mM} (hC : CW cI cT q kp Wn made fl num rfs root own tad trm tpl wlk ord met msz cur mend pnx pen st coll mins movd w) (e2 : Nat) : mC l yX7_begin (wsY yX7_begin cX7_begin 2 none) { frames := 0, cells := 0, slots := 0, locals := 0 } (dC, dI) vwCl (tyL cI cZ cT) 0 0 w [.ref (q 6), .int (nI (e2))] (fun v w2 => v = none ∧ CW cI cT q kp Wn made fl num rfs root own tad trm tpl wlk ord met 0 (cur + 1) e2 pnx pen st coll mins movd w2) := by
  refine mC.on (by decide) (Nat.le_of_ble_eq_true rfl) ?_
  intro p e s m args below meth c ls S hr hlk hnm hK hN hG hl
  have hl : lv_has ls 2 [(0, .ref (q 6)), (1, .int (nI (e2)))] := hl
  generalize hAe : mA w s.heap.size = A at hG ⊢
  refine lv_aload_n S.1 S.2.1 dX7_begin_0 rfl (lv_at hl 0 rfl) ?_
  refine lv_dup S.1 S.2.1 dX7_begin_1 rfl ?_
  refine cg_RX7_27 S hK hG hC dX7_begin_2 ?_
  refine lv_iconst (v := nI (1)) S.1 S.2.1 dX7_begin_5 (by decide) ?_
  refine lv_iadd S.1 S.2.1 dX7_begin_6 ?_
  refine lv_eqi (nI_add _ _) ?_
  refine cp_RX7_27 S hK hG hC (cur + 1) dX7_begin_7 (fun w H locs hC hG => ?_)
  refine lv_aload_n S.1 S.2.1 dX7_begin_10 rfl (lv_at hl 0 rfl) ?_
  refine lv_iconst (v := nI (0)) S.1 S.2.1 dX7_begin_11 (by decide) ?_
  refine cp_RX7_23 S hK hG hC (0) dX7_begin_12 (fun w H locs hC hG => ?_)
  refine lv_aload_n S.1 S.2.1 dX7_begin_15 rfl (lv_at hl 0 rfl) ?_
  refine lv_iload_n S.1 S.2.1 dX7_begin_16 rfl (lv_at hl 1 rfl) ?_
  refine cp_RX7_30 S hK hG hC (e2) dX7_begin_17 (fun w H locs hC hG => ?_)
  exact mw_vret S hr hlk hK hG dX7_begin_20 ⟨rfl, hC⟩
theorem cal_X7_meet : mCal yX7_meet cX7_meet 2 1 none := ⟨in_203, by decide +kernel⟩
set_option maxHeartbeats 4000000 in
set_option maxRecDepth 100000 in
theorem k_meet {l : Launch} {dC : Nat → ClassId} {dI : Nat → Nat → Nat} {cI cZ cT : ClassId} {q : Nat → Nat} {kp : Nat} {Wn : Nat} {made : Nat} {fl : (Nat → Nat)} {num : (Nat → Nat → Int32)} {rfs : (Nat → Nat → Option Nat)} {root : (Nat → Option Nat)} {own : (Nat → Option Nat)} {tad : (Nat → Nat)} {trm : (Nat → Bool)} {tpl : (Nat → Nat)} {cur : Nat} {mend : Nat} {pnx : Nat} {pen : Nat} {st : Nat} {coll : Nat} {mins : Nat} {movd : Nat} {mt : Nat → Option Nat} {ms2 : Nat} {wl od : Nat → Nat} {w : mM} (hC : CW cI cT q kp Wn made fl num rfs root own tad trm tpl wl od mt ms2 cur mend pnx pen st coll mins movd w) (hW4 : Wn ≤ 400) (hcb : cur < 2147483648) (hmb : mend ≤ 400) (htb : ∀ t, t < made → tad t < 2147483648) {L : List Nat} (hL : LsC made cur ms2 mt wl od L) (o : Option Nat) (ho : ∀ k, o = some k → k < made) (hB : (mtL (okC tad mend) L o).length ≤ Wn) : mC l yX7_meet (wsY yX7_meet cX7_meet 2 none) { frames := 0, cells := 0, slots := 0, locals := 0 } (dC, dI) vwCl (tyL cI cZ cT) 0 0 w [.ref (q 6), va_rf ((o).map (tq q))] (fun v w2 => v = none ∧ ∃ (mt3 : Nat → Option Nat) (ms3 : Nat) (wl3 od3 : Nat → Nat), CW cI cT q kp Wn made fl num rfs root own tad trm tpl wl3 od3 mt3 ms3 cur mend pnx pen st coll mins movd w2 ∧ LsC made cur ms3 mt3 wl3 od3 (mtL (okC tad mend) L o)) := by
  refine mC.on (by decide) (by cases o <;> exact Nat.le_of_ble_eq_true rfl) ?_
  intro p e s m args below meth c ls S hr hlk hnm hK hN hG hl
  have hl : lv_has ls 2 [(0, .ref (q 6)), (1, va_rf ((o).map (tq q)))] := (by cases o <;> exact hl)
  generalize hAe : mA w s.heap.size = A at hG ⊢
  refine lw_aload_n S.1 S.2.1 dX7_meet_0 rfl (lv_at hl 1 rfl) ?_
  refine lw_ifnull (x := o) (tgt := 26) S.1 S.2.1 dX7_meet_1 (by decide) (fun c0 => ?_) (fun k c0 => ?_)
  · exact mw_vret S hr hlk hK hG dX7_meet_26 ⟨rfl, mt, ms2, wl, od, hC, by rw [c0]; exact hL⟩
  · subst c0
    have hk := ho k rfl
    have hkt := htb k hk
    have hwc := hL.hw k hk
    have hl0 : L.length ≤ Wn := by
      obtain ⟨M, hM⟩ := mtL_pre (okC tad mend) L (some k)
      rw [hM, List.length_append] at hB
      omega
    have hms := hL.2.1
    have hl : lv_has ls 2 [(0, .ref (q 6)), (1, .ref (tq q k))] := hl
    refine lv_aload_n S.1 S.2.1 dX7_meet_4 rfl (lv_at hl 1 rfl) ?_
    refine cg_RX7_33 S hK hG hC (k) (by omega) dX7_meet_5 ?_
    refine lv_aload_n S.1 S.2.1 dX7_meet_8 rfl (lv_at hl 0 rfl) ?_
    refine cg_RX7_30 S hK hG hC dX7_meet_9 ?_
    refine lv_icmp_ge (tgt := 26) S.1 S.2.1 dX7_meet_12 (by decide) (fun c1 => ?_) (fun c1 => ?_)
    · have c1 : mend ≤ (tad k) := (nI_leI (a := mend) (b := tad k) (by omega) (by omega)).mp c1
      exact mw_vret S hr hlk hK hG dX7_meet_26 ⟨rfl, mt, ms2, wl, od, hC, by rw [mtL_no (Or.inl (decide_eq_false (by omega)))]; exact hL⟩
    · have c1 : ¬ (mend ≤ (tad k)) := fun h9 => c1 ((nI_leI (a := mend) (b := tad k) (by omega) (by omega)).mpr h9)
      refine lv_aload_n S.1 S.2.1 dX7_meet_15 rfl (lv_at hl 1 rfl) ?_
      refine cg_RX7_36 S hK hG hC (k) (by omega) dX7_meet_16 ?_
      refine lv_aload_n S.1 S.2.1 dX7_meet_19 rfl (lv_at hl 0 rfl) ?_
      refine cg_RX7_27 S hK hG hC dX7_meet_20 ?_
      refine lv_icmp_ne (tgt := 27) S.1 S.2.1 dX7_meet_23 (by decide) (fun c2 => ?_) (fun c2 => ?_)
      · have c2 : ¬ ((wl k) = cur) := fun h9 => c2 ((nI_eq (a := wl k) (b := cur) (by omega) (by omega)).mpr h9)
        have hin : k ∉ L := fun z => c2 ((hL.2.2.2.1 k hk).mpr z)
        have hok : okC tad mend k = true := decide_eq_true (by omega)
        rw [mtL_yes hok hin] at hB
        have hlen : (L ++ [k]).length = L.length + 1 := by rw [List.length_append]; rfl
        refine lv_aload_n S.1 S.2.1 dX7_meet_27 rfl (lv_at hl 0 rfl) ?_
        refine cg_RX7_23 S hK hG hC dX7_meet_28 ?_
        refine lv_if_lt (tgt := 82) S.1 S.2.1 dX7_meet_31 (by decide) (fun c3 => ?_) (fun c3 => ?_)
        · have c3 : ms2 < 0 := (nI_ltI (a := ms2) (b := 0) (by omega) (by omega)).mp c3
          omega
        · have c3 : ¬ (ms2 < 0) := fun h9 => c3 ((nI_ltI (a := ms2) (b := 0) (by omega) (by omega)).mpr h9)
          refine lv_aload_n S.1 S.2.1 dX7_meet_34 rfl (lv_at hl 0 rfl) ?_
          refine cg_RX7_23 S hK hG hC dX7_meet_35 ?_
          refine lv_aload_n S.1 S.2.1 dX7_meet_38 rfl (lv_at hl 0 rfl) ?_
          refine cg_RX7_17 S hK hG hC dX7_meet_39 ?_
          refine cn_met S hK hG hC dX7_meet_42 ?_
          refine lv_icmp_ge (tgt := 82) S.1 S.2.1 dX7_meet_43 (by decide) (fun c4 => ?_) (fun c4 => ?_)
          · have c4 : Wn ≤ ms2 := (nI_leI (a := Wn) (b := ms2) (by omega) (by omega)).mp c4
            omega
          · have c4 : ¬ (Wn ≤ ms2) := fun h9 => c4 ((nI_leI (a := Wn) (b := ms2) (by omega) (by omega)).mpr h9)
            refine lv_aload_n S.1 S.2.1 dX7_meet_46 rfl (lv_at hl 1 rfl) ?_
            refine lv_aload_n S.1 S.2.1 dX7_meet_47 rfl (lv_at hl 0 rfl) ?_
            refine cg_RX7_27 S hK hG hC dX7_meet_48 ?_
            refine cp_RX7_36 S hK hG hC (k) (by omega) (cur) dX7_meet_51 (fun w H locs hC hG => ?_)
            refine lv_aload_n S.1 S.2.1 dX7_meet_54 rfl (lv_at hl 1 rfl) ?_
            refine lv_aload_n S.1 S.2.1 dX7_meet_55 rfl (lv_at hl 0 rfl) ?_
            refine cg_RX7_23 S hK hG hC dX7_meet_56 ?_
            refine cp_RX7_39 S hK hG hC (k) (by omega) (ms2) dX7_meet_59 (fun w H locs hC hG => ?_)
            refine lv_aload_n S.1 S.2.1 dX7_meet_62 rfl (lv_at hl 0 rfl) ?_
            refine cg_RX7_17 S hK hG hC dX7_meet_63 ?_
            refine lv_aload_n S.1 S.2.1 dX7_meet_66 rfl (lv_at hl 0 rfl) ?_
            refine cg_RX7_23 S hK hG hC dX7_meet_67 ?_
            refine lv_aload_n S.1 S.2.1 dX7_meet_70 rfl (lv_at hl 1 rfl) ?_
            refine cs_met S hK hG hC (ms2) (some (k)) (by omega) (fun t9 h9 => by cases h9; omega) (by omega) dX7_meet_71 (fun w H locs hC hG => ?_)
            refine lv_aload_n S.1 S.2.1 dX7_meet_72 rfl (lv_at hl 0 rfl) ?_
            refine lv_dup S.1 S.2.1 dX7_meet_73 rfl ?_
            refine cg_RX7_23 S hK hG hC dX7_meet_74 ?_
            refine lv_iconst (v := nI (1)) S.1 S.2.1 dX7_meet_77 (by decide) ?_
            refine lv_iadd S.1 S.2.1 dX7_meet_78 ?_
            refine lv_eqi (nI_add _ _) ?_
            refine cp_RX7_23 S hK hG hC (ms2 + 1) dX7_meet_79 (fun w H locs hC hG => ?_)
            exact mw_vret S hr hlk hK hG dX7_meet_82 ⟨rfl, _, _, _, _, hC, by rw [mtL_yes hok hin]; exact LsC_push hL hk hin⟩
      · have c2 : (wl k) = cur := (nI_eq (a := wl k) (b := cur) (by omega) (by omega)).mp c2
        exact mw_vret S hr hlk hK hG dX7_meet_26 ⟨rfl, mt, ms2, wl, od, hC, by rw [mtL_no (Or.inr ((hL.2.2.2.1 k hk).mp c2))]; exact hL⟩
theorem cal_X7_hasMet : mCal yX7_hasMet cX7_hasMet 2 1 (some .boolean) := ⟨in_310, by decide +kernel⟩
set_option maxHeartbeats 4000000 in
set_option maxRecDepth 100000 in
theorem k_hasMet {l : Launch} {dC : Nat → ClassId} {dI : Nat → Nat → Nat} {cI cZ cT : ClassId} {q : Nat → Nat} {kp : Nat} {Wn : Nat} {made : Nat} {fl : (Nat → Nat)} {num : (Nat → Nat → Int32)} {rfs : (Nat → Nat → Option Nat)} {root : (Nat → Option Nat)} {own : (Nat → Option Nat)} {tad : (Nat → Nat)} {trm : (Nat → Bool)} {tpl : (Nat → Nat)} {wlk : (Nat → Nat)} {ord : (Nat → Nat)} {met : (Nat → Option Nat)} {msz : Nat} {cur : Nat} {mend : Nat} {pnx : Nat} {pen : Nat} {st : Nat} {coll : Nat} {mins : Nat} {movd : Nat} {w : mM} (hC : CW cI cT q kp Wn made fl num rfs root own tad trm tpl wlk ord met msz cur mend pnx pen st coll mins movd w) (hcb : cur < 2147483648) (hwb : ∀ t, t < made → wlk t ≤ cur) (k : Nat) (hk : k < made) : mC l yX7_hasMet (wsY yX7_hasMet cX7_hasMet 2 (some .boolean)) { frames := 0, cells := 0, slots := 0, locals := 0 } (dC, dI) vwCl (tyL cI cZ cT) 0 0 w [.ref (q 6), .ref (tq q k)] (fun v w2 => v = some (.int (bI (decide (wlk k = cur)))) ∧ w2 = w) := by
  refine mC.on (by decide) (Nat.le_of_ble_eq_true rfl) ?_
  intro p e s m args below meth c ls S hr hlk hnm hK hN hG hl
  have hl : lv_has ls 2 [(0, .ref (q 6)), (1, .ref (tq q k))] := hl
  generalize hAe : mA w s.heap.size = A at hG ⊢
  have hwk := hwb k hk
  refine lv_aload_n S.1 S.2.1 dX7_hasMet_0 rfl (lv_at hl 1 rfl) ?_
  refine cg_RX7_36 S hK hG hC (k) (by omega) dX7_hasMet_1 ?_
  refine lv_aload_n S.1 S.2.1 dX7_hasMet_4 rfl (lv_at hl 0 rfl) ?_
  refine cg_RX7_27 S hK hG hC dX7_hasMet_5 ?_
  refine lv_icmp_ne (tgt := 15) S.1 S.2.1 dX7_hasMet_8 (by decide) (fun c1 => ?_) (fun c1 => ?_)
  · have c1 : ¬ ((wlk k) = cur) := fun h9 => c1 ((nI_eq (a := wlk k) (b := cur) (by omega) (by omega)).mpr h9)
    refine lv_iconst (v := nI (0)) S.1 S.2.1 dX7_hasMet_15 (by decide) ?_
    exact mw_zret S hr (by decide) hlk hK hG dX7_hasMet_16 ⟨by rw [decide_eq_false c1]; rfl, rfl⟩
  · have c1 : (wlk k) = cur := (nI_eq (a := wlk k) (b := cur) (by omega) (by omega)).mp c1
    refine lv_iconst (v := nI (1)) S.1 S.2.1 dX7_hasMet_11 (by decide) ?_
    refine lv_goto (tgt := 16) S.1 S.2.1 dX7_hasMet_12 (by decide) ?_
    exact mw_zret S hr (by decide) hlk hK hG dX7_hasMet_16 ⟨by rw [decide_eq_true c1]; rfl, rfl⟩
theorem cal_X7_size : mCal yX7_size cX7_size 1 0 (some .int) := ⟨in_248, by decide +kernel⟩
set_option maxHeartbeats 4000000 in
set_option maxRecDepth 100000 in
theorem k_size {l : Launch} {dC : Nat → ClassId} {dI : Nat → Nat → Nat} {cI cZ cT : ClassId} {q : Nat → Nat} {kp : Nat} {Wn : Nat} {made : Nat} {fl : (Nat → Nat)} {num : (Nat → Nat → Int32)} {rfs : (Nat → Nat → Option Nat)} {root : (Nat → Option Nat)} {own : (Nat → Option Nat)} {tad : (Nat → Nat)} {trm : (Nat → Bool)} {tpl : (Nat → Nat)} {wlk : (Nat → Nat)} {ord : (Nat → Nat)} {met : (Nat → Option Nat)} {msz : Nat} {cur : Nat} {mend : Nat} {pnx : Nat} {pen : Nat} {st : Nat} {coll : Nat} {mins : Nat} {movd : Nat} {w : mM} (hC : CW cI cT q kp Wn made fl num rfs root own tad trm tpl wlk ord met msz cur mend pnx pen st coll mins movd w)  : mC l yX7_size (wsY yX7_size cX7_size 1 (some .int)) { frames := 0, cells := 0, slots := 0, locals := 0 } (dC, dI) vwCl (tyL cI cZ cT) 0 0 w [.ref (q 6)] (fun v w2 => v = some (.int (nI msz)) ∧ w2 = w) := by
  refine mC.on (by decide) (Nat.le_of_ble_eq_true rfl) ?_
  intro p e s m args below meth c ls S hr hlk hnm hK hN hG hl
  have hl : lv_has ls 1 [(0, .ref (q 6))] := hl
  generalize hAe : mA w s.heap.size = A at hG ⊢
  refine lv_aload_n S.1 S.2.1 dX7_size_0 rfl (lv_at hl 0 rfl) ?_
  refine cg_RX7_23 S hK hG hC dX7_size_1 ?_
  exact mw_iret S hr hlk hK hG dX7_size_4 ⟨rfl, rfl⟩
theorem cal_X7_thingOf : mCal yX7_thingOf cX7_thingOf 2 1 (some (.object "KeptHeap$Thing")) := ⟨in_252, by decide +kernel⟩
set_option maxHeartbeats 4000000 in
set_option maxRecDepth 100000 in
theorem k_thingOf {l : Launch} {dC : Nat → ClassId} {dI : Nat → Nat → Nat} {cI cZ cT : ClassId} {q : Nat → Nat} {kp : Nat} {Wn : Nat} {made : Nat} {fl : (Nat → Nat)} {num : (Nat → Nat → Int32)} {rfs : (Nat → Nat → Option Nat)} {root : (Nat → Option Nat)} {own : (Nat → Option Nat)} {tad : (Nat → Nat)} {trm : (Nat → Bool)} {tpl : (Nat → Nat)} {wlk : (Nat → Nat)} {ord : (Nat → Nat)} {met : (Nat → Option Nat)} {msz : Nat} {cur : Nat} {mend : Nat} {pnx : Nat} {pen : Nat} {st : Nat} {coll : Nat} {mins : Nat} {movd : Nat} {w : mM} (hC : CW cI cT q kp Wn made fl num rfs root own tad trm tpl wlk ord met msz cur mend pnx pen st coll mins movd w) (hW : Wn < 1000) (i : Nat) (hi : i < msz) (hm : msz ≤ Wn) : mC l yX7_thingOf (wsY yX7_thingOf cX7_thingOf 2 (some (.object "KeptHeap$Thing"))) { frames := 0, cells := 0, slots := 0, locals := 0 } (dC, dI) vwCl (tyL cI cZ cT) 0 0 w [.ref (q 6), .int (nI (i))] (fun v w2 => v = some (va_rf ((met i).map (tq q))) ∧ w2 = w) := by
  refine mC.on (by decide) (Nat.le_of_ble_eq_true rfl) ?_
  intro p e s m args below meth c ls S hr hlk hnm hK hN hG hl
  have hl : lv_has ls 2 [(0, .ref (q 6)), (1, .int (nI (i)))] := hl
  generalize hAe : mA w s.heap.size = A at hG ⊢
  refine lv_iload_n S.1 S.2.1 dX7_thingOf_0 rfl (lv_at hl 1 rfl) ?_
  refine lv_if_lt (tgt := 30) S.1 S.2.1 dX7_thingOf_1 (by decide) (fun c1 => ?_) (fun c1 => ?_)
  · have c1 : i < 0 := (nI_ltI (a := i) (b := 0) (by omega) (by omega)).mp c1
    omega
  · have c1 : ¬ (i < 0) := fun h9 => c1 ((nI_ltI (a := i) (b := 0) (by omega) (by omega)).mpr h9)
    refine lv_iload_n S.1 S.2.1 dX7_thingOf_4 rfl (lv_at hl 1 rfl) ?_
    refine lv_aload_n S.1 S.2.1 dX7_thingOf_5 rfl (lv_at hl 0 rfl) ?_
    refine cg_RX7_23 S hK hG hC dX7_thingOf_6 ?_
    refine lv_icmp_ge (tgt := 30) S.1 S.2.1 dX7_thingOf_9 (by decide) (fun c2 => ?_) (fun c2 => ?_)
    · have c2 : msz ≤ i := (nI_leI (a := msz) (b := i) (by omega) (by omega)).mp c2
      omega
    · have c2 : ¬ (msz ≤ i) := fun h9 => c2 ((nI_leI (a := msz) (b := i) (by omega) (by omega)).mpr h9)
      refine lv_iload_n S.1 S.2.1 dX7_thingOf_12 rfl (lv_at hl 1 rfl) ?_
      refine lv_aload_n S.1 S.2.1 dX7_thingOf_13 rfl (lv_at hl 0 rfl) ?_
      refine cg_RX7_17 S hK hG hC dX7_thingOf_14 ?_
      refine cn_met S hK hG hC dX7_thingOf_17 ?_
      refine lv_icmp_ge (tgt := 30) S.1 S.2.1 dX7_thingOf_18 (by decide) (fun c3 => ?_) (fun c3 => ?_)
      · have c3 : Wn ≤ i := (nI_leI (a := Wn) (b := i) (by omega) (by omega)).mp c3
        omega
      · have c3 : ¬ (Wn ≤ i) := fun h9 => c3 ((nI_leI (a := Wn) (b := i) (by omega) (by omega)).mpr h9)
        refine lv_aload_n S.1 S.2.1 dX7_thingOf_21 rfl (lv_at hl 0 rfl) ?_
        refine cg_RX7_17 S hK hG hC dX7_thingOf_22 ?_
        refine lv_iload_n S.1 S.2.1 dX7_thingOf_25 rfl (lv_at hl 1 rfl) ?_
        refine cl_met S hK hG hC (i) (by omega) (by omega) dX7_thingOf_26 ?_
        refine lv_goto (tgt := 31) S.1 S.2.1 dX7_thingOf_27 (by decide) ?_
        exact mw_aret (r := (met i).map (tq q)) S hr hlk hK hG dX7_thingOf_31 ⟨rfl, rfl⟩
theorem cal_X7_meetTargetsOf : mCal yX7_meetTargetsOf cX7_meetTargetsOf 3 1 none := ⟨in_224, by decide +kernel⟩
set_option maxHeartbeats 4000000 in
set_option maxRecDepth 100000 in
theorem k_meetTargetsOf {l : Launch} {dC : Nat → ClassId} {dI : Nat → Nat → Nat} {cI cZ cT : ClassId} {q : Nat → Nat} {kp : Nat} {Wn : Nat} {made : Nat} {fl : (Nat → Nat)} {num : (Nat → Nat → Int32)} {rfs : (Nat → Nat → Option Nat)} {root : (Nat → Option Nat)} {own : (Nat → Option Nat)} {tad : (Nat → Nat)} {trm : (Nat → Bool)} {tpl : (Nat → Nat)} {cur : Nat} {mend : Nat} {pnx : Nat} {pen : Nat} {st : Nat} {coll : Nat} {mins : Nat} {movd : Nat} {mt : Nat → Option Nat} {ms2 : Nat} {wl od : Nat → Nat} {Kp : Nat → Prop} (hB : ∀ M : List Nat, M.Nodup → (∀ x ∈ M, Kp x) → M.length ≤ Wn) (hKm : ∀ x, Kp x → x < made) (hKf : ∀ x, Kp x → ∀ i, i < fl x → ∀ t, rfs x i = some t → Kp t) (hfl : ∀ x, x < made → fl x ≤ 6) {w : mM} (hC : CW cI cT q kp Wn made fl num rfs root own tad trm tpl wl od mt ms2 cur mend pnx pen st coll mins movd w) (hW4 : Wn ≤ 400) (hcb : cur < 2147483648) (hmb : mend ≤ 400) (htb : ∀ t, t < made → tad t < 2147483648) {L : List Nat} (hL : LsC made cur ms2 mt wl od L) (hKL : ∀ x ∈ L, Kp x) (k : Nat) (hk : Kp k) : mC l yX7_meetTargetsOf (wsY yX7_meetTargetsOf cX7_meetTargetsOf 3 none) { frames := 1, cells := 0, slots := 0, locals := 21 } (dC, dI) vwCl (tyL cI cZ cT) 0 0 w [.ref (q 6), .ref (tq q k)] (fun v w2 => v = none ∧ ∃ (mt3 : Nat → Option Nat) (ms3 : Nat) (wl3 od3 : Nat → Nat), CW cI cT q kp Wn made fl num rfs root own tad trm tpl wl3 od3 mt3 ms3 cur mend pnx pen st coll mins movd w2 ∧ LsC made cur ms3 mt3 wl3 od3 (mtN (okC tad mend) (rfs k) (fl k) L)) := by
  refine mC.on (by decide) (Nat.le_of_ble_eq_true rfl) ?_
  intro p e s m args below meth c ls S hr hlk hnm hK hN hG hl
  have hl : lv_has ls 3 [(0, .ref (q 6)), (1, .ref (tq q k))] := hl
  generalize hAe : mA w s.heap.size = A at hG ⊢
  have hkm := hKm k hk
  have hkf := hfl k hkm
  refine lv_aload_n S.1 S.2.1 dX7_meetTargetsOf_0 rfl (lv_at hl 1 rfl) ?_
  refine lv_ifnonnull (tgt := 5) S.1 S.2.1 dX7_meetTargetsOf_1 (by decide) ?_
  refine lv_iconst (v := nI (0)) S.1 S.2.1 dX7_meetTargetsOf_5 (by decide) ?_
  refine lv_istore_n (lv' := [(2, .int (nI (0))), (0, .ref (q 6)), (1, .ref (tq q k))]) S.1 S.2.1 dX7_meetTargetsOf_6 rfl hl (by decide) rfl (fun ls hl => ?_)
  have L : ∀ (fu : Nat) (j : Nat) (mt : Nat → Option Nat) (ms2 : Nat) (wl : Nat → Nat) (od : Nat → Nat), fl k - j < fu → (j ≤ fl k) → (LsC made cur ms2 mt wl od (mtN (okC tad mend) (rfs k) j L)) → ∀ (w : mM) (H : Heap) (locs : List Loc), CW cI cT q kp Wn made fl num rfs root own tad trm tpl wl od mt ms2 cur mend pnx pen st coll mins movd w → mG (dC, dI) vwCl A s.heap w H locs → ∀ ls : Array Slot, lv_has ls 3 [(2, .int (nI (j))), (0, .ref (q 6)), (1, .ref (tq q k))] → W p l e { frames := 1, cells := 0, slots := 0, locals := 21 } s m args below meth c H locs 0 0 (MQ below (mQ (dC, dI) vwCl (tyL cI cZ cT) (fun v w2 => v = none ∧ ∃ (mt3 : Nat → Option Nat) (ms3 : Nat) (wl3 od3 : Nat → Nat), CW cI cT q kp Wn made fl num rfs root own tad trm tpl wl3 od3 mt3 ms3 cur mend pnx pen st coll mins movd w2 ∧ LsC made cur ms3 mt3 wl3 od3 (mtN (okC tad mend) (rfs k) (fl k) L)) A) args s 0 0 A) (F0 m 7 ls []) := by
    intro fu
    induction fu with
    | zero => intro j mt ms2 wl od h1; exact absurd h1 (Nat.not_lt_zero _)
    | succ fu ihL =>
      intro j mt ms2 wl od h1 h2 hLd w H locs hC hG ls hl
      have hKd : ∀ x ∈ mtN (okC tad mend) (rfs k) j L, Kp x := mtN_all hKL j (fun i2 hi3 t ht _ => hKf k hk i2 (by omega) t ht)
      refine lv_iload_n S.1 S.2.1 dX7_meetTargetsOf_7 rfl (lv_at hl 0 rfl) ?_
      refine lv_aload_n S.1 S.2.1 dX7_meetTargetsOf_8 rfl (lv_at hl 2 rfl) ?_
      refine mCV (As := []) (rest := [.int (nI (j))]) S (t_fields hC k hkm) cal_X6_fields in_225 in_226 in_227 in_142 hK hN hG (hC.th hkm) rfl rfl rfl hl.1 (Nat.le_of_ble_eq_true rfl) ⟨by decide, by decide⟩ ⟨rfl, rfl⟩ ⟨by decide, by decide⟩ dX7_meetTargetsOf_9 (fun v w H locs hp hG => ?_)
      obtain ⟨rfl, hw9⟩ := hp
      have hw9 := hw9.symm
      subst hw9
      refine W.eq (g2 := F0 m 12 ls [.int (nI (fl k)), .int (nI (j))]) rfl ?_
      refine lv_icmp_ge (tgt := 30) S.1 S.2.1 dX7_meetTargetsOf_12 (by decide) (fun c1 => ?_) (fun c1 => ?_)
      · have c1 : (fl k) ≤ j := (nI_leI (a := fl k) (b := j) (by omega) (by omega)).mp c1
        have hj : j = fl k := by omega
        rw [hj] at hLd
        exact mw_vret S hr hlk hK hG dX7_meetTargetsOf_30 ⟨rfl, mt, ms2, wl, od, hC, hLd⟩
      · have c1 : ¬ ((fl k) ≤ j) := fun h9 => c1 ((nI_leI (a := fl k) (b := j) (by omega) (by omega)).mpr h9)
        refine lv_aload_n S.1 S.2.1 dX7_meetTargetsOf_15 rfl (lv_at hl 1 rfl) ?_
        refine lv_aload_n S.1 S.2.1 dX7_meetTargetsOf_16 rfl (lv_at hl 2 rfl) ?_
        refine lv_iload_n S.1 S.2.1 dX7_meetTargetsOf_17 rfl (lv_at hl 0 rfl) ?_
        refine mCV (As := [.int (nI (j))]) (rest := [.ref (q 6)]) S (t_targetOf hC k hkm hkf (nI j)) cal_X6_targetOf in_230 in_231 in_232 in_142 hK hN hG (hC.th hkm) rfl rfl rfl hl.1 (Nat.le_of_ble_eq_true rfl) ⟨by decide, by decide⟩ ⟨rfl, rfl⟩ ⟨by decide, by decide⟩ dX7_meetTargetsOf_18 (fun v w H locs hp hG => ?_)
        obtain ⟨rfl, hw9⟩ := hp
        have hw9 := hw9.symm
        subst hw9
        rw [if_pos (inR_nI (show j < fl k by omega) (by omega)), nI_clamp (by omega)]
        refine W.eq (g2 := F0 m 21 ls [va_rf ((rfs k j).map (tq q)), .ref (q 6)]) rfl ?_
        refine mCV (As := [va_rf ((rfs k j).map (tq q))]) (rest := []) S (k_meet hC hW4 hcb hmb htb hLd (rfs k j) (fun t ht => hKm _ (hKf k hk j (by omega) t ht)) (hB _ (mtL_nd hLd.1) (mtL_all hKd (fun t ht _ => hKf k hk j (by omega) t ht)))) cal_X7_meet in_200 in_201 in_202 in_79 hK hN hG hC.obj7 rfl rfl rfl hl.1 (Nat.le_of_ble_eq_true rfl) ⟨by decide, by decide⟩ ⟨rfl, rfl⟩ ⟨by decide, by decide⟩ dX7_meetTargetsOf_21 (fun v w H locs hp hG => ?_)
        obtain ⟨rfl, mt4, ms4, wl4, od4, hC, hLe⟩ := hp
        refine W.eq (g2 := F0 m 24 ls []) rfl ?_
        refine lv_iinc (v := nI (j + 1)) (lv' := [(2, .int (nI (j + 1))), (0, .ref (q 6)), (1, .ref (tq q k))]) S.1 S.2.1 dX7_meetTargetsOf_24 hl (k := 0) rfl (nI_1 _) (by decide) rfl (fun ls hl => ?_)
        refine lv_goto (tgt := 7) S.1 S.2.1 dX7_meetTargetsOf_27 (by decide) ?_
        exact ihL (j + 1) mt4 ms4 wl4 od4 (by omega) (by omega) hLe _ _ _ hC hG ls (lv_sub hl [0, 1, 2] rfl)
  exact L (fl k + 1) 0 mt ms2 wl od (by omega) (by omega) hL _ _ _ (hC) hG ls (lv_sub hl [0, 1, 2] rfl)
theorem cal_X7_meetRoots : mCal yX7_meetRoots cX7_meetRoots 3 1 none := ⟨in_194, by decide +kernel⟩
set_option maxHeartbeats 4000000 in
set_option maxRecDepth 100000 in
theorem k_meetRoots {l : Launch} {dC : Nat → ClassId} {dI : Nat → Nat → Nat} {cI cZ cT : ClassId} {q : Nat → Nat} {kp : Nat} {Wn : Nat} {made : Nat} {fl : (Nat → Nat)} {num : (Nat → Nat → Int32)} {rfs : (Nat → Nat → Option Nat)} {root : (Nat → Option Nat)} {own : (Nat → Option Nat)} {tad : (Nat → Nat)} {trm : (Nat → Bool)} {tpl : (Nat → Nat)} {cur : Nat} {mend : Nat} {pnx : Nat} {pen : Nat} {st : Nat} {coll : Nat} {mins : Nat} {movd : Nat} {mt : Nat → Option Nat} {ms2 : Nat} {wl od : Nat → Nat} {Kp : Nat → Prop} (hB : ∀ M : List Nat, M.Nodup → (∀ x ∈ M, Kp x) → M.length ≤ Wn) (hKm : ∀ x, Kp x → x < made) (hKf : ∀ x, Kp x → ∀ i, i < fl x → ∀ t, rfs x i = some t → Kp t) (hfl : ∀ x, x < made → fl x ≤ 6) {w : mM} (hC : CW cI cT q kp Wn made fl num rfs root own tad trm tpl wl od mt ms2 cur mend pnx pen st coll mins movd w) (hW4 : Wn ≤ 400) (hcb : cur < 2147483648) (hmb : mend ≤ 400) (htb : ∀ t, t < made → tad t < 2147483648) {L : List Nat} (hL : LsC made cur ms2 mt wl od L) (hKL : ∀ x ∈ L, Kp x) (hKr : ∀ i, i < 16 → ∀ t, root i = some t → Kp t) : mC l yX7_meetRoots (wsY yX7_meetRoots cX7_meetRoots 3 none) { frames := 2, cells := 0, slots := 0, locals := 42 } (dC, dI) vwCl (tyL cI cZ cT) 0 0 w [.ref (q 6), .ref (q 3)] (fun v w2 => v = none ∧ ∃ (mt3 : Nat → Option Nat) (ms3 : Nat) (wl3 od3 : Nat → Nat), CW cI cT q kp Wn made fl num rfs root own tad trm tpl wl3 od3 mt3 ms3 cur mend pnx pen st coll mins movd w2 ∧ LsC made cur ms3 mt3 wl3 od3 (mtN (okC tad mend) root 16 L)) := by
  refine mC.on (by decide) (Nat.le_of_ble_eq_true rfl) ?_
  intro p e s m args below meth c ls S hr hlk hnm hK hN hG hl
  have hl : lv_has ls 3 [(0, .ref (q 6)), (1, .ref (q 3))] := hl
  generalize hAe : mA w s.heap.size = A at hG ⊢
  refine lv_iconst (v := nI (0)) S.1 S.2.1 dX7_meetRoots_0 (by decide) ?_
  refine lv_istore_n (lv' := [(2, .int (nI (0))), (0, .ref (q 6)), (1, .ref (q 3))]) S.1 S.2.1 dX7_meetRoots_1 rfl hl (by decide) rfl (fun ls hl => ?_)
  have L : ∀ (fu : Nat) (j : Nat) (mt : Nat → Option Nat) (ms2 : Nat) (wl : Nat → Nat) (od : Nat → Nat), 16 - j < fu → (j ≤ 16) → (LsC made cur ms2 mt wl od (mtN (okC tad mend) root j L)) → ∀ (w : mM) (H : Heap) (locs : List Loc), CW cI cT q kp Wn made fl num rfs root own tad trm tpl wl od mt ms2 cur mend pnx pen st coll mins movd w → mG (dC, dI) vwCl A s.heap w H locs → ∀ ls : Array Slot, lv_has ls 3 [(2, .int (nI (j))), (0, .ref (q 6)), (1, .ref (q 3))] → W p l e { frames := 2, cells := 0, slots := 0, locals := 42 } s m args below meth c H locs 0 0 (MQ below (mQ (dC, dI) vwCl (tyL cI cZ cT) (fun v w2 => v = none ∧ ∃ (mt3 : Nat → Option Nat) (ms3 : Nat) (wl3 od3 : Nat → Nat), CW cI cT q kp Wn made fl num rfs root own tad trm tpl wl3 od3 mt3 ms3 cur mend pnx pen st coll mins movd w2 ∧ LsC made cur ms3 mt3 wl3 od3 (mtN (okC tad mend) root 16 L)) A) args s 0 0 A) (F0 m 2 ls []) := by
    intro fu
    induction fu with
    | zero => intro j mt ms2 wl od h1; exact absurd h1 (Nat.not_lt_zero _)
    | succ fu ihL =>
      intro j mt ms2 wl od h1 h2 hLd w H locs hC hG ls hl
      have hKd : ∀ x ∈ mtN (okC tad mend) root j L, Kp x := mtN_all hKL j (fun i2 hi3 t ht _ => hKr i2 (by omega) t ht)
      refine lv_iload_n S.1 S.2.1 dX7_meetRoots_2 rfl (lv_at hl 0 rfl) ?_
      refine lv_bipush (v := nI (16)) S.1 S.2.1 dX7_meetRoots_3 (by decide) ?_
      refine lv_icmp_ge (tgt := 23) S.1 S.2.1 dX7_meetRoots_5 (by decide) (fun c1 => ?_) (fun c1 => ?_)
      · have c1 : 16 ≤ j := (nI_leI (a := 16) (b := j) (by omega) (by omega)).mp c1
        have hj : j = 16 := by omega
        rw [hj] at hLd
        exact mw_vret S hr hlk hK hG dX7_meetRoots_23 ⟨rfl, mt, ms2, wl, od, hC, hLd⟩
      · have c1 : ¬ (16 ≤ j) := fun h9 => c1 ((nI_leI (a := 16) (b := j) (by omega) (by omega)).mpr h9)
        refine lv_aload_n S.1 S.2.1 dX7_meetRoots_8 rfl (lv_at hl 1 rfl) ?_
        refine lv_aload_n S.1 S.2.1 dX7_meetRoots_9 rfl (lv_at hl 2 rfl) ?_
        refine lv_iload_n S.1 S.2.1 dX7_meetRoots_10 rfl (lv_at hl 0 rfl) ?_
        refine mCV (As := [.int (nI (j))]) (rest := [.ref (q 6)]) S (o_thingOf hC (by omega) (nI j)) cal_X4_thingOf in_195 in_196 in_197 in_21 hK hN hG hC.obj4 rfl rfl rfl hl.1 (Nat.le_of_ble_eq_true rfl) ⟨by decide, by decide⟩ ⟨rfl, rfl⟩ ⟨by decide, by decide⟩ dX7_meetRoots_11 (fun v w H locs hp hG => ?_)
        obtain ⟨rfl, hw9⟩ := hp
        have hw9 := hw9.symm
        subst hw9
        rw [if_pos (inR_nI (show j < 16 by omega) (by omega)), nI_clamp (by omega)]
        refine W.eq (g2 := F0 m 14 ls [va_rf ((root j).map (tq q)), .ref (q 6)]) rfl ?_
        refine mCV (As := [va_rf ((root j).map (tq q))]) (rest := []) S (k_meet hC hW4 hcb hmb htb hLd (root j) (fun t ht => hKm _ (hKr j (by omega) t ht)) (hB _ (mtL_nd hLd.1) (mtL_all hKd (fun t ht _ => hKr j (by omega) t ht)))) cal_X7_meet in_200 in_201 in_202 in_79 hK hN hG hC.obj7 rfl rfl rfl hl.1 (Nat.le_of_ble_eq_true rfl) ⟨by decide, by decide⟩ ⟨rfl, rfl⟩ ⟨by decide, by decide⟩ dX7_meetRoots_14 (fun v w H locs hp hG => ?_)
        obtain ⟨rfl, mt4, ms4, wl4, od4, hC, hLe⟩ := hp
        refine W.eq (g2 := F0 m 17 ls []) rfl ?_
        refine lv_iinc (v := nI (j + 1)) (lv' := [(2, .int (nI (j + 1))), (0, .ref (q 6)), (1, .ref (q 3))]) S.1 S.2.1 dX7_meetRoots_17 hl (k := 0) rfl (nI_1 _) (by decide) rfl (fun ls hl => ?_)
        refine lv_goto (tgt := 2) S.1 S.2.1 dX7_meetRoots_20 (by decide) ?_
        exact ihL (j + 1) mt4 ms4 wl4 od4 (by omega) (by omega) hLe _ _ _ hC hG ls (lv_sub hl [0, 1, 2] rfl)
  exact L (17) 0 mt ms2 wl od (by omega) (by omega) hL _ _ _ (hC) hG ls (lv_sub hl [0, 1, 2] rfl)
theorem cal_X7_follow : mCal yX7_follow cX7_follow 2 0 none := ⟨in_238, by decide +kernel⟩
set_option maxHeartbeats 4000000 in
set_option maxRecDepth 100000 in
theorem k_follow {l : Launch} {dC : Nat → ClassId} {dI : Nat → Nat → Nat} {cI cZ cT : ClassId} {q : Nat → Nat} {kp : Nat} {Wn : Nat} {made : Nat} {fl : (Nat → Nat)} {num : (Nat → Nat → Int32)} {rfs : (Nat → Nat → Option Nat)} {root : (Nat → Option Nat)} {own : (Nat → Option Nat)} {tad : (Nat → Nat)} {trm : (Nat → Bool)} {tpl : (Nat → Nat)} {cur : Nat} {mend : Nat} {pnx : Nat} {pen : Nat} {st : Nat} {coll : Nat} {mins : Nat} {movd : Nat} {mt : Nat → Option Nat} {ms2 : Nat} {wl od : Nat → Nat} {Kp : Nat → Prop} (hB : ∀ M : List Nat, M.Nodup → (∀ x ∈ M, Kp x) → M.length ≤ Wn) (hKm : ∀ x, Kp x → x < made) (hKf : ∀ x, Kp x → ∀ i, i < fl x → ∀ t, rfs x i = some t → Kp t) (hfl : ∀ x, x < made → fl x ≤ 6) {w : mM} (hC : CW cI cT q kp Wn made fl num rfs root own tad trm tpl wl od mt ms2 cur mend pnx pen st coll mins movd w) (hW4 : Wn ≤ 400) (hcb : cur < 2147483648) (hmb : mend ≤ 400) (htb : ∀ t, t < made → tad t < 2147483648) {L : List Nat} (hL : LsC made cur ms2 mt wl od L) (hKL : ∀ x ∈ L, Kp x) : mC l yX7_follow (wsY yX7_follow cX7_follow 2 none) { frames := 2, cells := 0, slots := 0, locals := 43 } (dC, dI) vwCl (tyL cI cZ cT) 0 0 w [.ref (q 6)] (fun v w2 => v = none ∧ ∃ (mt3 : Nat → Option Nat) (ms3 : Nat) (wl3 od3 : Nat → Nat), CW cI cT q kp Wn made fl num rfs root own tad trm tpl wl3 od3 mt3 ms3 cur mend pnx pen st coll mins movd w2 ∧ LsC made cur ms3 mt3 wl3 od3 (flw (okC tad mend) fl rfs 401 0 L)) := by
  refine mC.on (by decide) (Nat.le_of_ble_eq_true rfl) ?_
  intro p e s m args below meth c ls S hr hlk hnm hK hN hG hl
  have hl : lv_has ls 2 [(0, .ref (q 6))] := hl
  generalize hAe : mA w s.heap.size = A at hG ⊢
  refine lv_iconst (v := nI (0)) S.1 S.2.1 dX7_follow_0 (by decide) ?_
  refine lv_istore_n (lv' := [(1, .int (nI (0))), (0, .ref (q 6))]) S.1 S.2.1 dX7_follow_1 rfl hl (by decide) rfl (fun ls hl => ?_)
  have L9 : ∀ (fu : Nat) (i : Nat) (Lc : List Nat) (mt : Nat → Option Nat) (ms2 : Nat) (wl : Nat → Nat) (od : Nat → Nat), 401 - i < fu → (i ≤ 400) → (flw (okC tad mend) fl rfs (401 - i) i Lc = flw (okC tad mend) fl rfs 401 0 L) → (LsC made cur ms2 mt wl od Lc) → (∀ x ∈ Lc, Kp x) → ∀ (w : mM) (H : Heap) (locs : List Loc), CW cI cT q kp Wn made fl num rfs root own tad trm tpl wl od mt ms2 cur mend pnx pen st coll mins movd w → mG (dC, dI) vwCl A s.heap w H locs → ∀ ls : Array Slot, lv_has ls 2 [(1, .int (nI (i))), (0, .ref (q 6))] → W p l e { frames := 2, cells := 0, slots := 0, locals := 43 } s m args below meth c H locs 0 0 (MQ below (mQ (dC, dI) vwCl (tyL cI cZ cT) (fun v w2 => v = none ∧ ∃ (mt3 : Nat → Option Nat) (ms3 : Nat) (wl3 od3 : Nat → Nat), CW cI cT q kp Wn made fl num rfs root own tad trm tpl wl3 od3 mt3 ms3 cur mend pnx pen st coll mins movd w2 ∧ LsC made cur ms3 mt3 wl3 od3 (flw (okC tad mend) fl rfs 401 0 L)) A) args s 0 0 A) (F0 m 2 ls []) := by
    intro fu
    induction fu with
    | zero => intro i Lc mt ms2 wl od h1; exact absurd h1 (Nat.not_lt_zero _)
    | succ fu ihL9 =>
      intro i Lc mt ms2 wl od h1 h2 hT hLc hKc w H locs hC hG ls hl
      have hlen : Lc.length ≤ Wn := hB Lc hLc.1 hKc
      have hszc : ms2 = Lc.length := hLc.2.1
      refine lv_iload_n S.1 S.2.1 dX7_follow_2 rfl (lv_at hl 0 rfl) ?_
      refine lv_aload_n S.1 S.2.1 dX7_follow_3 rfl (lv_at hl 1 rfl) ?_
      refine cg_RX7_23 S hK hG hC dX7_follow_4 ?_
      refine lv_icmp_ge (tgt := 35) S.1 S.2.1 dX7_follow_7 (by decide) (fun c1 => ?_) (fun c1 => ?_)
      · have c1 : ms2 ≤ i := (nI_leI (a := ms2) (b := i) (by omega) (by omega)).mp c1
        rw [flw_end (by omega)] at hT
        exact mw_vret S hr hlk hK hG dX7_follow_35 ⟨rfl, mt, ms2, wl, od, hC, by rw [← hT]; exact hLc⟩
      · have c1 : ¬ (ms2 ≤ i) := fun h9 => c1 ((nI_leI (a := ms2) (b := i) (by omega) (by omega)).mpr h9)
        have hi2 : i < Lc.length := by omega
        have hrow := LsC_row hLc (show i < ms2 by omega)
        rw [show 401 - i = (401 - (i + 1)) + 1 by omega, flw_step hi2] at hT
        refine lv_iload_n S.1 S.2.1 dX7_follow_10 rfl (lv_at hl 0 rfl) ?_
        refine lv_aload_n S.1 S.2.1 dX7_follow_11 rfl (lv_at hl 1 rfl) ?_
        refine cg_RX7_17 S hK hG hC dX7_follow_12 ?_
        refine cn_met S hK hG hC dX7_follow_15 ?_
        refine lv_icmp_ge (tgt := 35) S.1 S.2.1 dX7_follow_16 (by decide) (fun c2 => ?_) (fun c2 => ?_)
        · have c2 : Wn ≤ i := (nI_leI (a := Wn) (b := i) (by omega) (by omega)).mp c2
          omega
        · have c2 : ¬ (Wn ≤ i) := fun h9 => c2 ((nI_leI (a := Wn) (b := i) (by omega) (by omega)).mpr h9)
          refine lv_aload_n S.1 S.2.1 dX7_follow_19 rfl (lv_at hl 1 rfl) ?_
          refine lv_aload_n S.1 S.2.1 dX7_follow_20 rfl (lv_at hl 1 rfl) ?_
          refine cg_RX7_17 S hK hG hC dX7_follow_21 ?_
          refine lv_iload_n S.1 S.2.1 dX7_follow_24 rfl (lv_at hl 0 rfl) ?_
          refine cl_met S hK hG hC (i) (by omega) (by omega) dX7_follow_25 ?_
          rw [hrow.1]
          refine W.eq (g2 := F0 m 26 ls [.ref (tq q (Lc.getD i 0)), .ref (q 6)]) rfl ?_
          refine mCV (As := [.ref (tq q (Lc.getD i 0))]) (rest := []) S (k_meetTargetsOf hB hKm hKf hfl hC hW4 hcb hmb htb hLc hKc (Lc.getD i 0) (hKc _ hrow.2.1)) cal_X7_meetTargetsOf in_239 in_222 in_223 in_79 hK hN hG hC.obj7 rfl rfl rfl hl.1 (Nat.le_of_ble_eq_true rfl) ⟨by decide, by decide⟩ ⟨rfl, rfl⟩ ⟨by decide, by decide⟩ dX7_follow_26 (fun v w H locs hp hG => ?_)
          obtain ⟨rfl, mt4, ms4, wl4, od4, hC, hLe⟩ := hp
          refine W.eq (g2 := F0 m 29 ls []) rfl ?_
          refine lv_iinc (v := nI (i + 1)) (lv' := [(1, .int (nI (i + 1))), (0, .ref (q 6))]) S.1 S.2.1 dX7_follow_29 hl (k := 0) rfl (nI_1 _) (by decide) rfl (fun ls hl => ?_)
          refine lv_goto (tgt := 2) S.1 S.2.1 dX7_follow_32 (by decide) ?_
          exact ihL9 (i + 1) _ mt4 ms4 wl4 od4 (by omega) (by omega) hT hLe (mtN_all hKc _ (fun i2 hi3 t ht _ => hKf _ (hKc _ hrow.2.1) i2 hi3 t ht)) _ _ _ hC hG ls (lv_sub hl [0, 1] rfl)
  exact L9 (402) 0 L mt ms2 wl od (by omega) (by omega) rfl hL hKL _ _ _ (hC) hG ls (lv_sub hl [0, 1] rfl)
