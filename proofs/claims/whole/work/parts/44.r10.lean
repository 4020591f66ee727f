/-! THE REFERENCE: room, makings, collections -/
theorem RW_nr {cI cZ : ClassId} {q : Nat → Nat} {thr : Int32} {kp : Nat} {Wn : Nat} {made : Nat} {adr : (Nat → Option Nat)} {fl : (Nat → Nat)} {rem : (Nat → Bool)} {num : (Nat → Nat → Int32)} {rfs : (Nat → Nat → Option Nat)} {root : (Nat → Option Nat)} {own : (Nat → Option Nat)} {half : Nat} {top : Nat} {coll : Nat} {mins : Nat} {movd : Nat} {size : Nat} {row : (Nat → Nat)} {plc : (Nat → Option Nat)} {old : (Nat → Option Nat)} {num2 : Nat → Nat → Int32} {rfs2 : Nat → Nat → Option Nat} {w : mM} (hR : RW cI cZ q thr kp Wn made adr fl rem num rfs root own half top coll mins movd size row plc old w) (h1 : ∀ o j, j < 6 → num o j = num2 o j) (h2 : ∀ o j, j < 6 → rfs o j = rfs2 o j) : RW cI cZ q thr kp Wn made adr fl rem num2 rfs2 root own half top coll mins movd size row plc old w := by
  have e1 : (fun k => num (k / 6) (k % 6)) = (fun k => num2 (k / 6) (k % 6)) := funext fun k => h1 _ _ (Nat.mod_lt _ (by decide))
  have e2 : (fun k => oI (rfs (k / 6) (k % 6))) = (fun k => oI (rfs2 (k / 6) (k % 6))) := funext fun k => by rw [h2 _ _ (Nat.mod_lt _ (by decide))]
  refine ⟨fun i hi => (hR.1 i hi).trans ?_, hR.2⟩
  rcases i with _|_|_|_|_|_|_|_|_|_|_|i
  all_goals first
    | rfl
    | exact congrArg (fun f : Nat → Int32 => (some (.inl (cI, 12000, .inl f)) : Option va_E)) e1
    | exact congrArg (fun f : Nat → Int32 => (some (.inl (cI, 12000, .inl f)) : Option va_E)) e2
    | (exfalso; omega)
def exI {α : Type} (f : Nat → Nat → α) (m i : Nat) (v : α) : Nat → Nat → α := fun k j => if k = m ∧ j < i then v else f k j
theorem exI_0 {α : Type} (f : Nat → Nat → α) (m : Nat) (v : α) : exI f m 0 v = f := by
  funext k j
  unfold exI
  rw [if_neg (by omega)]
theorem exI_s {α : Type} (f : Nat → Nat → α) (m i : Nat) (v : α) : up2 (exI f m i v) m i v = exI f m (i + 1) v := by
  funext k j
  unfold up2 exI
  by_cases h : k = m ∧ j = i
  · rw [if_pos h, if_pos (by omega)]
  · rw [if_neg h]
    by_cases h2 : k = m ∧ j < i
    · rw [if_pos h2, if_pos (by omega)]
    · rw [if_neg h2, if_neg (by omega)]
theorem exI_6 {α : Type} (f : Nat → Nat → α) (m : Nat) (v : α) (o j : Nat) (h : j < 6) : exI f m 6 v o j = ext0 f m v o j := by
  unfold exI ext0
  by_cases e : o = m
  · rw [if_pos ⟨e, h⟩, if_pos e]
  · rw [if_neg (fun z => e z.1), if_neg e]
theorem cal_X10_room : mCal yX10_room cX10_room 3 1 (some .int) := ⟨in_391, by decide +kernel⟩
set_option maxHeartbeats 4000000 in
set_option maxRecDepth 100000 in
theorem r_room0 {l : Launch} {dC : Nat → ClassId} {dI : Nat → Nat → Nat} {cI cZ cT : ClassId} {q : Nat → Nat} {thr : Int32} {kp : Nat} {Wn : Nat} {made : Nat} {adr : (Nat → Option Nat)} {fl : (Nat → Nat)} {rem : (Nat → Bool)} {num : (Nat → Nat → Int32)} {rfs : (Nat → Nat → Option Nat)} {root : (Nat → Option Nat)} {own : (Nat → Option Nat)} {half : Nat} {top : Nat} {coll : Nat} {mins : Nat} {movd : Nat} {size : Nat} {row : (Nat → Nat)} {plc : (Nat → Option Nat)} {old : (Nat → Option Nat)} {w : mM} (hR : RW cI cZ q thr kp Wn made adr fl rem num rfs root own half top coll mins movd size row plc old w) (hW : Wn ≤ 400) (many : Nat) (hm1 : 1 ≤ many) (hm7 : many ≤ 7) (hkp : kp = 0) (ho : ∀ k x, own k = some x → x < 2147483648) : mC l yX10_room (wsY yX10_room cX10_room 3 (some .int)) { frames := 1, cells := 0, slots := 0, locals := 24 } (dC, dI) vwCl (tyL cI cZ cT) 0 0 w [.ref (q 0), .int (nI (many))] (fun v w2 => v = some (.int (oI (fit own Wn 0 many))) ∧ w2 = w) := by
  refine mC.on (by decide) (Nat.le_of_ble_eq_true rfl) ?_
  intro p e s m args below meth c ls S hr hlk hnm hK hN hG hl
  have hl : lv_has ls 3 [(0, .ref (q 0)), (1, .int (nI (many)))] := hl
  generalize hAe : mA w s.heap.size = A at hG ⊢
  refine lv_aload_n S.1 S.2.1 dX10_room_0 rfl (lv_at hl 0 rfl) ?_
  refine rg_kp S hK hG hR dX10_room_1 ?_
  refine lv_if_ne (tgt := 14) S.1 S.2.1 dX10_room_4 (by decide) (fun c1 => ?_) (fun c1 => ?_)
  · have c1 : ¬ (kp = 0) := fun h9 => c1 ((nI_eq (a := kp) (b := 0) (by omega) (by omega)).mpr h9)
    exact absurd hkp c1
  · have c1 : kp = 0 := (nI_eq (a := kp) (b := 0) (by omega) (by omega)).mp c1
    refine lv_aload_n S.1 S.2.1 dX10_room_7 rfl (lv_at hl 0 rfl) ?_
    refine lv_iconst (v := nI (0)) S.1 S.2.1 dX10_room_8 (by decide) ?_
    refine lv_iload_n S.1 S.2.1 dX10_room_9 rfl (lv_at hl 1 rfl) ?_
    refine mCV (As := [.int (nI (0)), .int (nI (many))]) (rest := []) S (r_fit hR 0 many (by omega) hm1 hm7 hW ho) cal_X10_fit in_393 in_394 in_395 in_5 hK hN hG hR.obj rfl rfl rfl hl.1 (Nat.le_of_ble_eq_true rfl) ⟨by decide, by decide⟩ ⟨rfl, rfl⟩ ⟨by decide, by decide⟩ dX10_room_10 (fun v w H locs hp hG => ?_)
    obtain ⟨rfl, hw9⟩ := hp
    rw [hw9] at hG
    refine W.eq (g2 := F0 m 13 ls [.int (oI (fit own Wn 0 many))]) rfl ?_
    exact mw_iret S hr hlk hK hG dX10_room_13 ⟨rfl, rfl⟩
set_option maxHeartbeats 4000000 in
set_option maxRecDepth 100000 in
theorem r_room1 {l : Launch} {dC : Nat → ClassId} {dI : Nat → Nat → Nat} {cI cZ cT : ClassId} {q : Nat → Nat} {thr : Int32} {kp : Nat} {Wn : Nat} {made : Nat} {adr : (Nat → Option Nat)} {fl : (Nat → Nat)} {rem : (Nat → Bool)} {num : (Nat → Nat → Int32)} {rfs : (Nat → Nat → Option Nat)} {root : (Nat → Option Nat)} {own : (Nat → Option Nat)} {half : Nat} {top : Nat} {coll : Nat} {mins : Nat} {movd : Nat} {size : Nat} {row : (Nat → Nat)} {plc : (Nat → Option Nat)} {old : (Nat → Option Nat)} {w : mM} (hR : RW cI cZ q thr kp Wn made adr fl rem num rfs root own half top coll mins movd size row plc old w) (hW : Wn ≤ 400) (many : Nat) (hm1 : 1 ≤ many) (hm7 : many ≤ 7) (hkp : kp = 1) (hh : half ≤ 1) (ht : top ≤ 1000) : mC l yX10_room (wsY yX10_room cX10_room 3 (some .int)) { frames := 0, cells := 0, slots := 0, locals := 0 } (dC, dI) vwCl (tyL cI cZ cT) 0 0 w [.ref (q 0), .int (nI (many))] (fun v w2 => v = some (.int (oI (if top + many ≤ (half + 1) * (Wn / 2) then some top else none))) ∧ w2 = w) := by
  have hh2 : (half + 1) * (Wn / 2) ≤ 2 * (Wn / 2) := Nat.mul_le_mul_right _ (by omega)
  refine mC.on (by decide) (Nat.le_of_ble_eq_true rfl) ?_
  intro p e s m args below meth c ls S hr hlk hnm hK hN hG hl
  have hl : lv_has ls 3 [(0, .ref (q 0)), (1, .int (nI (many)))] := hl
  generalize hAe : mA w s.heap.size = A at hG ⊢
  refine lv_aload_n S.1 S.2.1 dX10_room_0 rfl (lv_at hl 0 rfl) ?_
  refine rg_kp S hK hG hR dX10_room_1 ?_
  refine lv_if_ne (tgt := 14) S.1 S.2.1 dX10_room_4 (by decide) (fun c1 => ?_) (fun c1 => ?_)
  · have c1 : ¬ (kp = 0) := fun h9 => c1 ((nI_eq (a := kp) (b := 0) (by omega) (by omega)).mpr h9)
    refine lv_aload_n S.1 S.2.1 dX10_room_14 rfl (lv_at hl 0 rfl) ?_
    refine rg_kp S hK hG hR dX10_room_15 ?_
    refine lv_iconst (v := nI (1)) S.1 S.2.1 dX10_room_18 (by decide) ?_
    refine lv_icmp_ne (tgt := 38) S.1 S.2.1 dX10_room_19 (by decide) (fun c2 => ?_) (fun c2 => ?_)
    · have c2 : ¬ (kp = 1) := fun h9 => c2 ((nI_eq (a := kp) (b := 1) (by omega) (by omega)).mpr h9)
      exact absurd hkp c2
    · have c2 : kp = 1 := (nI_eq (a := kp) (b := 1) (by omega) (by omega)).mp c2
      refine lv_aload_n S.1 S.2.1 dX10_room_22 rfl (lv_at hl 0 rfl) ?_
      refine rg_half S hK hG hR dX10_room_23 ?_
      refine lv_iconst (v := nI (1)) S.1 S.2.1 dX10_room_26 (by decide) ?_
      refine lv_iadd S.1 S.2.1 dX10_room_27 ?_
      refine lv_eqi (nI_add _ _) ?_
      refine lv_aload_n S.1 S.2.1 dX10_room_28 rfl (lv_at hl 0 rfl) ?_
      refine rg_Wn S hK hG hR dX10_room_29 ?_
      refine lv_iconst (v := nI (2)) S.1 S.2.1 dX10_room_32 (by decide) ?_
      refine lv_idiv S.1 S.2.1 dX10_room_33 (by decide) ?_
      refine lv_eqi (pk_div (by omega) (by omega) (by omega)) ?_
      refine lv_imul S.1 S.2.1 dX10_room_34 ?_
      refine lv_eqi (pk_mul _ _) ?_
      refine lv_goto (tgt := 44) S.1 S.2.1 dX10_room_35 (by decide) ?_
      refine lv_istore_n (lv' := [(2, .int (nI ((half + 1) * (Wn / 2)))), (0, .ref (q 0)), (1, .int (nI (many)))]) S.1 S.2.1 dX10_room_44 rfl hl (by decide) rfl (fun ls hl => ?_)
      refine lv_aload_n S.1 S.2.1 dX10_room_45 rfl (lv_at hl 1 rfl) ?_
      refine rg_top S hK hG hR dX10_room_46 ?_
      refine lv_iload_n S.1 S.2.1 dX10_room_49 rfl (lv_at hl 2 rfl) ?_
      refine lv_iadd S.1 S.2.1 dX10_room_50 ?_
      refine lv_eqi (nI_add _ _) ?_
      refine lv_iload_n S.1 S.2.1 dX10_room_51 rfl (lv_at hl 0 rfl) ?_
      refine lv_icmp_gt (tgt := 62) S.1 S.2.1 dX10_room_52 (by decide) (fun c3 => ?_) (fun c3 => ?_)
      · have c3 : ((half + 1) * (Wn / 2)) < (top + many) := (nI_ltI (a := (half + 1) * (Wn / 2)) (b := top + many) (by omega) (by omega)).mp c3
        refine lv_iconst (v := -1) S.1 S.2.1 dX10_room_62 (by decide) ?_
        exact mw_iret S hr hlk hK hG dX10_room_63 ⟨by rw [if_neg (by omega)]; rfl, rfl⟩
      · have c3 : ¬ (((half + 1) * (Wn / 2)) < (top + many)) := fun h9 => c3 ((nI_ltI (a := (half + 1) * (Wn / 2)) (b := top + many) (by omega) (by omega)).mpr h9)
        refine lv_aload_n S.1 S.2.1 dX10_room_55 rfl (lv_at hl 1 rfl) ?_
        refine rg_top S hK hG hR dX10_room_56 ?_
        refine lv_goto (tgt := 63) S.1 S.2.1 dX10_room_59 (by decide) ?_
        exact mw_iret S hr hlk hK hG dX10_room_63 ⟨by rw [if_pos (by omega)]; rfl, rfl⟩
  · have c1 : kp = 0 := (nI_eq (a := kp) (b := 0) (by omega) (by omega)).mp c1
    exact absurd c1 (by omega)
set_option maxHeartbeats 4000000 in
set_option maxRecDepth 100000 in
theorem r_room2 {l : Launch} {dC : Nat → ClassId} {dI : Nat → Nat → Nat} {cI cZ cT : ClassId} {q : Nat → Nat} {thr : Int32} {kp : Nat} {Wn : Nat} {made : Nat} {adr : (Nat → Option Nat)} {fl : (Nat → Nat)} {rem : (Nat → Bool)} {num : (Nat → Nat → Int32)} {rfs : (Nat → Nat → Option Nat)} {root : (Nat → Option Nat)} {own : (Nat → Option Nat)} {half : Nat} {top : Nat} {coll : Nat} {mins : Nat} {movd : Nat} {size : Nat} {row : (Nat → Nat)} {plc : (Nat → Option Nat)} {old : (Nat → Option Nat)} {w : mM} (hR : RW cI cZ q thr kp Wn made adr fl rem num rfs root own half top coll mins movd size row plc old w) (hW : Wn ≤ 400) (many : Nat) (hm1 : 1 ≤ many) (hm7 : many ≤ 7) (hkp : kp = 2) (ht : top ≤ 1000) : mC l yX10_room (wsY yX10_room cX10_room 3 (some .int)) { frames := 0, cells := 0, slots := 0, locals := 0 } (dC, dI) vwCl (tyL cI cZ cT) 0 0 w [.ref (q 0), .int (nI (many))] (fun v w2 => v = some (.int (oI (if top + many ≤ Wn / 4 then some top else none))) ∧ w2 = w) := by
  refine mC.on (by decide) (Nat.le_of_ble_eq_true rfl) ?_
  intro p e s m args below meth c ls S hr hlk hnm hK hN hG hl
  have hl : lv_has ls 3 [(0, .ref (q 0)), (1, .int (nI (many)))] := hl
  generalize hAe : mA w s.heap.size = A at hG ⊢
  refine lv_aload_n S.1 S.2.1 dX10_room_0 rfl (lv_at hl 0 rfl) ?_
  refine rg_kp S hK hG hR dX10_room_1 ?_
  refine lv_if_ne (tgt := 14) S.1 S.2.1 dX10_room_4 (by decide) (fun c1 => ?_) (fun c1 => ?_)
  · have c1 : ¬ (kp = 0) := fun h9 => c1 ((nI_eq (a := kp) (b := 0) (by omega) (by omega)).mpr h9)
    refine lv_aload_n S.1 S.2.1 dX10_room_14 rfl (lv_at hl 0 rfl) ?_
    refine rg_kp S hK hG hR dX10_room_15 ?_
    refine lv_iconst (v := nI (1)) S.1 S.2.1 dX10_room_18 (by decide) ?_
    refine lv_icmp_ne (tgt := 38) S.1 S.2.1 dX10_room_19 (by decide) (fun c2 => ?_) (fun c2 => ?_)
    · have c2 : ¬ (kp = 1) := fun h9 => c2 ((nI_eq (a := kp) (b := 1) (by omega) (by omega)).mpr h9)
      refine lv_aload_n S.1 S.2.1 dX10_room_38 rfl (lv_at hl 0 rfl) ?_
      refine rg_Wn S hK hG hR dX10_room_39 ?_
      refine lv_iconst (v := nI (4)) S.1 S.2.1 dX10_room_42 (by decide) ?_
      refine lv_idiv S.1 S.2.1 dX10_room_43 (by decide) ?_
      refine lv_eqi (pk_div (by omega) (by omega) (by omega)) ?_
      refine lv_istore_n (lv' := [(2, .int (nI (Wn / 4))), (0, .ref (q 0)), (1, .int (nI (many)))]) S.1 S.2.1 dX10_room_44 rfl hl (by decide) rfl (fun ls hl => ?_)
      refine lv_aload_n S.1 S.2.1 dX10_room_45 rfl (lv_at hl 1 rfl) ?_
      refine rg_top S hK hG hR dX10_room_46 ?_
      refine lv_iload_n S.1 S.2.1 dX10_room_49 rfl (lv_at hl 2 rfl) ?_
      refine lv_iadd S.1 S.2.1 dX10_room_50 ?_
      refine lv_eqi (nI_add _ _) ?_
      refine lv_iload_n S.1 S.2.1 dX10_room_51 rfl (lv_at hl 0 rfl) ?_
      refine lv_icmp_gt (tgt := 62) S.1 S.2.1 dX10_room_52 (by decide) (fun c3 => ?_) (fun c3 => ?_)
      · have c3 : (Wn / 4) < (top + many) := (nI_ltI (a := Wn / 4) (b := top + many) (by omega) (by omega)).mp c3
        refine lv_iconst (v := -1) S.1 S.2.1 dX10_room_62 (by decide) ?_
        exact mw_iret S hr hlk hK hG dX10_room_63 ⟨by rw [if_neg (by omega)]; rfl, rfl⟩
      · have c3 : ¬ ((Wn / 4) < (top + many)) := fun h9 => c3 ((nI_ltI (a := Wn / 4) (b := top + many) (by omega) (by omega)).mpr h9)
        refine lv_aload_n S.1 S.2.1 dX10_room_55 rfl (lv_at hl 1 rfl) ?_
        refine rg_top S hK hG hR dX10_room_56 ?_
        refine lv_goto (tgt := 63) S.1 S.2.1 dX10_room_59 (by decide) ?_
        exact mw_iret S hr hlk hK hG dX10_room_63 ⟨by rw [if_pos (by omega)]; rfl, rfl⟩
    · have c2 : kp = 1 := (nI_eq (a := kp) (b := 1) (by omega) (by omega)).mp c2
      exact absurd c2 (by omega)
  · have c1 : kp = 0 := (nI_eq (a := kp) (b := 0) (by omega) (by omega)).mp c1
    exact absurd c1 (by omega)
theorem cal_X10_make : mCal yX10_make cX10_make 7 2 (some .int) := ⟨in_378, by decide +kernel⟩
set_option maxHeartbeats 4000000 in
set_option maxRecDepth 100000 in
theorem r_make0 {l : Launch} {dC : Nat → ClassId} {dI : Nat → Nat → Nat} {cI cZ cT : ClassId} {q : Nat → Nat} {thr : Int32} {kp : Nat} {Wn : Nat} {made : Nat} {adr : (Nat → Option Nat)} {fl : (Nat → Nat)} {rem : (Nat → Bool)} {num : (Nat → Nat → Int32)} {rfs : (Nat → Nat → Option Nat)} {root : (Nat → Option Nat)} {own : (Nat → Option Nat)} {half : Nat} {top : Nat} {coll : Nat} {mins : Nat} {movd : Nat} {size : Nat} {row : (Nat → Nat)} {plc : (Nat → Option Nat)} {old : (Nat → Option Nat)} {Kp : Nat → Prop} (hB : ∀ M : List Nat, M.Nodup → (∀ x ∈ M, Kp x) → M.length ≤ 400) (hKm : ∀ x, Kp x → x < made ∧ ∃ a, adr x = some a) (hKf : ∀ x, Kp x → ∀ i, i < fl x → ∀ t, rfs x i = some t → Kp t) {w : mM} (hR : RW cI cZ q thr kp Wn made adr fl rem num rfs root own half top coll mins movd size row plc old w) (hm : made ≤ 2000) (hW : Wn ≤ 400) (hfl : ∀ x, x < made → fl x ≤ 6) (hLay : Lay made Wn fl adr own) (hKr : ∀ i, i < 16 → ∀ t, root i = some t → Kp t) (hkp : kp = 0) (x y : Int32) : mC l yX10_make (wsY yX10_make cX10_make 7 (some .int)) { frames := 4, cells := 0, slots := 0, locals := 88 } (dC, dI) vwCl (tyL cI cZ cT) 0 0 w [.ref (q 0), .int (x), .int (y)] (fun v w2 => ((inR 16 x = false ∨ inR 7 y = false) ∧ v = some (.int (-2)) ∧ RW cI cZ q 0 kp Wn made adr fl rem num rfs root own half top coll mins movd size row plc old w2) ∨ ((inR 16 x = true ∧ inR 7 y = true) ∧ made = 2000 ∧ v = some (.int (-4)) ∧ RW cI cZ q 0 kp Wn made adr fl rem num rfs root own half top coll mins movd size row plc old w2) ∨ ∃ (j2 n2 : Nat), j2 < 16 ∧ n2 ≤ 6 ∧ x = nI j2 ∧ y = nI n2 ∧ made < 2000 ∧ ((∃ a, fit own Wn 0 (n2 + 1) = some a ∧ v = some (.int (nI made)) ∧ RW cI cZ q 0 kp Wn (made + 1) (va_up adr made (some a)) (va_up fl made n2) rem (ext0 num made 0) (ext0 rfs made none) (va_up root j2 (some made)) (fillO own a (n2 + 1) (some made)) half (top + (n2 + 1)) coll mins movd size row plc old w2) ∨ (fit own Wn 0 (n2 + 1) = none ∧ ∃ (sz2 : Nat) (rw2 : Nat → Nat) (pl2 : Nat → Option Nat), ((∃ a, fit (swO (blw made (ded false kp Wn adr (LRR fl rfs root))) own) Wn 0 (n2 + 1) = some a ∧ v = some (.int (nI made)) ∧ RW cI cZ q 0 kp Wn (made + 1) (va_up (swA (blw made (ded false kp Wn adr (LRR fl rfs root))) adr) made (some a)) (va_up fl made n2) (swR (blw made (ded false kp Wn adr (LRR fl rfs root))) rem) (ext0 num made 0) (ext0 rfs made none) (va_up root j2 (some made)) (fillO (swO (blw made (ded false kp Wn adr (LRR fl rfs root))) own) a (n2 + 1) (some made)) half (top + (n2 + 1)) (coll + 1) mins movd sz2 rw2 pl2 old w2) ∨ (fit (swO (blw made (ded false kp Wn adr (LRR fl rfs root))) own) Wn 0 (n2 + 1) = none ∧ v = some (.int (-4)) ∧ RW cI cZ q 0 kp Wn made (swA (blw made (ded false kp Wn adr (LRR fl rfs root))) adr) fl (swR (blw made (ded false kp Wn adr (LRR fl rfs root))) rem) num rfs root (swO (blw made (ded false kp Wn adr (LRR fl rfs root))) own) half top (coll + 1) mins movd sz2 rw2 pl2 old w2))))) := by
  refine mC.on (by decide) (Nat.le_of_ble_eq_true rfl) ?_
  intro p e s m args below meth c ls S hr hlk hnm hK hN hG hl
  have hl : lv_has ls 7 [(0, .ref (q 0)), (1, .int (x)), (2, .int (y))] := hl
  generalize hAe : mA w s.heap.size = A at hG ⊢
  have hob : ∀ k x, own k = some x → x < 2147483648 := fun k x hx => by have := (hLay.2 k x hx).1; omega
  refine lv_aload_n S.1 S.2.1 dX10_make_0 rfl (lv_at hl 0 rfl) ?_
  refine lv_iconst (v := 0) S.1 S.2.1 dX10_make_1 (by decide) ?_
  refine rp_thr S hK hG hR (0) dX10_make_2 (fun w H locs hR hG => ?_)
  refine lv_iload_n S.1 S.2.1 dX10_make_5 rfl (lv_at hl 1 rfl) ?_
  refine mCS (As := [.int (x)]) (rest := []) S (r_isRoot x) cal_X10_isRoot rfl in_382 in_383 in_5 hK hN hG rfl rfl hl.1 (Nat.le_of_ble_eq_true rfl) ⟨by decide, by decide⟩ ⟨rfl, rfl⟩ ⟨by decide, by decide⟩ dX10_make_6 (fun v w H locs hp hG => ?_)
  obtain ⟨rfl, hw9⟩ := hp
  rw [hw9] at hG
  refine W.eq (g2 := F0 m 9 ls [.int (bI (inR 16 x))]) rfl ?_
  refine lv_if_eq (tgt := 22) S.1 S.2.1 dX10_make_9 (by decide) (fun c1 => ?_) (fun c1 => ?_)
  · refine lv_bipush (v := -2) S.1 S.2.1 dX10_make_22 (by decide) ?_
    exact mw_iret S hr hlk hK hG dX10_make_24 (Or.inl ⟨Or.inl (bI_f c1), rfl, hR⟩)
  · obtain ⟨j, hj, rfl⟩ := inR_ex (by decide) (bI_t c1)
    refine lv_iload_n S.1 S.2.1 dX10_make_12 rfl (lv_at hl 2 rfl) ?_
    refine lv_iconst (v := nI (0)) S.1 S.2.1 dX10_make_13 (by decide) ?_
    refine lv_bipush (v := nI (6)) S.1 S.2.1 dX10_make_14 (by decide) ?_
    refine mCS (As := [.int (y), .int (nI (0)), .int (nI (6))]) (rest := []) S (r_in y 6 (by decide)) cal_X10_in rfl in_385 in_386 in_5 hK hN hG rfl rfl hl.1 (Nat.le_of_ble_eq_true rfl) ⟨by decide, by decide⟩ ⟨rfl, rfl⟩ ⟨by decide, by decide⟩ dX10_make_16 (fun v w H locs hp hG => ?_)
    obtain ⟨rfl, hw9⟩ := hp
    rw [hw9] at hG
    refine W.eq (g2 := F0 m 19 ls [.int (bI (inR 7 y))]) rfl ?_
    refine lv_if_ne (tgt := 25) S.1 S.2.1 dX10_make_19 (by decide) (fun c2 => ?_) (fun c2 => ?_)
    · obtain ⟨n, hn, rfl⟩ := inR_ex (by decide) (bI_t c2)
      refine lv_aload_n S.1 S.2.1 dX10_make_25 rfl (lv_at hl 0 rfl) ?_
      refine rg_made S hK hG hR dX10_make_26 ?_
      refine lv_sipush (v := nI (2000)) S.1 S.2.1 dX10_make_29 (by decide) ?_
      refine lv_icmp_ne (tgt := 38) S.1 S.2.1 dX10_make_32 (by decide) (fun c3 => ?_) (fun c3 => ?_)
      · have c3 : ¬ (made = 2000) := fun h9 => c3 ((nI_eq (a := made) (b := 2000) (by omega) (by omega)).mpr h9)
        have hmd : made < 2000 := by omega
        have TT : ∀ (adr8 : (Nat → Option Nat)) (rem8 : (Nat → Bool)) (own8 : (Nat → Option Nat)) (half8 : Nat) (top8 : Nat) (coll8 : Nat) (mins8 : Nat) (movd8 : Nat) (size8 : Nat) (row8 : (Nat → Nat)) (plc8 : (Nat → Option Nat)) (old8 : (Nat → Option Nat)) (a : Nat), (a + n < 400) → (∀ w2, RW cI cZ q 0 kp Wn (made + 1) (va_up adr8 made (some a)) (va_up fl made n) rem8 (ext0 num made 0) (ext0 rfs made none) (va_up root j (some made)) (fillO own8 a (n + 1) (some made)) half8 (top8 + (n + 1)) coll8 mins8 movd8 size8 row8 plc8 old8 w2 → ((fun v w2 => ((inR 16 (nI j) = false ∨ inR 7 (nI n) = false) ∧ v = some (.int (-2)) ∧ RW cI cZ q 0 kp Wn made adr fl rem num rfs root own half top coll mins movd size row plc old w2) ∨ ((inR 16 (nI j) = true ∧ inR 7 (nI n) = true) ∧ made = 2000 ∧ v = some (.int (-4)) ∧ RW cI cZ q 0 kp Wn made adr fl rem num rfs root own half top coll mins movd size row plc old w2) ∨ ∃ (j2 n2 : Nat), j2 < 16 ∧ n2 ≤ 6 ∧ (nI j) = nI j2 ∧ (nI n) = nI n2 ∧ made < 2000 ∧ ((∃ a, fit own Wn 0 (n2 + 1) = some a ∧ v = some (.int (nI made)) ∧ RW cI cZ q 0 kp Wn (made + 1) (va_up adr made (some a)) (va_up fl made n2) rem (ext0 num made 0) (ext0 rfs made none) (va_up root j2 (some made)) (fillO own a (n2 + 1) (some made)) half (top + (n2 + 1)) coll mins movd size row plc old w2) ∨ (fit own Wn 0 (n2 + 1) = none ∧ ∃ (sz2 : Nat) (rw2 : Nat → Nat) (pl2 : Nat → Option Nat), ((∃ a, fit (swO (blw made (ded false kp Wn adr (LRR fl rfs root))) own) Wn 0 (n2 + 1) = some a ∧ v = some (.int (nI made)) ∧ RW cI cZ q 0 kp Wn (made + 1) (va_up (swA (blw made (ded false kp Wn adr (LRR fl rfs root))) adr) made (some a)) (va_up fl made n2) (swR (blw made (ded false kp Wn adr (LRR fl rfs root))) rem) (ext0 num made 0) (ext0 rfs made none) (va_up root j2 (some made)) (fillO (swO (blw made (ded false kp Wn adr (LRR fl rfs root))) own) a (n2 + 1) (some made)) half (top + (n2 + 1)) (coll + 1) mins movd sz2 rw2 pl2 old w2) ∨ (fit (swO (blw made (ded false kp Wn adr (LRR fl rfs root))) own) Wn 0 (n2 + 1) = none ∧ v = some (.int (-4)) ∧ RW cI cZ q 0 kp Wn made (swA (blw made (ded false kp Wn adr (LRR fl rfs root))) adr) fl (swR (blw made (ded false kp Wn adr (LRR fl rfs root))) rem) num rfs root (swO (blw made (ded false kp Wn adr (LRR fl rfs root))) own) half top (coll + 1) mins movd sz2 rw2 pl2 old w2))))) : Option Value → mM → Prop) (some (.int (nI made))) w2) → ∀ (w : mM) (H : Heap) (locs : List Loc), RW cI cZ q 0 kp Wn made adr8 fl rem8 num rfs root own8 half8 top8 coll8 mins8 movd8 size8 row8 plc8 old8 w → mG (dC, dI) vwCl A s.heap w H locs → ∀ ls : Array Slot, lv_has ls 7 [(4, .int (nI (a))), (3, .int (nI (n + 1))), (0, .ref (q 0)), (1, .int (nI (j))), (2, .int (nI (n)))] → W p l e { frames := 4, cells := 0, slots := 0, locals := 88 } s m args below meth c H locs 0 0 (MQ below (mQ (dC, dI) vwCl (tyL cI cZ cT) (fun v w2 => ((inR 16 (nI j) = false ∨ inR 7 (nI n) = false) ∧ v = some (.int (-2)) ∧ RW cI cZ q 0 kp Wn made adr fl rem num rfs root own half top coll mins movd size row plc old w2) ∨ ((inR 16 (nI j) = true ∧ inR 7 (nI n) = true) ∧ made = 2000 ∧ v = some (.int (-4)) ∧ RW cI cZ q 0 kp Wn made adr fl rem num rfs root own half top coll mins movd size row plc old w2) ∨ ∃ (j2 n2 : Nat), j2 < 16 ∧ n2 ≤ 6 ∧ (nI j) = nI j2 ∧ (nI n) = nI n2 ∧ made < 2000 ∧ ((∃ a, fit own Wn 0 (n2 + 1) = some a ∧ v = some (.int (nI made)) ∧ RW cI cZ q 0 kp Wn (made + 1) (va_up adr made (some a)) (va_up fl made n2) rem (ext0 num made 0) (ext0 rfs made none) (va_up root j2 (some made)) (fillO own a (n2 + 1) (some made)) half (top + (n2 + 1)) coll mins movd size row plc old w2) ∨ (fit own Wn 0 (n2 + 1) = none ∧ ∃ (sz2 : Nat) (rw2 : Nat → Nat) (pl2 : Nat → Option Nat), ((∃ a, fit (swO (blw made (ded false kp Wn adr (LRR fl rfs root))) own) Wn 0 (n2 + 1) = some a ∧ v = some (.int (nI made)) ∧ RW cI cZ q 0 kp Wn (made + 1) (va_up (swA (blw made (ded false kp Wn adr (LRR fl rfs root))) adr) made (some a)) (va_up fl made n2) (swR (blw made (ded false kp Wn adr (LRR fl rfs root))) rem) (ext0 num made 0) (ext0 rfs made none) (va_up root j2 (some made)) (fillO (swO (blw made (ded false kp Wn adr (LRR fl rfs root))) own) a (n2 + 1) (some made)) half (top + (n2 + 1)) (coll + 1) mins movd sz2 rw2 pl2 old w2) ∨ (fit (swO (blw made (ded false kp Wn adr (LRR fl rfs root))) own) Wn 0 (n2 + 1) = none ∧ v = some (.int (-4)) ∧ RW cI cZ q 0 kp Wn made (swA (blw made (ded false kp Wn adr (LRR fl rfs root))) adr) fl (swR (blw made (ded false kp Wn adr (LRR fl rfs root))) rem) num rfs root (swO (blw made (ded false kp Wn adr (LRR fl rfs root))) own) half top (coll + 1) mins movd sz2 rw2 pl2 old w2))))) A) args s 0 0 A) (F0 m 110 ls []) := by
          intro adr8 rem8 own8 half8 top8 coll8 mins8 movd8 size8 row8 plc8 old8 a ha hpost w H locs hR hG ls hl
          refine lv_aload_n S.1 S.2.1 dX10_make_110 rfl (lv_at hl 2 rfl) ?_
          refine rg_made S hK hG hR dX10_make_111 ?_
          refine lv_istore (lv' := [(5, .int (nI (made))), (4, .int (nI (a))), (3, .int (nI (n + 1))), (0, .ref (q 0)), (1, .int (nI (j))), (2, .int (nI (n)))]) S.1 S.2.1 dX10_make_114 hl (by decide) rfl (fun ls hl => ?_)
          refine lv_aload_n S.1 S.2.1 dX10_make_116 rfl (lv_at hl 3 rfl) ?_
          refine lv_dup S.1 S.2.1 dX10_make_117 rfl ?_
          refine rg_made S hK hG hR dX10_make_118 ?_
          refine lv_iconst (v := nI (1)) S.1 S.2.1 dX10_make_121 (by decide) ?_
          refine lv_iadd S.1 S.2.1 dX10_make_122 ?_
          refine lv_eqi (nI_add _ _) ?_
          refine rp_made S hK hG hR (made + 1) dX10_make_123 (fun w H locs hR hG => ?_)
          refine lv_aload_n S.1 S.2.1 dX10_make_126 rfl (lv_at hl 3 rfl) ?_
          refine rg_fl S hK hG hR dX10_make_127 ?_
          refine lv_iload S.1 S.2.1 dX10_make_130 (lv_at hl 0 rfl) ?_
          refine lv_iload_n S.1 S.2.1 dX10_make_132 rfl (lv_at hl 5 rfl) ?_
          refine rs_fl S hK hG hR (made) (n) (by omega) dX10_make_133 (fun w H locs hR hG => ?_)
          refine lv_iconst (v := nI (0)) S.1 S.2.1 dX10_make_134 (by decide) ?_
          refine lv_istore (lv' := [(6, .int (nI (0))), (5, .int (nI (made))), (4, .int (nI (a))), (3, .int (nI (n + 1))), (0, .ref (q 0)), (1, .int (nI (j))), (2, .int (nI (n)))]) S.1 S.2.1 dX10_make_135 hl (by decide) rfl (fun ls hl => ?_)
          have LI : ∀ (fu : Nat) (i : Nat), 6 - i < fu → (i ≤ 6) → ∀ (w : mM) (H : Heap) (locs : List Loc), RW cI cZ q 0 kp Wn (made + 1) adr8 (va_up fl made n) rem8 (exI num made i 0) (exI rfs made i none) root own8 half8 top8 coll8 mins8 movd8 size8 row8 plc8 old8 w → mG (dC, dI) vwCl A s.heap w H locs → ∀ ls : Array Slot, lv_has ls 7 [(6, .int (nI (i))), (5, .int (nI (made))), (4, .int (nI (a))), (3, .int (nI (n + 1))), (0, .ref (q 0)), (1, .int (nI (j))), (2, .int (nI (n)))] → W p l e { frames := 4, cells := 0, slots := 0, locals := 88 } s m args below meth c H locs 0 0 (MQ below (mQ (dC, dI) vwCl (tyL cI cZ cT) (fun v w2 => ((inR 16 (nI j) = false ∨ inR 7 (nI n) = false) ∧ v = some (.int (-2)) ∧ RW cI cZ q 0 kp Wn made adr fl rem num rfs root own half top coll mins movd size row plc old w2) ∨ ((inR 16 (nI j) = true ∧ inR 7 (nI n) = true) ∧ made = 2000 ∧ v = some (.int (-4)) ∧ RW cI cZ q 0 kp Wn made adr fl rem num rfs root own half top coll mins movd size row plc old w2) ∨ ∃ (j2 n2 : Nat), j2 < 16 ∧ n2 ≤ 6 ∧ (nI j) = nI j2 ∧ (nI n) = nI n2 ∧ made < 2000 ∧ ((∃ a, fit own Wn 0 (n2 + 1) = some a ∧ v = some (.int (nI made)) ∧ RW cI cZ q 0 kp Wn (made + 1) (va_up adr made (some a)) (va_up fl made n2) rem (ext0 num made 0) (ext0 rfs made none) (va_up root j2 (some made)) (fillO own a (n2 + 1) (some made)) half (top + (n2 + 1)) coll mins movd size row plc old w2) ∨ (fit own Wn 0 (n2 + 1) = none ∧ ∃ (sz2 : Nat) (rw2 : Nat → Nat) (pl2 : Nat → Option Nat), ((∃ a, fit (swO (blw made (ded false kp Wn adr (LRR fl rfs root))) own) Wn 0 (n2 + 1) = some a ∧ v = some (.int (nI made)) ∧ RW cI cZ q 0 kp Wn (made + 1) (va_up (swA (blw made (ded false kp Wn adr (LRR fl rfs root))) adr) made (some a)) (va_up fl made n2) (swR (blw made (ded false kp Wn adr (LRR fl rfs root))) rem) (ext0 num made 0) (ext0 rfs made none) (va_up root j2 (some made)) (fillO (swO (blw made (ded false kp Wn adr (LRR fl rfs root))) own) a (n2 + 1) (some made)) half (top + (n2 + 1)) (coll + 1) mins movd sz2 rw2 pl2 old w2) ∨ (fit (swO (blw made (ded false kp Wn adr (LRR fl rfs root))) own) Wn 0 (n2 + 1) = none ∧ v = some (.int (-4)) ∧ RW cI cZ q 0 kp Wn made (swA (blw made (ded false kp Wn adr (LRR fl rfs root))) adr) fl (swR (blw made (ded false kp Wn adr (LRR fl rfs root))) rem) num rfs root (swO (blw made (ded false kp Wn adr (LRR fl rfs root))) own) half top (coll + 1) mins movd sz2 rw2 pl2 old w2))))) A) args s 0 0 A) (F0 m 137 ls []) := by
            intro fu
            induction fu with
            | zero => intro i h1; exact absurd h1 (Nat.not_lt_zero _)
            | succ fu ihLI =>
              intro i h1 h2 w H locs hR hG ls hl
              refine lv_iload S.1 S.2.1 dX10_make_137 (lv_at hl 0 rfl) ?_
              refine lv_bipush (v := nI (6)) S.1 S.2.1 dX10_make_139 (by decide) ?_
              refine lv_icmp_ge (tgt := 178) S.1 S.2.1 dX10_make_141 (by decide) (fun c4 => ?_) (fun c4 => ?_)
              · have c4 : 6 ≤ i := (nI_leI (a := 6) (b := i) (by omega) (by omega)).mp c4
                have hi : i = 6 := by omega
                subst hi
                have hR := RW_nr hR (exI_6 num made 0) (exI_6 rfs made none)
                have hus : va_up fl made n made = n := by unfold va_up; rw [if_pos rfl]
                refine lv_aload_n S.1 S.2.1 dX10_make_178 rfl (lv_at hl 4 rfl) ?_
                refine lv_iload S.1 S.2.1 dX10_make_179 (lv_at hl 1 rfl) ?_
                refine lv_iload S.1 S.2.1 dX10_make_181 (lv_at hl 2 rfl) ?_
                refine mCV (As := [.int (nI (made)), .int (nI (a))]) (rest := []) S (r_lie hR made a hmd (by rw [hus]; omega)) cal_X10_lie in_440 in_441 in_442 in_5 hK hN hG hR.obj rfl rfl rfl hl.1 (Nat.le_of_ble_eq_true rfl) ⟨by decide, by decide⟩ ⟨rfl, rfl⟩ ⟨by decide, by decide⟩ dX10_make_183 (fun v w H locs hp hG => ?_)
                obtain ⟨rfl, hR⟩ := hp
                rw [hus] at hR
                refine W.eq (g2 := F0 m 186 ls []) rfl ?_
                refine lv_aload_n S.1 S.2.1 dX10_make_186 rfl (lv_at hl 4 rfl) ?_
                refine lv_dup S.1 S.2.1 dX10_make_187 rfl ?_
                refine rg_top S hK hG hR dX10_make_188 ?_
                refine lv_iload_n S.1 S.2.1 dX10_make_191 rfl (lv_at hl 3 rfl) ?_
                refine lv_iadd S.1 S.2.1 dX10_make_192 ?_
                refine lv_eqi (nI_add _ _) ?_
                refine rp_top S hK hG hR (top8 + (n + 1)) dX10_make_193 (fun w H locs hR hG => ?_)
                refine lv_aload_n S.1 S.2.1 dX10_make_196 rfl (lv_at hl 4 rfl) ?_
                refine rg_root S hK hG hR dX10_make_197 ?_
                refine lv_iload_n S.1 S.2.1 dX10_make_200 rfl (lv_at hl 5 rfl) ?_
                refine lv_iload S.1 S.2.1 dX10_make_201 (lv_at hl 1 rfl) ?_
                refine rs_root S hK hG hR (j) (some (made)) (by omega) dX10_make_203 (fun w H locs hR hG => ?_)
                refine lv_iload S.1 S.2.1 dX10_make_204 (lv_at hl 1 rfl) ?_
                exact mw_iret S hr hlk hK hG dX10_make_206 (hpost _ hR)
              · have c4 : ¬ (6 ≤ i) := fun h9 => c4 ((nI_leI (a := 6) (b := i) (by omega) (by omega)).mpr h9)
                refine lv_aload_n S.1 S.2.1 dX10_make_144 rfl (lv_at hl 4 rfl) ?_
                refine rg_num S hK hG hR dX10_make_145 ?_
                refine lv_bipush (v := nI (6)) S.1 S.2.1 dX10_make_148 (by decide) ?_
                refine lv_iload S.1 S.2.1 dX10_make_150 (lv_at hl 1 rfl) ?_
                refine lv_imul S.1 S.2.1 dX10_make_152 ?_
                refine lv_eqi (pk_mul _ _) ?_
                refine lv_iload S.1 S.2.1 dX10_make_153 (lv_at hl 0 rfl) ?_
                refine lv_iadd S.1 S.2.1 dX10_make_155 ?_
                refine lv_eqi (nI_add _ _) ?_
                refine lv_iconst (v := 0) S.1 S.2.1 dX10_make_156 (by decide) ?_
                refine rs_num S hK hG hR (made) (i) (0) (by omega) (by omega) dX10_make_157 (fun w H locs hR hG => ?_)
                refine lv_aload_n S.1 S.2.1 dX10_make_158 rfl (lv_at hl 4 rfl) ?_
                refine rg_rfs S hK hG hR dX10_make_159 ?_
                refine lv_bipush (v := nI (6)) S.1 S.2.1 dX10_make_162 (by decide) ?_
                refine lv_iload S.1 S.2.1 dX10_make_164 (lv_at hl 1 rfl) ?_
                refine lv_imul S.1 S.2.1 dX10_make_166 ?_
                refine lv_eqi (pk_mul _ _) ?_
                refine lv_iload S.1 S.2.1 dX10_make_167 (lv_at hl 0 rfl) ?_
                refine lv_iadd S.1 S.2.1 dX10_make_169 ?_
                refine lv_eqi (nI_add _ _) ?_
                refine lv_iconst (v := -1) S.1 S.2.1 dX10_make_170 (by decide) ?_
                refine rs_rfs S hK hG hR (made) (i) (none) (by omega) (by omega) dX10_make_171 (fun w H locs hR hG => ?_)
                rw [exI_s, exI_s] at hR
                refine lv_iinc (v := nI (i + 1)) (lv' := [(6, .int (nI (i + 1))), (5, .int (nI (made))), (4, .int (nI (a))), (3, .int (nI (n + 1))), (0, .ref (q 0)), (1, .int (nI (j))), (2, .int (nI (n)))]) S.1 S.2.1 dX10_make_172 hl (k := 0) rfl (nI_1 _) (by decide) rfl (fun ls hl => ?_)
                refine lv_goto (tgt := 137) S.1 S.2.1 dX10_make_175 (by decide) ?_
                exact ihLI (i + 1) (by omega) (by omega) _ _ _ hR hG ls (lv_sub hl [0, 1, 2, 3, 4, 5, 6] rfl)
          exact LI (7) 0 (by omega) (by omega) _ _ _ (by rw [exI_0, exI_0]; exact hR) hG ls (lv_sub hl [0, 1, 2, 3, 4, 5, 6] rfl)
        refine lv_iload_n S.1 S.2.1 dX10_make_38 rfl (lv_at hl 2 rfl) ?_
        refine lv_iconst (v := nI (1)) S.1 S.2.1 dX10_make_39 (by decide) ?_
        refine lv_iadd S.1 S.2.1 dX10_make_40 ?_
        refine lv_eqi (nI_add _ _) ?_
        refine lv_istore_n (lv' := [(3, .int (nI (n + 1))), (0, .ref (q 0)), (1, .int (nI (j))), (2, .int (nI (n)))]) S.1 S.2.1 dX10_make_41 rfl hl (by decide) rfl (fun ls hl => ?_)
        refine lv_aload_n S.1 S.2.1 dX10_make_42 rfl (lv_at hl 1 rfl) ?_
        refine lv_iload_n S.1 S.2.1 dX10_make_43 rfl (lv_at hl 0 rfl) ?_
        refine mCV (As := [.int (nI (n + 1))]) (rest := []) S (r_room0 hR hW (n + 1) (by omega) (by omega) hkp hob) cal_X10_room in_388 in_389 in_390 in_5 hK hN hG hR.obj rfl rfl rfl hl.1 (Nat.le_of_ble_eq_true rfl) ⟨by decide, by decide⟩ ⟨rfl, rfl⟩ ⟨by decide, by decide⟩ dX10_make_44 (fun v w H locs hp hG => ?_)
        obtain ⟨rfl, hw9⟩ := hp
        rw [hw9] at hG
        refine W.eq (g2 := F0 m 47 ls [.int (oI (fit own Wn 0 (n + 1)))]) rfl ?_
        cases hrm9 : (fit own Wn 0 (n + 1) : Option Nat) with
        | none =>
          refine W.eq (g2 := F0 m 47 ls [.int (oI none)]) rfl ?_
          refine lv_istore (lv' := [(4, .int (oI none)), (3, .int (nI (n + 1))), (0, .ref (q 0)), (1, .int (nI (j))), (2, .int (nI (n)))]) S.1 S.2.1 dX10_make_47 hl (by decide) rfl (fun ls hl => ?_)
          refine lv_iload S.1 S.2.1 dX10_make_49 (lv_at hl 0 rfl) ?_
          refine lv_iconst (v := -1) S.1 S.2.1 dX10_make_51 (by decide) ?_
          refine lv_icmp_ne (tgt := 101) S.1 S.2.1 dX10_make_52 (by decide) (fun c8 => ?_) (fun c8 => ?_)
          · exact absurd rfl c8
          · refine lv_aload_n S.1 S.2.1 dX10_make_55 rfl (lv_at hl 2 rfl) ?_
            refine rg_kp S hK hG hR dX10_make_56 ?_
            refine lv_iconst (v := nI (2)) S.1 S.2.1 dX10_make_59 (by decide) ?_
            refine lv_icmp_ge (tgt := 71) S.1 S.2.1 dX10_make_60 (by decide) (fun c7 => ?_) (fun c7 => ?_)
            · have c7 : 2 ≤ kp := (nI_leI (a := 2) (b := kp) (by omega) (by omega)).mp c7
              exact absurd c7 (by omega)
            · have c7 : ¬ (2 ≤ kp) := fun h9 => c7 ((nI_leI (a := 2) (b := kp) (by omega) (by omega)).mpr h9)
              refine lv_aload_n S.1 S.2.1 dX10_make_63 rfl (lv_at hl 2 rfl) ?_
              refine mCV (As := []) (rest := []) S (r_cnow0 (Kp := Kp) hB hKm hKf hR hm hW hfl hLay hKr hkp) cal_X10_collectNow in_397 in_398 in_399 in_5 hK hN hG hR.obj rfl rfl rfl hl.1 (Nat.le_of_ble_eq_true rfl) ⟨by decide, by decide⟩ ⟨rfl, rfl⟩ ⟨by decide, by decide⟩ dX10_make_64 (fun v w H locs hp hG => ?_)
              obtain ⟨sz2, rw2, pl2, rfl, hR⟩ := hp
              have hLay2 := Lay_sw hLay (ded false kp Wn adr (LRR fl rfs root))
              have hob2 : ∀ k x, swO (blw made (ded false kp Wn adr (LRR fl rfs root))) own k = some x → x < 2147483648 := fun k x hx => by have := (hLay2.2 k x hx).1; omega
              refine W.eq (g2 := F0 m 67 ls [.int (nI (cnt (ded false kp Wn adr (LRR fl rfs root)) made))]) rfl ?_
              refine lv_pop S.1 S.2.1 dX10_make_67 rfl ?_
              refine lv_goto (tgt := 94) S.1 S.2.1 dX10_make_68 (by decide) ?_
              refine lv_aload_n S.1 S.2.1 dX10_make_94 rfl (lv_at hl 2 rfl) ?_
              refine lv_iload_n S.1 S.2.1 dX10_make_95 rfl (lv_at hl 1 rfl) ?_
              refine mCV (As := [.int (nI (n + 1))]) (rest := []) S (r_room0 hR hW (n + 1) (by omega) (by omega) hkp hob2) cal_X10_room in_388 in_389 in_390 in_5 hK hN hG hR.obj rfl rfl rfl hl.1 (Nat.le_of_ble_eq_true rfl) ⟨by decide, by decide⟩ ⟨rfl, rfl⟩ ⟨by decide, by decide⟩ dX10_make_96 (fun v w H locs hp hG => ?_)
              obtain ⟨rfl, hw9⟩ := hp
              rw [hw9] at hG
              refine W.eq (g2 := F0 m 99 ls [.int (oI (fit (swO (blw made (ded false kp Wn adr (LRR fl rfs root))) own) Wn 0 (n + 1)))]) rfl ?_
              cases hrm8 : (fit (swO (blw made (ded false kp Wn adr (LRR fl rfs root))) own) Wn 0 (n + 1) : Option Nat) with
              | none =>
                refine W.eq (g2 := F0 m 99 ls [.int (oI none)]) rfl ?_
                refine lv_istore (lv' := [(4, .int (oI none)), (3, .int (nI (n + 1))), (0, .ref (q 0)), (1, .int (nI (j))), (2, .int (nI (n)))]) S.1 S.2.1 dX10_make_99 hl (by decide) rfl (fun ls hl => ?_)
                refine lv_iload S.1 S.2.1 dX10_make_101 (lv_at hl 0 rfl) ?_
                refine lv_iconst (v := -1) S.1 S.2.1 dX10_make_103 (by decide) ?_
                refine lv_icmp_ne (tgt := 110) S.1 S.2.1 dX10_make_104 (by decide) (fun c9 => ?_) (fun c9 => ?_)
                · exact absurd rfl c9
                · refine lv_bipush (v := -4) S.1 S.2.1 dX10_make_107 (by decide) ?_
                  exact mw_iret S hr hlk hK hG dX10_make_109 (Or.inr (Or.inr ⟨j, n, hj, by omega, rfl, rfl, hmd, Or.inr ⟨hrm9, sz2, rw2, pl2, Or.inr ⟨hrm8, rfl, hR⟩⟩⟩))
              | some a =>
                refine W.eq (g2 := F0 m 99 ls [.int (nI (a))]) rfl ?_
                have hf9 := fit_ok (by omega) hrm8
                refine lv_istore (lv' := [(4, .int (nI (a))), (3, .int (nI (n + 1))), (0, .ref (q 0)), (1, .int (nI (j))), (2, .int (nI (n)))]) S.1 S.2.1 dX10_make_99 hl (by decide) rfl (fun ls hl => ?_)
                refine lv_iload S.1 S.2.1 dX10_make_101 (lv_at hl 0 rfl) ?_
                refine lv_iconst (v := -1) S.1 S.2.1 dX10_make_103 (by decide) ?_
                refine lv_icmp_ne (tgt := 110) S.1 S.2.1 dX10_make_104 (by decide) (fun c9 => ?_) (fun c9 => ?_)
                · exact TT _ _ _ _ _ _ _ _ _ _ _ _ (a) (by omega) (fun w2 h2 => Or.inr (Or.inr ⟨j, n, hj, by omega, rfl, rfl, hmd, Or.inr ⟨hrm9, sz2, rw2, pl2, Or.inl ⟨a, hrm8, rfl, h2⟩⟩⟩)) _ _ _ hR hG ls (lv_sub hl [0, 1, 2, 3, 4] rfl)
                · exact absurd c9 (nI_m1 (by omega))
        | some a =>
          refine W.eq (g2 := F0 m 47 ls [.int (nI (a))]) rfl ?_
          have hf9 := fit_ok (by omega) hrm9
          refine lv_istore (lv' := [(4, .int (nI (a))), (3, .int (nI (n + 1))), (0, .ref (q 0)), (1, .int (nI (j))), (2, .int (nI (n)))]) S.1 S.2.1 dX10_make_47 hl (by decide) rfl (fun ls hl => ?_)
          refine lv_iload S.1 S.2.1 dX10_make_49 (lv_at hl 0 rfl) ?_
          refine lv_iconst (v := -1) S.1 S.2.1 dX10_make_51 (by decide) ?_
          refine lv_icmp_ne (tgt := 101) S.1 S.2.1 dX10_make_52 (by decide) (fun c8 => ?_) (fun c8 => ?_)
          · refine lv_iload S.1 S.2.1 dX10_make_101 (lv_at hl 0 rfl) ?_
            refine lv_iconst (v := -1) S.1 S.2.1 dX10_make_103 (by decide) ?_
            refine lv_icmp_ne (tgt := 110) S.1 S.2.1 dX10_make_104 (by decide) (fun c9 => ?_) (fun c9 => ?_)
            · exact TT _ _ _ _ _ _ _ _ _ _ _ _ (a) (by omega) (fun w2 h2 => Or.inr (Or.inr ⟨j, n, hj, by omega, rfl, rfl, hmd, Or.inl ⟨a, hrm9, rfl, h2⟩⟩)) _ _ _ hR hG ls (lv_sub hl [0, 1, 2, 3, 4] rfl)
            · exact absurd c9 (nI_m1 (by omega))
          · exact absurd c8 (nI_m1 (by omega))
      · have c3 : made = 2000 := (nI_eq (a := made) (b := 2000) (by omega) (by omega)).mp c3
        refine lv_bipush (v := -4) S.1 S.2.1 dX10_make_35 (by decide) ?_
        exact mw_iret S hr hlk hK hG dX10_make_37 (Or.inr (Or.inl ⟨⟨inR_nI hj (by decide), inR_nI hn (by decide)⟩, c3, rfl, hR⟩))
    · refine lv_bipush (v := -2) S.1 S.2.1 dX10_make_22 (by decide) ?_
      exact mw_iret S hr hlk hK hG dX10_make_24 (Or.inl ⟨Or.inr (bI_f c2), rfl, hR⟩)
set_option maxHeartbeats 4000000 in
set_option maxRecDepth 100000 in
theorem r_make1 {l : Launch} {dC : Nat → ClassId} {dI : Nat → Nat → Nat} {cI cZ cT : ClassId} {q : Nat → Nat} {thr : Int32} {kp : Nat} {Wn : Nat} {made : Nat} {adr : (Nat → Option Nat)} {fl : (Nat → Nat)} {rem : (Nat → Bool)} {num : (Nat → Nat → Int32)} {rfs : (Nat → Nat → Option Nat)} {root : (Nat → Option Nat)} {own : (Nat → Option Nat)} {half : Nat} {top : Nat} {coll : Nat} {mins : Nat} {movd : Nat} {size : Nat} {row : (Nat → Nat)} {plc : (Nat → Option Nat)} {old : (Nat → Option Nat)} {Kp : Nat → Prop} (hB : ∀ M : List Nat, M.Nodup → (∀ x ∈ M, Kp x) → M.length ≤ 400) (hKm : ∀ x, Kp x → x < made ∧ ∃ a, adr x = some a) (hKf : ∀ x, Kp x → ∀ i, i < fl x → ∀ t, rfs x i = some t → Kp t) {w : mM} (hR : RW cI cZ q thr kp Wn made adr fl rem num rfs root own half top coll mins movd size row plc old w) (hm : made ≤ 2000) (hW : Wn ≤ 400) (hfl : ∀ x, x < made → fl x ≤ 6) (hLay : Lay made Wn fl adr own) (hKr : ∀ i, i < 16 → ∀ t, root i = some t → Kp t) (hkp : kp = 1) (hh : half ≤ 1) (ht : top ≤ 1000) (hcap : szL fl 0 (LRR fl rfs root) ≤ Wn / 2) (x y : Int32) : mC l yX10_make (wsY yX10_make cX10_make 7 (some .int)) { frames := 5, cells := 0, slots := 0, locals := 110 } (dC, dI) vwCl (tyL cI cZ cT) 0 0 w [.ref (q 0), .int (x), .int (y)] (fun v w2 => ((inR 16 x = false ∨ inR 7 y = false) ∧ v = some (.int (-2)) ∧ RW cI cZ q 0 kp Wn made adr fl rem num rfs root own half top coll mins movd size row plc old w2) ∨ ((inR 16 x = true ∧ inR 7 y = true) ∧ made = 2000 ∧ v = some (.int (-4)) ∧ RW cI cZ q 0 kp Wn made adr fl rem num rfs root own half top coll mins movd size row plc old w2) ∨ ∃ (j2 n2 : Nat), j2 < 16 ∧ n2 ≤ 6 ∧ x = nI j2 ∧ y = nI n2 ∧ made < 2000 ∧ ((top + (n2 + 1) ≤ (half + 1) * (Wn / 2) ∧ v = some (.int (nI made)) ∧ RW cI cZ q 0 kp Wn (made + 1) (va_up adr made (some top)) (va_up fl made n2) rem (ext0 num made 0) (ext0 rfs made none) (va_up root j2 (some made)) (fillO own top (n2 + 1) (some made)) half (top + (n2 + 1)) coll mins movd size row plc old w2) ∨ (¬ top + (n2 + 1) ≤ (half + 1) * (Wn / 2) ∧ ∃ (sz2 : Nat) (rw2 : Nat → Nat) (pl2 : Nat → Option Nat), ((((LRR fl rfs root).foldl (plR fl) ((1 - half) * (Wn / 2), swA (blw made (ded false kp Wn adr (LRR fl rfs root))) adr, fun _ => none)).1 + (n2 + 1) ≤ (1 - half + 1) * (Wn / 2) ∧ v = some (.int (nI made)) ∧ RW cI cZ q 0 kp Wn (made + 1) (va_up (((LRR fl rfs root).foldl (plR fl) ((1 - half) * (Wn / 2), swA (blw made (ded false kp Wn adr (LRR fl rfs root))) adr, fun _ => none)).2.1) made (some ((LRR fl rfs root).foldl (plR fl) ((1 - half) * (Wn / 2), swA (blw made (ded false kp Wn adr (LRR fl rfs root))) adr, fun _ => none)).1)) (va_up fl made n2) (swR (blw made (ded false kp Wn adr (LRR fl rfs root))) rem) (ext0 num made 0) (ext0 rfs made none) (va_up root j2 (some made)) (fillO (((LRR fl rfs root).foldl (plR fl) ((1 - half) * (Wn / 2), swA (blw made (ded false kp Wn adr (LRR fl rfs root))) adr, fun _ => none)).2.2) ((LRR fl rfs root).foldl (plR fl) ((1 - half) * (Wn / 2), swA (blw made (ded false kp Wn adr (LRR fl rfs root))) adr, fun _ => none)).1 (n2 + 1) (some made)) (1 - half) ((((LRR fl rfs root).foldl (plR fl) ((1 - half) * (Wn / 2), swA (blw made (ded false kp Wn adr (LRR fl rfs root))) adr, fun _ => none)).1) + (n2 + 1)) (coll + 1) mins (movd + (LRR fl rfs root).length) sz2 rw2 pl2 old w2) ∨ (¬ ((LRR fl rfs root).foldl (plR fl) ((1 - half) * (Wn / 2), swA (blw made (ded false kp Wn adr (LRR fl rfs root))) adr, fun _ => none)).1 + (n2 + 1) ≤ (1 - half + 1) * (Wn / 2) ∧ v = some (.int (-4)) ∧ RW cI cZ q 0 kp Wn made (((LRR fl rfs root).foldl (plR fl) ((1 - half) * (Wn / 2), swA (blw made (ded false kp Wn adr (LRR fl rfs root))) adr, fun _ => none)).2.1) fl (swR (blw made (ded false kp Wn adr (LRR fl rfs root))) rem) num rfs root (((LRR fl rfs root).foldl (plR fl) ((1 - half) * (Wn / 2), swA (blw made (ded false kp Wn adr (LRR fl rfs root))) adr, fun _ => none)).2.2) (1 - half) (((LRR fl rfs root).foldl (plR fl) ((1 - half) * (Wn / 2), swA (blw made (ded false kp Wn adr (LRR fl rfs root))) adr, fun _ => none)).1) (coll + 1) mins (movd + (LRR fl rfs root).length) sz2 rw2 pl2 old w2))))) := by
  refine mC.on (by decide) (Nat.le_of_ble_eq_true rfl) ?_
  intro p e s m args below meth c ls S hr hlk hnm hK hN hG hl
  have hl : lv_has ls 7 [(0, .ref (q 0)), (1, .int (x)), (2, .int (y))] := hl
  generalize hAe : mA w s.heap.size = A at hG ⊢
  have hob : ∀ k x, own k = some x → x < 2147483648 := fun k x hx => by have := (hLay.2 k x hx).1; omega
  refine lv_aload_n S.1 S.2.1 dX10_make_0 rfl (lv_at hl 0 rfl) ?_
  refine lv_iconst (v := 0) S.1 S.2.1 dX10_make_1 (by decide) ?_
  refine rp_thr S hK hG hR (0) dX10_make_2 (fun w H locs hR hG => ?_)
  refine lv_iload_n S.1 S.2.1 dX10_make_5 rfl (lv_at hl 1 rfl) ?_
  refine mCS (As := [.int (x)]) (rest := []) S (r_isRoot x) cal_X10_isRoot rfl in_382 in_383 in_5 hK hN hG rfl rfl hl.1 (Nat.le_of_ble_eq_true rfl) ⟨by decide, by decide⟩ ⟨rfl, rfl⟩ ⟨by decide, by decide⟩ dX10_make_6 (fun v w H locs hp hG => ?_)
  obtain ⟨rfl, hw9⟩ := hp
  rw [hw9] at hG
  refine W.eq (g2 := F0 m 9 ls [.int (bI (inR 16 x))]) rfl ?_
  refine lv_if_eq (tgt := 22) S.1 S.2.1 dX10_make_9 (by decide) (fun c1 => ?_) (fun c1 => ?_)
  · refine lv_bipush (v := -2) S.1 S.2.1 dX10_make_22 (by decide) ?_
    exact mw_iret S hr hlk hK hG dX10_make_24 (Or.inl ⟨Or.inl (bI_f c1), rfl, hR⟩)
  · obtain ⟨j, hj, rfl⟩ := inR_ex (by decide) (bI_t c1)
    refine lv_iload_n S.1 S.2.1 dX10_make_12 rfl (lv_at hl 2 rfl) ?_
    refine lv_iconst (v := nI (0)) S.1 S.2.1 dX10_make_13 (by decide) ?_
    refine lv_bipush (v := nI (6)) S.1 S.2.1 dX10_make_14 (by decide) ?_
    refine mCS (As := [.int (y), .int (nI (0)), .int (nI (6))]) (rest := []) S (r_in y 6 (by decide)) cal_X10_in rfl in_385 in_386 in_5 hK hN hG rfl rfl hl.1 (Nat.le_of_ble_eq_true rfl) ⟨by decide, by decide⟩ ⟨rfl, rfl⟩ ⟨by decide, by decide⟩ dX10_make_16 (fun v w H locs hp hG => ?_)
    obtain ⟨rfl, hw9⟩ := hp
    rw [hw9] at hG
    refine W.eq (g2 := F0 m 19 ls [.int (bI (inR 7 y))]) rfl ?_
    refine lv_if_ne (tgt := 25) S.1 S.2.1 dX10_make_19 (by decide) (fun c2 => ?_) (fun c2 => ?_)
    · obtain ⟨n, hn, rfl⟩ := inR_ex (by decide) (bI_t c2)
      refine lv_aload_n S.1 S.2.1 dX10_make_25 rfl (lv_at hl 0 rfl) ?_
      refine rg_made S hK hG hR dX10_make_26 ?_
      refine lv_sipush (v := nI (2000)) S.1 S.2.1 dX10_make_29 (by decide) ?_
      refine lv_icmp_ne (tgt := 38) S.1 S.2.1 dX10_make_32 (by decide) (fun c3 => ?_) (fun c3 => ?_)
      · have c3 : ¬ (made = 2000) := fun h9 => c3 ((nI_eq (a := made) (b := 2000) (by omega) (by omega)).mpr h9)
        have hmd : made < 2000 := by omega
        have TT : ∀ (adr8 : (Nat → Option Nat)) (rem8 : (Nat → Bool)) (own8 : (Nat → Option Nat)) (half8 : Nat) (top8 : Nat) (coll8 : Nat) (mins8 : Nat) (movd8 : Nat) (size8 : Nat) (row8 : (Nat → Nat)) (plc8 : (Nat → Option Nat)) (old8 : (Nat → Option Nat)) (a : Nat), (a + n < 400) → (∀ w2, RW cI cZ q 0 kp Wn (made + 1) (va_up adr8 made (some a)) (va_up fl made n) rem8 (ext0 num made 0) (ext0 rfs made none) (va_up root j (some made)) (fillO own8 a (n + 1) (some made)) half8 (top8 + (n + 1)) coll8 mins8 movd8 size8 row8 plc8 old8 w2 → ((fun v w2 => ((inR 16 (nI j) = false ∨ inR 7 (nI n) = false) ∧ v = some (.int (-2)) ∧ RW cI cZ q 0 kp Wn made adr fl rem num rfs root own half top coll mins movd size row plc old w2) ∨ ((inR 16 (nI j) = true ∧ inR 7 (nI n) = true) ∧ made = 2000 ∧ v = some (.int (-4)) ∧ RW cI cZ q 0 kp Wn made adr fl rem num rfs root own half top coll mins movd size row plc old w2) ∨ ∃ (j2 n2 : Nat), j2 < 16 ∧ n2 ≤ 6 ∧ (nI j) = nI j2 ∧ (nI n) = nI n2 ∧ made < 2000 ∧ ((top + (n2 + 1) ≤ (half + 1) * (Wn / 2) ∧ v = some (.int (nI made)) ∧ RW cI cZ q 0 kp Wn (made + 1) (va_up adr made (some top)) (va_up fl made n2) rem (ext0 num made 0) (ext0 rfs made none) (va_up root j2 (some made)) (fillO own top (n2 + 1) (some made)) half (top + (n2 + 1)) coll mins movd size row plc old w2) ∨ (¬ top + (n2 + 1) ≤ (half + 1) * (Wn / 2) ∧ ∃ (sz2 : Nat) (rw2 : Nat → Nat) (pl2 : Nat → Option Nat), ((((LRR fl rfs root).foldl (plR fl) ((1 - half) * (Wn / 2), swA (blw made (ded false kp Wn adr (LRR fl rfs root))) adr, fun _ => none)).1 + (n2 + 1) ≤ (1 - half + 1) * (Wn / 2) ∧ v = some (.int (nI made)) ∧ RW cI cZ q 0 kp Wn (made + 1) (va_up (((LRR fl rfs root).foldl (plR fl) ((1 - half) * (Wn / 2), swA (blw made (ded false kp Wn adr (LRR fl rfs root))) adr, fun _ => none)).2.1) made (some ((LRR fl rfs root).foldl (plR fl) ((1 - half) * (Wn / 2), swA (blw made (ded false kp Wn adr (LRR fl rfs root))) adr, fun _ => none)).1)) (va_up fl made n2) (swR (blw made (ded false kp Wn adr (LRR fl rfs root))) rem) (ext0 num made 0) (ext0 rfs made none) (va_up root j2 (some made)) (fillO (((LRR fl rfs root).foldl (plR fl) ((1 - half) * (Wn / 2), swA (blw made (ded false kp Wn adr (LRR fl rfs root))) adr, fun _ => none)).2.2) ((LRR fl rfs root).foldl (plR fl) ((1 - half) * (Wn / 2), swA (blw made (ded false kp Wn adr (LRR fl rfs root))) adr, fun _ => none)).1 (n2 + 1) (some made)) (1 - half) ((((LRR fl rfs root).foldl (plR fl) ((1 - half) * (Wn / 2), swA (blw made (ded false kp Wn adr (LRR fl rfs root))) adr, fun _ => none)).1) + (n2 + 1)) (coll + 1) mins (movd + (LRR fl rfs root).length) sz2 rw2 pl2 old w2) ∨ (¬ ((LRR fl rfs root).foldl (plR fl) ((1 - half) * (Wn / 2), swA (blw made (ded false kp Wn adr (LRR fl rfs root))) adr, fun _ => none)).1 + (n2 + 1) ≤ (1 - half + 1) * (Wn / 2) ∧ v = some (.int (-4)) ∧ RW cI cZ q 0 kp Wn made (((LRR fl rfs root).foldl (plR fl) ((1 - half) * (Wn / 2), swA (blw made (ded false kp Wn adr (LRR fl rfs root))) adr, fun _ => none)).2.1) fl (swR (blw made (ded false kp Wn adr (LRR fl rfs root))) rem) num rfs root (((LRR fl rfs root).foldl (plR fl) ((1 - half) * (Wn / 2), swA (blw made (ded false kp Wn adr (LRR fl rfs root))) adr, fun _ => none)).2.2) (1 - half) (((LRR fl rfs root).foldl (plR fl) ((1 - half) * (Wn / 2), swA (blw made (ded false kp Wn adr (LRR fl rfs root))) adr, fun _ => none)).1) (coll + 1) mins (movd + (LRR fl rfs root).length) sz2 rw2 pl2 old w2))))) : Option Value → mM → Prop) (some (.int (nI made))) w2) → ∀ (w : mM) (H : Heap) (locs : List Loc), RW cI cZ q 0 kp Wn made adr8 fl rem8 num rfs root own8 half8 top8 coll8 mins8 movd8 size8 row8 plc8 old8 w → mG (dC, dI) vwCl A s.heap w H locs → ∀ ls : Array Slot, lv_has ls 7 [(4, .int (nI (a))), (3, .int (nI (n + 1))), (0, .ref (q 0)), (1, .int (nI (j))), (2, .int (nI (n)))] → W p l e { frames := 5, cells := 0, slots := 0, locals := 110 } s m args below meth c H locs 0 0 (MQ below (mQ (dC, dI) vwCl (tyL cI cZ cT) (fun v w2 => ((inR 16 (nI j) = false ∨ inR 7 (nI n) = false) ∧ v = some (.int (-2)) ∧ RW cI cZ q 0 kp Wn made adr fl rem num rfs root own half top coll mins movd size row plc old w2) ∨ ((inR 16 (nI j) = true ∧ inR 7 (nI n) = true) ∧ made = 2000 ∧ v = some (.int (-4)) ∧ RW cI cZ q 0 kp Wn made adr fl rem num rfs root own half top coll mins movd size row plc old w2) ∨ ∃ (j2 n2 : Nat), j2 < 16 ∧ n2 ≤ 6 ∧ (nI j) = nI j2 ∧ (nI n) = nI n2 ∧ made < 2000 ∧ ((top + (n2 + 1) ≤ (half + 1) * (Wn / 2) ∧ v = some (.int (nI made)) ∧ RW cI cZ q 0 kp Wn (made + 1) (va_up adr made (some top)) (va_up fl made n2) rem (ext0 num made 0) (ext0 rfs made none) (va_up root j2 (some made)) (fillO own top (n2 + 1) (some made)) half (top + (n2 + 1)) coll mins movd size row plc old w2) ∨ (¬ top + (n2 + 1) ≤ (half + 1) * (Wn / 2) ∧ ∃ (sz2 : Nat) (rw2 : Nat → Nat) (pl2 : Nat → Option Nat), ((((LRR fl rfs root).foldl (plR fl) ((1 - half) * (Wn / 2), swA (blw made (ded false kp Wn adr (LRR fl rfs root))) adr, fun _ => none)).1 + (n2 + 1) ≤ (1 - half + 1) * (Wn / 2) ∧ v = some (.int (nI made)) ∧ RW cI cZ q 0 kp Wn (made + 1) (va_up (((LRR fl rfs root).foldl (plR fl) ((1 - half) * (Wn / 2), swA (blw made (ded false kp Wn adr (LRR fl rfs root))) adr, fun _ => none)).2.1) made (some ((LRR fl rfs root).foldl (plR fl) ((1 - half) * (Wn / 2), swA (blw made (ded false kp Wn adr (LRR fl rfs root))) adr, fun _ => none)).1)) (va_up fl made n2) (swR (blw made (ded false kp Wn adr (LRR fl rfs root))) rem) (ext0 num made 0) (ext0 rfs made none) (va_up root j2 (some made)) (fillO (((LRR fl rfs root).foldl (plR fl) ((1 - half) * (Wn / 2), swA (blw made (ded false kp Wn adr (LRR fl rfs root))) adr, fun _ => none)).2.2) ((LRR fl rfs root).foldl (plR fl) ((1 - half) * (Wn / 2), swA (blw made (ded false kp Wn adr (LRR fl rfs root))) adr, fun _ => none)).1 (n2 + 1) (some made)) (1 - half) ((((LRR fl rfs root).foldl (plR fl) ((1 - half) * (Wn / 2), swA (blw made (ded false kp Wn adr (LRR fl rfs root))) adr, fun _ => none)).1) + (n2 + 1)) (coll + 1) mins (movd + (LRR fl rfs root).length) sz2 rw2 pl2 old w2) ∨ (¬ ((LRR fl rfs root).foldl (plR fl) ((1 - half) * (Wn / 2), swA (blw made (ded false kp Wn adr (LRR fl rfs root))) adr, fun _ => none)).1 + (n2 + 1) ≤ (1 - half + 1) * (Wn / 2) ∧ v = some (.int (-4)) ∧ RW cI cZ q 0 kp Wn made (((LRR fl rfs root).foldl (plR fl) ((1 - half) * (Wn / 2), swA (blw made (ded false kp Wn adr (LRR fl rfs root))) adr, fun _ => none)).2.1) fl (swR (blw made (ded false kp Wn adr (LRR fl rfs root))) rem) num rfs root (((LRR fl rfs root).foldl (plR fl) ((1 - half) * (Wn / 2), swA (blw made (ded false kp Wn adr (LRR fl rfs root))) adr, fun _ => none)).2.2) (1 - half) (((LRR fl rfs root).foldl (plR fl) ((1 - half) * (Wn / 2), swA (blw made (ded false kp Wn adr (LRR fl rfs root))) adr, fun _ => none)).1) (coll + 1) mins (movd + (LRR fl rfs root).length) sz2 rw2 pl2 old w2))))) A) args s 0 0 A) (F0 m 110 ls []) := by
          intro adr8 rem8 own8 half8 top8 coll8 mins8 movd8 size8 row8 plc8 old8 a ha hpost w H locs hR hG ls hl
          refine lv_aload_n S.1 S.2.1 dX10_make_110 rfl (lv_at hl 2 rfl) ?_
          refine rg_made S hK hG hR dX10_make_111 ?_
          refine lv_istore (lv' := [(5, .int (nI (made))), (4, .int (nI (a))), (3, .int (nI (n + 1))), (0, .ref (q 0)), (1, .int (nI (j))), (2, .int (nI (n)))]) S.1 S.2.1 dX10_make_114 hl (by decide) rfl (fun ls hl => ?_)
          refine lv_aload_n S.1 S.2.1 dX10_make_116 rfl (lv_at hl 3 rfl) ?_
          refine lv_dup S.1 S.2.1 dX10_make_117 rfl ?_
          refine rg_made S hK hG hR dX10_make_118 ?_
          refine lv_iconst (v := nI (1)) S.1 S.2.1 dX10_make_121 (by decide) ?_
          refine lv_iadd S.1 S.2.1 dX10_make_122 ?_
          refine lv_eqi (nI_add _ _) ?_
          refine rp_made S hK hG hR (made + 1) dX10_make_123 (fun w H locs hR hG => ?_)
          refine lv_aload_n S.1 S.2.1 dX10_make_126 rfl (lv_at hl 3 rfl) ?_
          refine rg_fl S hK hG hR dX10_make_127 ?_
          refine lv_iload S.1 S.2.1 dX10_make_130 (lv_at hl 0 rfl) ?_
          refine lv_iload_n S.1 S.2.1 dX10_make_132 rfl (lv_at hl 5 rfl) ?_
          refine rs_fl S hK hG hR (made) (n) (by omega) dX10_make_133 (fun w H locs hR hG => ?_)
          refine lv_iconst (v := nI (0)) S.1 S.2.1 dX10_make_134 (by decide) ?_
          refine lv_istore (lv' := [(6, .int (nI (0))), (5, .int (nI (made))), (4, .int (nI (a))), (3, .int (nI (n + 1))), (0, .ref (q 0)), (1, .int (nI (j))), (2, .int (nI (n)))]) S.1 S.2.1 dX10_make_135 hl (by decide) rfl (fun ls hl => ?_)
          have LI : ∀ (fu : Nat) (i : Nat), 6 - i < fu → (i ≤ 6) → ∀ (w : mM) (H : Heap) (locs : List Loc), RW cI cZ q 0 kp Wn (made + 1) adr8 (va_up fl made n) rem8 (exI num made i 0) (exI rfs made i none) root own8 half8 top8 coll8 mins8 movd8 size8 row8 plc8 old8 w → mG (dC, dI) vwCl A s.heap w H locs → ∀ ls : Array Slot, lv_has ls 7 [(6, .int (nI (i))), (5, .int (nI (made))), (4, .int (nI (a))), (3, .int (nI (n + 1))), (0, .ref (q 0)), (1, .int (nI (j))), (2, .int (nI (n)))] → W p l e { frames := 5, cells := 0, slots := 0, locals := 110 } s m args below meth c H locs 0 0 (MQ below (mQ (dC, dI) vwCl (tyL cI cZ cT) (fun v w2 => ((inR 16 (nI j) = false ∨ inR 7 (nI n) = false) ∧ v = some (.int (-2)) ∧ RW cI cZ q 0 kp Wn made adr fl rem num rfs root own half top coll mins movd size row plc old w2) ∨ ((inR 16 (nI j) = true ∧ inR 7 (nI n) = true) ∧ made = 2000 ∧ v = some (.int (-4)) ∧ RW cI cZ q 0 kp Wn made adr fl rem num rfs root own half top coll mins movd size row plc old w2) ∨ ∃ (j2 n2 : Nat), j2 < 16 ∧ n2 ≤ 6 ∧ (nI j) = nI j2 ∧ (nI n) = nI n2 ∧ made < 2000 ∧ ((top + (n2 + 1) ≤ (half + 1) * (Wn / 2) ∧ v = some (.int (nI made)) ∧ RW cI cZ q 0 kp Wn (made + 1) (va_up adr made (some top)) (va_up fl made n2) rem (ext0 num made 0) (ext0 rfs made none) (va_up root j2 (some made)) (fillO own top (n2 + 1) (some made)) half (top + (n2 + 1)) coll mins movd size row plc old w2) ∨ (¬ top + (n2 + 1) ≤ (half + 1) * (Wn / 2) ∧ ∃ (sz2 : Nat) (rw2 : Nat → Nat) (pl2 : Nat → Option Nat), ((((LRR fl rfs root).foldl (plR fl) ((1 - half) * (Wn / 2), swA (blw made (ded false kp Wn adr (LRR fl rfs root))) adr, fun _ => none)).1 + (n2 + 1) ≤ (1 - half + 1) * (Wn / 2) ∧ v = some (.int (nI made)) ∧ RW cI cZ q 0 kp Wn (made + 1) (va_up (((LRR fl rfs root).foldl (plR fl) ((1 - half) * (Wn / 2), swA (blw made (ded false kp Wn adr (LRR fl rfs root))) adr, fun _ => none)).2.1) made (some ((LRR fl rfs root).foldl (plR fl) ((1 - half) * (Wn / 2), swA (blw made (ded false kp Wn adr (LRR fl rfs root))) adr, fun _ => none)).1)) (va_up fl made n2) (swR (blw made (ded false kp Wn adr (LRR fl rfs root))) rem) (ext0 num made 0) (ext0 rfs made none) (va_up root j2 (some made)) (fillO (((LRR fl rfs root).foldl (plR fl) ((1 - half) * (Wn / 2), swA (blw made (ded false kp Wn adr (LRR fl rfs root))) adr, fun _ => none)).2.2) ((LRR fl rfs root).foldl (plR fl) ((1 - half) * (Wn / 2), swA (blw made (ded false kp Wn adr (LRR fl rfs root))) adr, fun _ => none)).1 (n2 + 1) (some made)) (1 - half) ((((LRR fl rfs root).foldl (plR fl) ((1 - half) * (Wn / 2), swA (blw made (ded false kp Wn adr (LRR fl rfs root))) adr, fun _ => none)).1) + (n2 + 1)) (coll + 1) mins (movd + (LRR fl rfs root).length) sz2 rw2 pl2 old w2) ∨ (¬ ((LRR fl rfs root).foldl (plR fl) ((1 - half) * (Wn / 2), swA (blw made (ded false kp Wn adr (LRR fl rfs root))) adr, fun _ => none)).1 + (n2 + 1) ≤ (1 - half + 1) * (Wn / 2) ∧ v = some (.int (-4)) ∧ RW cI cZ q 0 kp Wn made (((LRR fl rfs root).foldl (plR fl) ((1 - half) * (Wn / 2), swA (blw made (ded false kp Wn adr (LRR fl rfs root))) adr, fun _ => none)).2.1) fl (swR (blw made (ded false kp Wn adr (LRR fl rfs root))) rem) num rfs root (((LRR fl rfs root).foldl (plR fl) ((1 - half) * (Wn / 2), swA (blw made (ded false kp Wn adr (LRR fl rfs root))) adr, fun _ => none)).2.2) (1 - half) (((LRR fl rfs root).foldl (plR fl) ((1 - half) * (Wn / 2), swA (blw made (ded false kp Wn adr (LRR fl rfs root))) adr, fun _ => none)).1) (coll + 1) mins (movd + (LRR fl rfs root).length) sz2 rw2 pl2 old w2))))) A) args s 0 0 A) (F0 m 137 ls []) := by
            intro fu
            induction fu with
            | zero => intro i h1; exact absurd h1 (Nat.not_lt_zero _)
            | succ fu ihLI =>
              intro i h1 h2 w H locs hR hG ls hl
              refine lv_iload S.1 S.2.1 dX10_make_137 (lv_at hl 0 rfl) ?_
              refine lv_bipush (v := nI (6)) S.1 S.2.1 dX10_make_139 (by decide) ?_
              refine lv_icmp_ge (tgt := 178) S.1 S.2.1 dX10_make_141 (by decide) (fun c4 => ?_) (fun c4 => ?_)
              · have c4 : 6 ≤ i := (nI_leI (a := 6) (b := i) (by omega) (by omega)).mp c4
                have hi : i = 6 := by omega
                subst hi
                have hR := RW_nr hR (exI_6 num made 0) (exI_6 rfs made none)
                have hus : va_up fl made n made = n := by unfold va_up; rw [if_pos rfl]
                refine lv_aload_n S.1 S.2.1 dX10_make_178 rfl (lv_at hl 4 rfl) ?_
                refine lv_iload S.1 S.2.1 dX10_make_179 (lv_at hl 1 rfl) ?_
                refine lv_iload S.1 S.2.1 dX10_make_181 (lv_at hl 2 rfl) ?_
                refine mCV (As := [.int (nI (made)), .int (nI (a))]) (rest := []) S (r_lie hR made a hmd (by rw [hus]; omega)) cal_X10_lie in_440 in_441 in_442 in_5 hK hN hG hR.obj rfl rfl rfl hl.1 (Nat.le_of_ble_eq_true rfl) ⟨by decide, by decide⟩ ⟨rfl, rfl⟩ ⟨by decide, by decide⟩ dX10_make_183 (fun v w H locs hp hG => ?_)
                obtain ⟨rfl, hR⟩ := hp
                rw [hus] at hR
                refine W.eq (g2 := F0 m 186 ls []) rfl ?_
                refine lv_aload_n S.1 S.2.1 dX10_make_186 rfl (lv_at hl 4 rfl) ?_
                refine lv_dup S.1 S.2.1 dX10_make_187 rfl ?_
                refine rg_top S hK hG hR dX10_make_188 ?_
                refine lv_iload_n S.1 S.2.1 dX10_make_191 rfl (lv_at hl 3 rfl) ?_
                refine lv_iadd S.1 S.2.1 dX10_make_192 ?_
                refine lv_eqi (nI_add _ _) ?_
                refine rp_top S hK hG hR (top8 + (n + 1)) dX10_make_193 (fun w H locs hR hG => ?_)
                refine lv_aload_n S.1 S.2.1 dX10_make_196 rfl (lv_at hl 4 rfl) ?_
                refine rg_root S hK hG hR dX10_make_197 ?_
                refine lv_iload_n S.1 S.2.1 dX10_make_200 rfl (lv_at hl 5 rfl) ?_
                refine lv_iload S.1 S.2.1 dX10_make_201 (lv_at hl 1 rfl) ?_
                refine rs_root S hK hG hR (j) (some (made)) (by omega) dX10_make_203 (fun w H locs hR hG => ?_)
                refine lv_iload S.1 S.2.1 dX10_make_204 (lv_at hl 1 rfl) ?_
                exact mw_iret S hr hlk hK hG dX10_make_206 (hpost _ hR)
              · have c4 : ¬ (6 ≤ i) := fun h9 => c4 ((nI_leI (a := 6) (b := i) (by omega) (by omega)).mpr h9)
                refine lv_aload_n S.1 S.2.1 dX10_make_144 rfl (lv_at hl 4 rfl) ?_
                refine rg_num S hK hG hR dX10_make_145 ?_
                refine lv_bipush (v := nI (6)) S.1 S.2.1 dX10_make_148 (by decide) ?_
                refine lv_iload S.1 S.2.1 dX10_make_150 (lv_at hl 1 rfl) ?_
                refine lv_imul S.1 S.2.1 dX10_make_152 ?_
                refine lv_eqi (pk_mul _ _) ?_
                refine lv_iload S.1 S.2.1 dX10_make_153 (lv_at hl 0 rfl) ?_
                refine lv_iadd S.1 S.2.1 dX10_make_155 ?_
                refine lv_eqi (nI_add _ _) ?_
                refine lv_iconst (v := 0) S.1 S.2.1 dX10_make_156 (by decide) ?_
                refine rs_num S hK hG hR (made) (i) (0) (by omega) (by omega) dX10_make_157 (fun w H locs hR hG => ?_)
                refine lv_aload_n S.1 S.2.1 dX10_make_158 rfl (lv_at hl 4 rfl) ?_
                refine rg_rfs S hK hG hR dX10_make_159 ?_
                refine lv_bipush (v := nI (6)) S.1 S.2.1 dX10_make_162 (by decide) ?_
                refine lv_iload S.1 S.2.1 dX10_make_164 (lv_at hl 1 rfl) ?_
                refine lv_imul S.1 S.2.1 dX10_make_166 ?_
                refine lv_eqi (pk_mul _ _) ?_
                refine lv_iload S.1 S.2.1 dX10_make_167 (lv_at hl 0 rfl) ?_
                refine lv_iadd S.1 S.2.1 dX10_make_169 ?_
                refine lv_eqi (nI_add _ _) ?_
                refine lv_iconst (v := -1) S.1 S.2.1 dX10_make_170 (by decide) ?_
                refine rs_rfs S hK hG hR (made) (i) (none) (by omega) (by omega) dX10_make_171 (fun w H locs hR hG => ?_)
                rw [exI_s, exI_s] at hR
                refine lv_iinc (v := nI (i + 1)) (lv' := [(6, .int (nI (i + 1))), (5, .int (nI (made))), (4, .int (nI (a))), (3, .int (nI (n + 1))), (0, .ref (q 0)), (1, .int (nI (j))), (2, .int (nI (n)))]) S.1 S.2.1 dX10_make_172 hl (k := 0) rfl (nI_1 _) (by decide) rfl (fun ls hl => ?_)
                refine lv_goto (tgt := 137) S.1 S.2.1 dX10_make_175 (by decide) ?_
                exact ihLI (i + 1) (by omega) (by omega) _ _ _ hR hG ls (lv_sub hl [0, 1, 2, 3, 4, 5, 6] rfl)
          exact LI (7) 0 (by omega) (by omega) _ _ _ (by rw [exI_0, exI_0]; exact hR) hG ls (lv_sub hl [0, 1, 2, 3, 4, 5, 6] rfl)
        refine lv_iload_n S.1 S.2.1 dX10_make_38 rfl (lv_at hl 2 rfl) ?_
        refine lv_iconst (v := nI (1)) S.1 S.2.1 dX10_make_39 (by decide) ?_
        refine lv_iadd S.1 S.2.1 dX10_make_40 ?_
        refine lv_eqi (nI_add _ _) ?_
        refine lv_istore_n (lv' := [(3, .int (nI (n + 1))), (0, .ref (q 0)), (1, .int (nI (j))), (2, .int (nI (n)))]) S.1 S.2.1 dX10_make_41 rfl hl (by decide) rfl (fun ls hl => ?_)
        refine lv_aload_n S.1 S.2.1 dX10_make_42 rfl (lv_at hl 1 rfl) ?_
        refine lv_iload_n S.1 S.2.1 dX10_make_43 rfl (lv_at hl 0 rfl) ?_
        have hh2 : (half + 1) * (Wn / 2) ≤ 2 * (Wn / 2) := Nat.mul_le_mul_right _ (by omega)
        refine mCV (As := [.int (nI (n + 1))]) (rest := []) S (r_room1 hR hW (n + 1) (by omega) (by omega) hkp hh ht) cal_X10_room in_388 in_389 in_390 in_5 hK hN hG hR.obj rfl rfl rfl hl.1 (Nat.le_of_ble_eq_true rfl) ⟨by decide, by decide⟩ ⟨rfl, rfl⟩ ⟨by decide, by decide⟩ dX10_make_44 (fun v w H locs hp hG => ?_)
        obtain ⟨rfl, hw9⟩ := hp
        rw [hw9] at hG
        refine W.eq (g2 := F0 m 47 ls [.int (oI (if top + (n + 1) ≤ (half + 1) * (Wn / 2) then some top else none))]) rfl ?_
        cases hrm9 : (if top + (n + 1) ≤ (half + 1) * (Wn / 2) then some top else none : Option Nat) with
        | none =>
          refine W.eq (g2 := F0 m 47 ls [.int (oI none)]) rfl ?_
          have hz8 : ¬ top + (n + 1) ≤ (half + 1) * (Wn / 2) := fun z => by
            rw [if_pos z] at hrm9
            cases hrm9
          refine lv_istore (lv' := [(4, .int (oI none)), (3, .int (nI (n + 1))), (0, .ref (q 0)), (1, .int (nI (j))), (2, .int (nI (n)))]) S.1 S.2.1 dX10_make_47 hl (by decide) rfl (fun ls hl => ?_)
          refine lv_iload S.1 S.2.1 dX10_make_49 (lv_at hl 0 rfl) ?_
          refine lv_iconst (v := -1) S.1 S.2.1 dX10_make_51 (by decide) ?_
          refine lv_icmp_ne (tgt := 101) S.1 S.2.1 dX10_make_52 (by decide) (fun c8 => ?_) (fun c8 => ?_)
          · exact absurd rfl c8
          · refine lv_aload_n S.1 S.2.1 dX10_make_55 rfl (lv_at hl 2 rfl) ?_
            refine rg_kp S hK hG hR dX10_make_56 ?_
            refine lv_iconst (v := nI (2)) S.1 S.2.1 dX10_make_59 (by decide) ?_
            refine lv_icmp_ge (tgt := 71) S.1 S.2.1 dX10_make_60 (by decide) (fun c7 => ?_) (fun c7 => ?_)
            · have c7 : 2 ≤ kp := (nI_leI (a := 2) (b := kp) (by omega) (by omega)).mp c7
              exact absurd c7 (by omega)
            · have c7 : ¬ (2 ≤ kp) := fun h9 => c7 ((nI_leI (a := 2) (b := kp) (by omega) (by omega)).mpr h9)
              refine lv_aload_n S.1 S.2.1 dX10_make_63 rfl (lv_at hl 2 rfl) ?_
              refine mCV (As := []) (rest := []) S (r_cnow1 (Kp := Kp) hB hKm hKf hR hm hW hfl hLay hKr hkp hh hcap) cal_X10_collectNow in_397 in_398 in_399 in_5 hK hN hG hR.obj rfl rfl rfl hl.1 (Nat.le_of_ble_eq_true rfl) ⟨by decide, by decide⟩ ⟨rfl, rfl⟩ ⟨by decide, by decide⟩ dX10_make_64 (fun v w H locs hp hG => ?_)
              obtain ⟨sz2, rw2, pl2, rfl, hR⟩ := hp
              have hh3 : (1 - half + 1) * (Wn / 2) ≤ 2 * (Wn / 2) := Nat.mul_le_mul_right _ (by omega)
              have hp1 := plR_1 fl (LRR fl rfs root) ((1 - half) * (Wn / 2), swA (blw made (ded false kp Wn adr (LRR fl rfs root))) adr, fun _ => none)
              dsimp only at hp1
              rw [szL_add fl (LRR fl rfs root)] at hp1
              have hh4 : (1 - half) * (Wn / 2) ≤ 1 * (Wn / 2) := Nat.mul_le_mul_right _ (by omega)
              refine W.eq (g2 := F0 m 67 ls [.int (nI (cnt (ded false kp Wn adr (LRR fl rfs root)) made))]) rfl ?_
              refine lv_pop S.1 S.2.1 dX10_make_67 rfl ?_
              refine lv_goto (tgt := 94) S.1 S.2.1 dX10_make_68 (by decide) ?_
              refine lv_aload_n S.1 S.2.1 dX10_make_94 rfl (lv_at hl 2 rfl) ?_
              refine lv_iload_n S.1 S.2.1 dX10_make_95 rfl (lv_at hl 1 rfl) ?_
              refine mCV (As := [.int (nI (n + 1))]) (rest := []) S (r_room1 hR hW (n + 1) (by omega) (by omega) hkp (by omega) (by omega)) cal_X10_room in_388 in_389 in_390 in_5 hK hN hG hR.obj rfl rfl rfl hl.1 (Nat.le_of_ble_eq_true rfl) ⟨by decide, by decide⟩ ⟨rfl, rfl⟩ ⟨by decide, by decide⟩ dX10_make_96 (fun v w H locs hp hG => ?_)
              obtain ⟨rfl, hw9⟩ := hp
              rw [hw9] at hG
              refine W.eq (g2 := F0 m 99 ls [.int (oI (if ((LRR fl rfs root).foldl (plR fl) ((1 - half) * (Wn / 2), swA (blw made (ded false kp Wn adr (LRR fl rfs root))) adr, fun _ => none)).1 + (n + 1) ≤ (1 - half + 1) * (Wn / 2) then some ((LRR fl rfs root).foldl (plR fl) ((1 - half) * (Wn / 2), swA (blw made (ded false kp Wn adr (LRR fl rfs root))) adr, fun _ => none)).1 else none))]) rfl ?_
              cases hrm8 : (if ((LRR fl rfs root).foldl (plR fl) ((1 - half) * (Wn / 2), swA (blw made (ded false kp Wn adr (LRR fl rfs root))) adr, fun _ => none)).1 + (n + 1) ≤ (1 - half + 1) * (Wn / 2) then some ((LRR fl rfs root).foldl (plR fl) ((1 - half) * (Wn / 2), swA (blw made (ded false kp Wn adr (LRR fl rfs root))) adr, fun _ => none)).1 else none : Option Nat) with
              | none =>
                refine W.eq (g2 := F0 m 99 ls [.int (oI none)]) rfl ?_
                have hz7 : ¬ ((LRR fl rfs root).foldl (plR fl) ((1 - half) * (Wn / 2), swA (blw made (ded false kp Wn adr (LRR fl rfs root))) adr, fun _ => none)).1 + (n + 1) ≤ (1 - half + 1) * (Wn / 2) := fun z => by
                  rw [if_pos z] at hrm8
                  cases hrm8
                refine lv_istore (lv' := [(4, .int (oI none)), (3, .int (nI (n + 1))), (0, .ref (q 0)), (1, .int (nI (j))), (2, .int (nI (n)))]) S.1 S.2.1 dX10_make_99 hl (by decide) rfl (fun ls hl => ?_)
                refine lv_iload S.1 S.2.1 dX10_make_101 (lv_at hl 0 rfl) ?_
                refine lv_iconst (v := -1) S.1 S.2.1 dX10_make_103 (by decide) ?_
                refine lv_icmp_ne (tgt := 110) S.1 S.2.1 dX10_make_104 (by decide) (fun c9 => ?_) (fun c9 => ?_)
                · exact absurd rfl c9
                · refine lv_bipush (v := -4) S.1 S.2.1 dX10_make_107 (by decide) ?_
                  exact mw_iret S hr hlk hK hG dX10_make_109 (Or.inr (Or.inr ⟨j, n, hj, by omega, rfl, rfl, hmd, Or.inr ⟨hz8, sz2, rw2, pl2, Or.inr ⟨hz7, rfl, hR⟩⟩⟩))
              | some a =>
                refine W.eq (g2 := F0 m 99 ls [.int (nI (a))]) rfl ?_
                have ha9 : ((LRR fl rfs root).foldl (plR fl) ((1 - half) * (Wn / 2), swA (blw made (ded false kp Wn adr (LRR fl rfs root))) adr, fun _ => none)).1 = a ∧ ((LRR fl rfs root).foldl (plR fl) ((1 - half) * (Wn / 2), swA (blw made (ded false kp Wn adr (LRR fl rfs root))) adr, fun _ => none)).1 + (n + 1) ≤ (1 - half + 1) * (Wn / 2) := by
                  by_cases z : ((LRR fl rfs root).foldl (plR fl) ((1 - half) * (Wn / 2), swA (blw made (ded false kp Wn adr (LRR fl rfs root))) adr, fun _ => none)).1 + (n + 1) ≤ (1 - half + 1) * (Wn / 2)
                  · rw [if_pos z] at hrm8
                    cases hrm8
                    exact ⟨rfl, z⟩
                  · rw [if_neg z] at hrm8
                    cases hrm8
                obtain ⟨ha9, hz9⟩ := ha9
                subst ha9
                refine lv_istore (lv' := [(4, .int (nI (((LRR fl rfs root).foldl (plR fl) ((1 - half) * (Wn / 2), swA (blw made (ded false kp Wn adr (LRR fl rfs root))) adr, fun _ => none)).1))), (3, .int (nI (n + 1))), (0, .ref (q 0)), (1, .int (nI (j))), (2, .int (nI (n)))]) S.1 S.2.1 dX10_make_99 hl (by decide) rfl (fun ls hl => ?_)
                refine lv_iload S.1 S.2.1 dX10_make_101 (lv_at hl 0 rfl) ?_
                refine lv_iconst (v := -1) S.1 S.2.1 dX10_make_103 (by decide) ?_
                refine lv_icmp_ne (tgt := 110) S.1 S.2.1 dX10_make_104 (by decide) (fun c9 => ?_) (fun c9 => ?_)
                · exact TT _ _ _ _ _ _ _ _ _ _ _ _ (((LRR fl rfs root).foldl (plR fl) ((1 - half) * (Wn / 2), swA (blw made (ded false kp Wn adr (LRR fl rfs root))) adr, fun _ => none)).1) (by omega) (fun w2 h2 => Or.inr (Or.inr ⟨j, n, hj, by omega, rfl, rfl, hmd, Or.inr ⟨hz8, sz2, rw2, pl2, Or.inl ⟨hz9, rfl, h2⟩⟩⟩)) _ _ _ hR hG ls (lv_sub hl [0, 1, 2, 3, 4] rfl)
                · exact absurd c9 (nI_m1 (by omega))
        | some a =>
          refine W.eq (g2 := F0 m 47 ls [.int (nI (a))]) rfl ?_
          have ha9 : top = a ∧ top + (n + 1) ≤ (half + 1) * (Wn / 2) := by
            by_cases z : top + (n + 1) ≤ (half + 1) * (Wn / 2)
            · rw [if_pos z] at hrm9
              cases hrm9
              exact ⟨rfl, z⟩
            · rw [if_neg z] at hrm9
              cases hrm9
          obtain ⟨ha9, hz9⟩ := ha9
          subst ha9
          refine lv_istore (lv' := [(4, .int (nI (top))), (3, .int (nI (n + 1))), (0, .ref (q 0)), (1, .int (nI (j))), (2, .int (nI (n)))]) S.1 S.2.1 dX10_make_47 hl (by decide) rfl (fun ls hl => ?_)
          refine lv_iload S.1 S.2.1 dX10_make_49 (lv_at hl 0 rfl) ?_
          refine lv_iconst (v := -1) S.1 S.2.1 dX10_make_51 (by decide) ?_
          refine lv_icmp_ne (tgt := 101) S.1 S.2.1 dX10_make_52 (by decide) (fun c8 => ?_) (fun c8 => ?_)
          · refine lv_iload S.1 S.2.1 dX10_make_101 (lv_at hl 0 rfl) ?_
            refine lv_iconst (v := -1) S.1 S.2.1 dX10_make_103 (by decide) ?_
            refine lv_icmp_ne (tgt := 110) S.1 S.2.1 dX10_make_104 (by decide) (fun c9 => ?_) (fun c9 => ?_)
            · exact TT _ _ _ _ _ _ _ _ _ _ _ _ (top) (by omega) (fun w2 h2 => Or.inr (Or.inr ⟨j, n, hj, by omega, rfl, rfl, hmd, Or.inl ⟨hz9, rfl, h2⟩⟩)) _ _ _ hR hG ls (lv_sub hl [0, 1, 2, 3, 4] rfl)
            · exact absurd c9 (nI_m1 (by omega))
          · exact absurd c8 (nI_m1 (by omega))
      · have c3 : made = 2000 := (nI_eq (a := made) (b := 2000) (by omega) (by omega)).mp c3
        refine lv_bipush (v := -4) S.1 S.2.1 dX10_make_35 (by decide) ?_
        exact mw_iret S hr hlk hK hG dX10_make_37 (Or.inr (Or.inl ⟨⟨inR_nI hj (by decide), inR_nI hn (by decide)⟩, c3, rfl, hR⟩))
    · refine lv_bipush (v := -2) S.1 S.2.1 dX10_make_22 (by decide) ?_
      exact mw_iret S hr hlk hK hG dX10_make_24 (Or.inl ⟨Or.inr (bI_f c2), rfl, hR⟩)
set_option maxHeartbeats 4000000 in
set_option maxRecDepth 100000 in
theorem r_make2 {l : Launch} {dC : Nat → ClassId} {dI : Nat → Nat → Nat} {cI cZ cT : ClassId} {q : Nat → Nat} {thr : Int32} {kp : Nat} {Wn : Nat} {made : Nat} {adr : (Nat → Option Nat)} {fl : (Nat → Nat)} {rem : (Nat → Bool)} {num : (Nat → Nat → Int32)} {rfs : (Nat → Nat → Option Nat)} {root : (Nat → Option Nat)} {own : (Nat → Option Nat)} {half : Nat} {top : Nat} {coll : Nat} {mins : Nat} {movd : Nat} {size : Nat} {row : (Nat → Nat)} {plc : (Nat → Option Nat)} {old : (Nat → Option Nat)} {Kp : Nat → Prop} (hB : ∀ M : List Nat, M.Nodup → (∀ x ∈ M, Kp x) → M.length ≤ 400) (hKm : ∀ x, Kp x → x < made ∧ ∃ a, adr x = some a) (hKf : ∀ x, Kp x → ∀ i, i < fl x → ∀ t, rfs x i = some t → Kp t) {w : mM} (hR : RW cI cZ q thr kp Wn made adr fl rem num rfs root own half top coll mins movd size row plc old w) (hm : made ≤ 2000) (hW : Wn ≤ 400) (hfl : ∀ x, x < made → fl x ≤ 6) (hLay : Lay made Wn fl adr own) (hKr : ∀ i, i < 16 → ∀ t, root i = some t → Kp t) (hkp : kp = 2) (hY : ∀ k a, k < made → adr k = some a → a < Wn / 4 → a + fl k < Wn / 4) (hrm : ∀ o a, o < made → adr o = some a → a < Wn / 4 → rem o = false) (hKo : ∀ k t, Wn / 4 ≤ k → own k = some t → Kp t) (ht : top ≤ 1000) (tp0 : Nat → Nat) (x y : Int32) : mC l yX10_make (wsY yX10_make cX10_make 7 (some .int)) { frames := 5, cells := 0, slots := 0, locals := 114 } (dC, dI) vwCl (tyL cI cZ cT) 0 0 w [.ref (q 0), .int (x), .int (y)] (fun v w2 => ((inR 16 x = false ∨ inR 7 y = false) ∧ v = some (.int (-2)) ∧ RW cI cZ q 0 kp Wn made adr fl rem num rfs root own half top coll mins movd size row plc old w2) ∨ ((inR 16 x = true ∧ inR 7 y = true) ∧ made = 2000 ∧ v = some (.int (-4)) ∧ RW cI cZ q 0 kp Wn made adr fl rem num rfs root own half top coll mins movd size row plc old w2) ∨ ∃ (j2 n2 : Nat), j2 < 16 ∧ n2 ≤ 6 ∧ x = nI j2 ∧ y = nI n2 ∧ made < 2000 ∧ ((top + (n2 + 1) ≤ Wn / 4 ∧ v = some (.int (nI made)) ∧ RW cI cZ q 0 kp Wn (made + 1) (va_up adr made (some top)) (va_up fl made n2) rem (ext0 num made 0) (ext0 rfs made none) (va_up root j2 (some made)) (fillO own top (n2 + 1) (some made)) half (top + (n2 + 1)) coll mins movd size row plc old w2) ∨ (¬ top + (n2 + 1) ≤ Wn / 4 ∧ Wn / 4 < n2 + 1 ∧ v = some (.int (-4)) ∧ RW cI cZ q 0 kp Wn made adr fl rem num rfs root own half top coll mins movd size row plc old w2) ∨ (¬ top + (n2 + 1) ≤ Wn / 4 ∧ n2 + 1 ≤ Wn / 4 ∧ ∃ (sz2 : Nat) (rw2 : Nat → Nat) (pl2 ol2 : Nat → Option Nat), ∃ (ow2 : Nat → Option Nat) (tp2 : Nat → Nat), Rz made Wn fl adr own tp0 (LYR kp Wn fl rfs root adr own rem) ol2 ow2 tp2 ∧ (LYR kp Wn fl rfs root adr own rem).Nodup ∧ v = some (.int (nI made)) ∧ RW cI cZ q 0 kp Wn (made + 1) (va_up (swA (blw made (yng kp Wn (rzA adr tp2 (LYR kp Wn fl rfs root adr own rem)))) (rzA adr tp2 (LYR kp Wn fl rfs root adr own rem))) made (some 0)) (va_up fl made n2) (clrB rem made) (ext0 num made 0) (ext0 rfs made none) (va_up root j2 (some made)) (fillO (swO (blw made (yng kp Wn (rzA adr tp2 (LYR kp Wn fl rfs root adr own rem)))) (rzO Wn own ow2 (LYR kp Wn fl rfs root adr own rem))) 0 (n2 + 1) (some made)) half (0 + (n2 + 1)) coll (mins + 1) (movd + (LYR kp Wn fl rfs root adr own rem).length) sz2 rw2 pl2 ol2 w2) ∨ (¬ top + (n2 + 1) ≤ Wn / 4 ∧ n2 + 1 ≤ Wn / 4 ∧ lay fl Wn (LYR kp Wn fl rfs root adr own rem) (own, tp0) = none ∧ ∃ (sz2 : Nat) (rw2 : Nat → Nat) (pl2 ol2 : Nat → Option Nat), ((lay fl Wn (LYR kp Wn fl rfs root (swA (blw made (ded true kp Wn adr (LRR fl rfs root))) adr) (swO (blw made (ded true kp Wn adr (LRR fl rfs root))) own) (swR (blw made (ded true kp Wn adr (LRR fl rfs root))) rem)) ((swO (blw made (ded true kp Wn adr (LRR fl rfs root))) own), tp0) = none ∧ v = some (.int (-4)) ∧ RW cI cZ q 0 kp Wn made ((swA (blw made (ded true kp Wn adr (LRR fl rfs root))) adr)) fl ((swR (blw made (ded true kp Wn adr (LRR fl rfs root))) rem)) num rfs root ((swO (blw made (ded true kp Wn adr (LRR fl rfs root))) own)) half top (coll + 1) mins movd sz2 rw2 pl2 ol2 w2) ∨ ∃ (ow2 : Nat → Option Nat) (tp2 : Nat → Nat), Rz made Wn fl (swA (blw made (ded true kp Wn adr (LRR fl rfs root))) adr) (swO (blw made (ded true kp Wn adr (LRR fl rfs root))) own) tp0 (LYR kp Wn fl rfs root (swA (blw made (ded true kp Wn adr (LRR fl rfs root))) adr) (swO (blw made (ded true kp Wn adr (LRR fl rfs root))) own) (swR (blw made (ded true kp Wn adr (LRR fl rfs root))) rem)) ol2 ow2 tp2 ∧ (LYR kp Wn fl rfs root (swA (blw made (ded true kp Wn adr (LRR fl rfs root))) adr) (swO (blw made (ded true kp Wn adr (LRR fl rfs root))) own) (swR (blw made (ded true kp Wn adr (LRR fl rfs root))) rem)).Nodup ∧ v = some (.int (nI made)) ∧ RW cI cZ q 0 kp Wn (made + 1) (va_up (swA (blw made (yng kp Wn (rzA (swA (blw made (ded true kp Wn adr (LRR fl rfs root))) adr) tp2 (LYR kp Wn fl rfs root (swA (blw made (ded true kp Wn adr (LRR fl rfs root))) adr) (swO (blw made (ded true kp Wn adr (LRR fl rfs root))) own) (swR (blw made (ded true kp Wn adr (LRR fl rfs root))) rem))))) (rzA (swA (blw made (ded true kp Wn adr (LRR fl rfs root))) adr) tp2 (LYR kp Wn fl rfs root (swA (blw made (ded true kp Wn adr (LRR fl rfs root))) adr) (swO (blw made (ded true kp Wn adr (LRR fl rfs root))) own) (swR (blw made (ded true kp Wn adr (LRR fl rfs root))) rem)))) made (some 0)) (va_up fl made n2) (clrB (swR (blw made (ded true kp Wn adr (LRR fl rfs root))) rem) made) (ext0 num made 0) (ext0 rfs made none) (va_up root j2 (some made)) (fillO (swO (blw made (yng kp Wn (rzA (swA (blw made (ded true kp Wn adr (LRR fl rfs root))) adr) tp2 (LYR kp Wn fl rfs root (swA (blw made (ded true kp Wn adr (LRR fl rfs root))) adr) (swO (blw made (ded true kp Wn adr (LRR fl rfs root))) own) (swR (blw made (ded true kp Wn adr (LRR fl rfs root))) rem))))) (rzO Wn (swO (blw made (ded true kp Wn adr (LRR fl rfs root))) own) ow2 (LYR kp Wn fl rfs root (swA (blw made (ded true kp Wn adr (LRR fl rfs root))) adr) (swO (blw made (ded true kp Wn adr (LRR fl rfs root))) own) (swR (blw made (ded true kp Wn adr (LRR fl rfs root))) rem)))) 0 (n2 + 1) (some made)) half (0 + (n2 + 1)) (coll + 1) (mins + 1) (movd + (LYR kp Wn fl rfs root (swA (blw made (ded true kp Wn adr (LRR fl rfs root))) adr) (swO (blw made (ded true kp Wn adr (LRR fl rfs root))) own) (swR (blw made (ded true kp Wn adr (LRR fl rfs root))) rem)).length) sz2 rw2 pl2 ol2 w2)))) := by
  refine mC.on (by decide) (Nat.le_of_ble_eq_true rfl) ?_
  intro p e s m args below meth c ls S hr hlk hnm hK hN hG hl
  have hl : lv_has ls 7 [(0, .ref (q 0)), (1, .int (x)), (2, .int (y))] := hl
  generalize hAe : mA w s.heap.size = A at hG ⊢
  have hob : ∀ k x, own k = some x → x < 2147483648 := fun k x hx => by have := (hLay.2 k x hx).1; omega
  refine lv_aload_n S.1 S.2.1 dX10_make_0 rfl (lv_at hl 0 rfl) ?_
  refine lv_iconst (v := 0) S.1 S.2.1 dX10_make_1 (by decide) ?_
  refine rp_thr S hK hG hR (0) dX10_make_2 (fun w H locs hR hG => ?_)
  refine lv_iload_n S.1 S.2.1 dX10_make_5 rfl (lv_at hl 1 rfl) ?_
  refine mCS (As := [.int (x)]) (rest := []) S (r_isRoot x) cal_X10_isRoot rfl in_382 in_383 in_5 hK hN hG rfl rfl hl.1 (Nat.le_of_ble_eq_true rfl) ⟨by decide, by decide⟩ ⟨rfl, rfl⟩ ⟨by decide, by decide⟩ dX10_make_6 (fun v w H locs hp hG => ?_)
  obtain ⟨rfl, hw9⟩ := hp
  rw [hw9] at hG
  refine W.eq (g2 := F0 m 9 ls [.int (bI (inR 16 x))]) rfl ?_
  refine lv_if_eq (tgt := 22) S.1 S.2.1 dX10_make_9 (by decide) (fun c1 => ?_) (fun c1 => ?_)
  · refine lv_bipush (v := -2) S.1 S.2.1 dX10_make_22 (by decide) ?_
    exact mw_iret S hr hlk hK hG dX10_make_24 (Or.inl ⟨Or.inl (bI_f c1), rfl, hR⟩)
  · obtain ⟨j, hj, rfl⟩ := inR_ex (by decide) (bI_t c1)
    refine lv_iload_n S.1 S.2.1 dX10_make_12 rfl (lv_at hl 2 rfl) ?_
    refine lv_iconst (v := nI (0)) S.1 S.2.1 dX10_make_13 (by decide) ?_
    refine lv_bipush (v := nI (6)) S.1 S.2.1 dX10_make_14 (by decide) ?_
    refine mCS (As := [.int (y), .int (nI (0)), .int (nI (6))]) (rest := []) S (r_in y 6 (by decide)) cal_X10_in rfl in_385 in_386 in_5 hK hN hG rfl rfl hl.1 (Nat.le_of_ble_eq_true rfl) ⟨by decide, by decide⟩ ⟨rfl, rfl⟩ ⟨by decide, by decide⟩ dX10_make_16 (fun v w H locs hp hG => ?_)
    obtain ⟨rfl, hw9⟩ := hp
    rw [hw9] at hG
    refine W.eq (g2 := F0 m 19 ls [.int (bI (inR 7 y))]) rfl ?_
    refine lv_if_ne (tgt := 25) S.1 S.2.1 dX10_make_19 (by decide) (fun c2 => ?_) (fun c2 => ?_)
    · obtain ⟨n, hn, rfl⟩ := inR_ex (by decide) (bI_t c2)
      refine lv_aload_n S.1 S.2.1 dX10_make_25 rfl (lv_at hl 0 rfl) ?_
      refine rg_made S hK hG hR dX10_make_26 ?_
      refine lv_sipush (v := nI (2000)) S.1 S.2.1 dX10_make_29 (by decide) ?_
      refine lv_icmp_ne (tgt := 38) S.1 S.2.1 dX10_make_32 (by decide) (fun c3 => ?_) (fun c3 => ?_)
      · have c3 : ¬ (made = 2000) := fun h9 => c3 ((nI_eq (a := made) (b := 2000) (by omega) (by omega)).mpr h9)
        have hmd : made < 2000 := by omega
        have TT : ∀ (adr8 : (Nat → Option Nat)) (rem8 : (Nat → Bool)) (own8 : (Nat → Option Nat)) (half8 : Nat) (top8 : Nat) (coll8 : Nat) (mins8 : Nat) (movd8 : Nat) (size8 : Nat) (row8 : (Nat → Nat)) (plc8 : (Nat → Option Nat)) (old8 : (Nat → Option Nat)) (a : Nat), (a + n < 400) → (∀ w2, RW cI cZ q 0 kp Wn (made + 1) (va_up adr8 made (some a)) (va_up fl made n) rem8 (ext0 num made 0) (ext0 rfs made none) (va_up root j (some made)) (fillO own8 a (n + 1) (some made)) half8 (top8 + (n + 1)) coll8 mins8 movd8 size8 row8 plc8 old8 w2 → ((fun v w2 => ((inR 16 (nI j) = false ∨ inR 7 (nI n) = false) ∧ v = some (.int (-2)) ∧ RW cI cZ q 0 kp Wn made adr fl rem num rfs root own half top coll mins movd size row plc old w2) ∨ ((inR 16 (nI j) = true ∧ inR 7 (nI n) = true) ∧ made = 2000 ∧ v = some (.int (-4)) ∧ RW cI cZ q 0 kp Wn made adr fl rem num rfs root own half top coll mins movd size row plc old w2) ∨ ∃ (j2 n2 : Nat), j2 < 16 ∧ n2 ≤ 6 ∧ (nI j) = nI j2 ∧ (nI n) = nI n2 ∧ made < 2000 ∧ ((top + (n2 + 1) ≤ Wn / 4 ∧ v = some (.int (nI made)) ∧ RW cI cZ q 0 kp Wn (made + 1) (va_up adr made (some top)) (va_up fl made n2) rem (ext0 num made 0) (ext0 rfs made none) (va_up root j2 (some made)) (fillO own top (n2 + 1) (some made)) half (top + (n2 + 1)) coll mins movd size row plc old w2) ∨ (¬ top + (n2 + 1) ≤ Wn / 4 ∧ Wn / 4 < n2 + 1 ∧ v = some (.int (-4)) ∧ RW cI cZ q 0 kp Wn made adr fl rem num rfs root own half top coll mins movd size row plc old w2) ∨ (¬ top + (n2 + 1) ≤ Wn / 4 ∧ n2 + 1 ≤ Wn / 4 ∧ ∃ (sz2 : Nat) (rw2 : Nat → Nat) (pl2 ol2 : Nat → Option Nat), ∃ (ow2 : Nat → Option Nat) (tp2 : Nat → Nat), Rz made Wn fl adr own tp0 (LYR kp Wn fl rfs root adr own rem) ol2 ow2 tp2 ∧ (LYR kp Wn fl rfs root adr own rem).Nodup ∧ v = some (.int (nI made)) ∧ RW cI cZ q 0 kp Wn (made + 1) (va_up (swA (blw made (yng kp Wn (rzA adr tp2 (LYR kp Wn fl rfs root adr own rem)))) (rzA adr tp2 (LYR kp Wn fl rfs root adr own rem))) made (some 0)) (va_up fl made n2) (clrB rem made) (ext0 num made 0) (ext0 rfs made none) (va_up root j2 (some made)) (fillO (swO (blw made (yng kp Wn (rzA adr tp2 (LYR kp Wn fl rfs root adr own rem)))) (rzO Wn own ow2 (LYR kp Wn fl rfs root adr own rem))) 0 (n2 + 1) (some made)) half (0 + (n2 + 1)) coll (mins + 1) (movd + (LYR kp Wn fl rfs root adr own rem).length) sz2 rw2 pl2 ol2 w2) ∨ (¬ top + (n2 + 1) ≤ Wn / 4 ∧ n2 + 1 ≤ Wn / 4 ∧ lay fl Wn (LYR kp Wn fl rfs root adr own rem) (own, tp0) = none ∧ ∃ (sz2 : Nat) (rw2 : Nat → Nat) (pl2 ol2 : Nat → Option Nat), ((lay fl Wn (LYR kp Wn fl rfs root (swA (blw made (ded true kp Wn adr (LRR fl rfs root))) adr) (swO (blw made (ded true kp Wn adr (LRR fl rfs root))) own) (swR (blw made (ded true kp Wn adr (LRR fl rfs root))) rem)) ((swO (blw made (ded true kp Wn adr (LRR fl rfs root))) own), tp0) = none ∧ v = some (.int (-4)) ∧ RW cI cZ q 0 kp Wn made ((swA (blw made (ded true kp Wn adr (LRR fl rfs root))) adr)) fl ((swR (blw made (ded true kp Wn adr (LRR fl rfs root))) rem)) num rfs root ((swO (blw made (ded true kp Wn adr (LRR fl rfs root))) own)) half top (coll + 1) mins movd sz2 rw2 pl2 ol2 w2) ∨ ∃ (ow2 : Nat → Option Nat) (tp2 : Nat → Nat), Rz made Wn fl (swA (blw made (ded true kp Wn adr (LRR fl rfs root))) adr) (swO (blw made (ded true kp Wn adr (LRR fl rfs root))) own) tp0 (LYR kp Wn fl rfs root (swA (blw made (ded true kp Wn adr (LRR fl rfs root))) adr) (swO (blw made (ded true kp Wn adr (LRR fl rfs root))) own) (swR (blw made (ded true kp Wn adr (LRR fl rfs root))) rem)) ol2 ow2 tp2 ∧ (LYR kp Wn fl rfs root (swA (blw made (ded true kp Wn adr (LRR fl rfs root))) adr) (swO (blw made (ded true kp Wn adr (LRR fl rfs root))) own) (swR (blw made (ded true kp Wn adr (LRR fl rfs root))) rem)).Nodup ∧ v = some (.int (nI made)) ∧ RW cI cZ q 0 kp Wn (made + 1) (va_up (swA (blw made (yng kp Wn (rzA (swA (blw made (ded true kp Wn adr (LRR fl rfs root))) adr) tp2 (LYR kp Wn fl rfs root (swA (blw made (ded true kp Wn adr (LRR fl rfs root))) adr) (swO (blw made (ded true kp Wn adr (LRR fl rfs root))) own) (swR (blw made (ded true kp Wn adr (LRR fl rfs root))) rem))))) (rzA (swA (blw made (ded true kp Wn adr (LRR fl rfs root))) adr) tp2 (LYR kp Wn fl rfs root (swA (blw made (ded true kp Wn adr (LRR fl rfs root))) adr) (swO (blw made (ded true kp Wn adr (LRR fl rfs root))) own) (swR (blw made (ded true kp Wn adr (LRR fl rfs root))) rem)))) made (some 0)) (va_up fl made n2) (clrB (swR (blw made (ded true kp Wn adr (LRR fl rfs root))) rem) made) (ext0 num made 0) (ext0 rfs made none) (va_up root j2 (some made)) (fillO (swO (blw made (yng kp Wn (rzA (swA (blw made (ded true kp Wn adr (LRR fl rfs root))) adr) tp2 (LYR kp Wn fl rfs root (swA (blw made (ded true kp Wn adr (LRR fl rfs root))) adr) (swO (blw made (ded true kp Wn adr (LRR fl rfs root))) own) (swR (blw made (ded true kp Wn adr (LRR fl rfs root))) rem))))) (rzO Wn (swO (blw made (ded true kp Wn adr (LRR fl rfs root))) own) ow2 (LYR kp Wn fl rfs root (swA (blw made (ded true kp Wn adr (LRR fl rfs root))) adr) (swO (blw made (ded true kp Wn adr (LRR fl rfs root))) own) (swR (blw made (ded true kp Wn adr (LRR fl rfs root))) rem)))) 0 (n2 + 1) (some made)) half (0 + (n2 + 1)) (coll + 1) (mins + 1) (movd + (LYR kp Wn fl rfs root (swA (blw made (ded true kp Wn adr (LRR fl rfs root))) adr) (swO (blw made (ded true kp Wn adr (LRR fl rfs root))) own) (swR (blw made (ded true kp Wn adr (LRR fl rfs root))) rem)).length) sz2 rw2 pl2 ol2 w2)))) : Option Value → mM → Prop) (some (.int (nI made))) w2) → ∀ (w : mM) (H : Heap) (locs : List Loc), RW cI cZ q 0 kp Wn made adr8 fl rem8 num rfs root own8 half8 top8 coll8 mins8 movd8 size8 row8 plc8 old8 w → mG (dC, dI) vwCl A s.heap w H locs → ∀ ls : Array Slot, lv_has ls 7 [(4, .int (nI (a))), (3, .int (nI (n + 1))), (0, .ref (q 0)), (1, .int (nI (j))), (2, .int (nI (n)))] → W p l e { frames := 5, cells := 0, slots := 0, locals := 114 } s m args below meth c H locs 0 0 (MQ below (mQ (dC, dI) vwCl (tyL cI cZ cT) (fun v w2 => ((inR 16 (nI j) = false ∨ inR 7 (nI n) = false) ∧ v = some (.int (-2)) ∧ RW cI cZ q 0 kp Wn made adr fl rem num rfs root own half top coll mins movd size row plc old w2) ∨ ((inR 16 (nI j) = true ∧ inR 7 (nI n) = true) ∧ made = 2000 ∧ v = some (.int (-4)) ∧ RW cI cZ q 0 kp Wn made adr fl rem num rfs root own half top coll mins movd size row plc old w2) ∨ ∃ (j2 n2 : Nat), j2 < 16 ∧ n2 ≤ 6 ∧ (nI j) = nI j2 ∧ (nI n) = nI n2 ∧ made < 2000 ∧ ((top + (n2 + 1) ≤ Wn / 4 ∧ v = some (.int (nI made)) ∧ RW cI cZ q 0 kp Wn (made + 1) (va_up adr made (some top)) (va_up fl made n2) rem (ext0 num made 0) (ext0 rfs made none) (va_up root j2 (some made)) (fillO own top (n2 + 1) (some made)) half (top + (n2 + 1)) coll mins movd size row plc old w2) ∨ (¬ top + (n2 + 1) ≤ Wn / 4 ∧ Wn / 4 < n2 + 1 ∧ v = some (.int (-4)) ∧ RW cI cZ q 0 kp Wn made adr fl rem num rfs root own half top coll mins movd size row plc old w2) ∨ (¬ top + (n2 + 1) ≤ Wn / 4 ∧ n2 + 1 ≤ Wn / 4 ∧ ∃ (sz2 : Nat) (rw2 : Nat → Nat) (pl2 ol2 : Nat → Option Nat), ∃ (ow2 : Nat → Option Nat) (tp2 : Nat → Nat), Rz made Wn fl adr own tp0 (LYR kp Wn fl rfs root adr own rem) ol2 ow2 tp2 ∧ (LYR kp Wn fl rfs root adr own rem).Nodup ∧ v = some (.int (nI made)) ∧ RW cI cZ q 0 kp Wn (made + 1) (va_up (swA (blw made (yng kp Wn (rzA adr tp2 (LYR kp Wn fl rfs root adr own rem)))) (rzA adr tp2 (LYR kp Wn fl rfs root adr own rem))) made (some 0)) (va_up fl made n2) (clrB rem made) (ext0 num made 0) (ext0 rfs made none) (va_up root j2 (some made)) (fillO (swO (blw made (yng kp Wn (rzA adr tp2 (LYR kp Wn fl rfs root adr own rem)))) (rzO Wn own ow2 (LYR kp Wn fl rfs root adr own rem))) 0 (n2 + 1) (some made)) half (0 + (n2 + 1)) coll (mins + 1) (movd + (LYR kp Wn fl rfs root adr own rem).length) sz2 rw2 pl2 ol2 w2) ∨ (¬ top + (n2 + 1) ≤ Wn / 4 ∧ n2 + 1 ≤ Wn / 4 ∧ lay fl Wn (LYR kp Wn fl rfs root adr own rem) (own, tp0) = none ∧ ∃ (sz2 : Nat) (rw2 : Nat → Nat) (pl2 ol2 : Nat → Option Nat), ((lay fl Wn (LYR kp Wn fl rfs root (swA (blw made (ded true kp Wn adr (LRR fl rfs root))) adr) (swO (blw made (ded true kp Wn adr (LRR fl rfs root))) own) (swR (blw made (ded true kp Wn adr (LRR fl rfs root))) rem)) ((swO (blw made (ded true kp Wn adr (LRR fl rfs root))) own), tp0) = none ∧ v = some (.int (-4)) ∧ RW cI cZ q 0 kp Wn made ((swA (blw made (ded true kp Wn adr (LRR fl rfs root))) adr)) fl ((swR (blw made (ded true kp Wn adr (LRR fl rfs root))) rem)) num rfs root ((swO (blw made (ded true kp Wn adr (LRR fl rfs root))) own)) half top (coll + 1) mins movd sz2 rw2 pl2 ol2 w2) ∨ ∃ (ow2 : Nat → Option Nat) (tp2 : Nat → Nat), Rz made Wn fl (swA (blw made (ded true kp Wn adr (LRR fl rfs root))) adr) (swO (blw made (ded true kp Wn adr (LRR fl rfs root))) own) tp0 (LYR kp Wn fl rfs root (swA (blw made (ded true kp Wn adr (LRR fl rfs root))) adr) (swO (blw made (ded true kp Wn adr (LRR fl rfs root))) own) (swR (blw made (ded true kp Wn adr (LRR fl rfs root))) rem)) ol2 ow2 tp2 ∧ (LYR kp Wn fl rfs root (swA (blw made (ded true kp Wn adr (LRR fl rfs root))) adr) (swO (blw made (ded true kp Wn adr (LRR fl rfs root))) own) (swR (blw made (ded true kp Wn adr (LRR fl rfs root))) rem)).Nodup ∧ v = some (.int (nI made)) ∧ RW cI cZ q 0 kp Wn (made + 1) (va_up (swA (blw made (yng kp Wn (rzA (swA (blw made (ded true kp Wn adr (LRR fl rfs root))) adr) tp2 (LYR kp Wn fl rfs root (swA (blw made (ded true kp Wn adr (LRR fl rfs root))) adr) (swO (blw made (ded true kp Wn adr (LRR fl rfs root))) own) (swR (blw made (ded true kp Wn adr (LRR fl rfs root))) rem))))) (rzA (swA (blw made (ded true kp Wn adr (LRR fl rfs root))) adr) tp2 (LYR kp Wn fl rfs root (swA (blw made (ded true kp Wn adr (LRR fl rfs root))) adr) (swO (blw made (ded true kp Wn adr (LRR fl rfs root))) own) (swR (blw made (ded true kp Wn adr (LRR fl rfs root))) rem)))) made (some 0)) (va_up fl made n2) (clrB (swR (blw made (ded true kp Wn adr (LRR fl rfs root))) rem) made) (ext0 num made 0) (ext0 rfs made none) (va_up root j2 (some made)) (fillO (swO (blw made (yng kp Wn (rzA (swA (blw made (ded true kp Wn adr (LRR fl rfs root))) adr) tp2 (LYR kp Wn fl rfs root (swA (blw made (ded true kp Wn adr (LRR fl rfs root))) adr) (swO (blw made (ded true kp Wn adr (LRR fl rfs root))) own) (swR (blw made (ded true kp Wn adr (LRR fl rfs root))) rem))))) (rzO Wn (swO (blw made (ded true kp Wn adr (LRR fl rfs root))) own) ow2 (LYR kp Wn fl rfs root (swA (blw made (ded true kp Wn adr (LRR fl rfs root))) adr) (swO (blw made (ded true kp Wn adr (LRR fl rfs root))) own) (swR (blw made (ded true kp Wn adr (LRR fl rfs root))) rem)))) 0 (n2 + 1) (some made)) half (0 + (n2 + 1)) (coll + 1) (mins + 1) (movd + (LYR kp Wn fl rfs root (swA (blw made (ded true kp Wn adr (LRR fl rfs root))) adr) (swO (blw made (ded true kp Wn adr (LRR fl rfs root))) own) (swR (blw made (ded true kp Wn adr (LRR fl rfs root))) rem)).length) sz2 rw2 pl2 ol2 w2)))) A) args s 0 0 A) (F0 m 110 ls []) := by
          intro adr8 rem8 own8 half8 top8 coll8 mins8 movd8 size8 row8 plc8 old8 a ha hpost w H locs hR hG ls hl
          refine lv_aload_n S.1 S.2.1 dX10_make_110 rfl (lv_at hl 2 rfl) ?_
          refine rg_made S hK hG hR dX10_make_111 ?_
          refine lv_istore (lv' := [(5, .int (nI (made))), (4, .int (nI (a))), (3, .int (nI (n + 1))), (0, .ref (q 0)), (1, .int (nI (j))), (2, .int (nI (n)))]) S.1 S.2.1 dX10_make_114 hl (by decide) rfl (fun ls hl => ?_)
          refine lv_aload_n S.1 S.2.1 dX10_make_116 rfl (lv_at hl 3 rfl) ?_
          refine lv_dup S.1 S.2.1 dX10_make_117 rfl ?_
          refine rg_made S hK hG hR dX10_make_118 ?_
          refine lv_iconst (v := nI (1)) S.1 S.2.1 dX10_make_121 (by decide) ?_
          refine lv_iadd S.1 S.2.1 dX10_make_122 ?_
          refine lv_eqi (nI_add _ _) ?_
          refine rp_made S hK hG hR (made + 1) dX10_make_123 (fun w H locs hR hG => ?_)
          refine lv_aload_n S.1 S.2.1 dX10_make_126 rfl (lv_at hl 3 rfl) ?_
          refine rg_fl S hK hG hR dX10_make_127 ?_
          refine lv_iload S.1 S.2.1 dX10_make_130 (lv_at hl 0 rfl) ?_
          refine lv_iload_n S.1 S.2.1 dX10_make_132 rfl (lv_at hl 5 rfl) ?_
          refine rs_fl S hK hG hR (made) (n) (by omega) dX10_make_133 (fun w H locs hR hG => ?_)
          refine lv_iconst (v := nI (0)) S.1 S.2.1 dX10_make_134 (by decide) ?_
          refine lv_istore (lv' := [(6, .int (nI (0))), (5, .int (nI (made))), (4, .int (nI (a))), (3, .int (nI (n + 1))), (0, .ref (q 0)), (1, .int (nI (j))), (2, .int (nI (n)))]) S.1 S.2.1 dX10_make_135 hl (by decide) rfl (fun ls hl => ?_)
          have LI : ∀ (fu : Nat) (i : Nat), 6 - i < fu → (i ≤ 6) → ∀ (w : mM) (H : Heap) (locs : List Loc), RW cI cZ q 0 kp Wn (made + 1) adr8 (va_up fl made n) rem8 (exI num made i 0) (exI rfs made i none) root own8 half8 top8 coll8 mins8 movd8 size8 row8 plc8 old8 w → mG (dC, dI) vwCl A s.heap w H locs → ∀ ls : Array Slot, lv_has ls 7 [(6, .int (nI (i))), (5, .int (nI (made))), (4, .int (nI (a))), (3, .int (nI (n + 1))), (0, .ref (q 0)), (1, .int (nI (j))), (2, .int (nI (n)))] → W p l e { frames := 5, cells := 0, slots := 0, locals := 114 } s m args below meth c H locs 0 0 (MQ below (mQ (dC, dI) vwCl (tyL cI cZ cT) (fun v w2 => ((inR 16 (nI j) = false ∨ inR 7 (nI n) = false) ∧ v = some (.int (-2)) ∧ RW cI cZ q 0 kp Wn made adr fl rem num rfs root own half top coll mins movd size row plc old w2) ∨ ((inR 16 (nI j) = true ∧ inR 7 (nI n) = true) ∧ made = 2000 ∧ v = some (.int (-4)) ∧ RW cI cZ q 0 kp Wn made adr fl rem num rfs root own half top coll mins movd size row plc old w2) ∨ ∃ (j2 n2 : Nat), j2 < 16 ∧ n2 ≤ 6 ∧ (nI j) = nI j2 ∧ (nI n) = nI n2 ∧ made < 2000 ∧ ((top + (n2 + 1) ≤ Wn / 4 ∧ v = some (.int (nI made)) ∧ RW cI cZ q 0 kp Wn (made + 1) (va_up adr made (some top)) (va_up fl made n2) rem (ext0 num made 0) (ext0 rfs made none) (va_up root j2 (some made)) (fillO own top (n2 + 1) (some made)) half (top + (n2 + 1)) coll mins movd size row plc old w2) ∨ (¬ top + (n2 + 1) ≤ Wn / 4 ∧ Wn / 4 < n2 + 1 ∧ v = some (.int (-4)) ∧ RW cI cZ q 0 kp Wn made adr fl rem num rfs root own half top coll mins movd size row plc old w2) ∨ (¬ top + (n2 + 1) ≤ Wn / 4 ∧ n2 + 1 ≤ Wn / 4 ∧ ∃ (sz2 : Nat) (rw2 : Nat → Nat) (pl2 ol2 : Nat → Option Nat), ∃ (ow2 : Nat → Option Nat) (tp2 : Nat → Nat), Rz made Wn fl adr own tp0 (LYR kp Wn fl rfs root adr own rem) ol2 ow2 tp2 ∧ (LYR kp Wn fl rfs root adr own rem).Nodup ∧ v = some (.int (nI made)) ∧ RW cI cZ q 0 kp Wn (made + 1) (va_up (swA (blw made (yng kp Wn (rzA adr tp2 (LYR kp Wn fl rfs root adr own rem)))) (rzA adr tp2 (LYR kp Wn fl rfs root adr own rem))) made (some 0)) (va_up fl made n2) (clrB rem made) (ext0 num made 0) (ext0 rfs made none) (va_up root j2 (some made)) (fillO (swO (blw made (yng kp Wn (rzA adr tp2 (LYR kp Wn fl rfs root adr own rem)))) (rzO Wn own ow2 (LYR kp Wn fl rfs root adr own rem))) 0 (n2 + 1) (some made)) half (0 + (n2 + 1)) coll (mins + 1) (movd + (LYR kp Wn fl rfs root adr own rem).length) sz2 rw2 pl2 ol2 w2) ∨ (¬ top + (n2 + 1) ≤ Wn / 4 ∧ n2 + 1 ≤ Wn / 4 ∧ lay fl Wn (LYR kp Wn fl rfs root adr own rem) (own, tp0) = none ∧ ∃ (sz2 : Nat) (rw2 : Nat → Nat) (pl2 ol2 : Nat → Option Nat), ((lay fl Wn (LYR kp Wn fl rfs root (swA (blw made (ded true kp Wn adr (LRR fl rfs root))) adr) (swO (blw made (ded true kp Wn adr (LRR fl rfs root))) own) (swR (blw made (ded true kp Wn adr (LRR fl rfs root))) rem)) ((swO (blw made (ded true kp Wn adr (LRR fl rfs root))) own), tp0) = none ∧ v = some (.int (-4)) ∧ RW cI cZ q 0 kp Wn made ((swA (blw made (ded true kp Wn adr (LRR fl rfs root))) adr)) fl ((swR (blw made (ded true kp Wn adr (LRR fl rfs root))) rem)) num rfs root ((swO (blw made (ded true kp Wn adr (LRR fl rfs root))) own)) half top (coll + 1) mins movd sz2 rw2 pl2 ol2 w2) ∨ ∃ (ow2 : Nat → Option Nat) (tp2 : Nat → Nat), Rz made Wn fl (swA (blw made (ded true kp Wn adr (LRR fl rfs root))) adr) (swO (blw made (ded true kp Wn adr (LRR fl rfs root))) own) tp0 (LYR kp Wn fl rfs root (swA (blw made (ded true kp Wn adr (LRR fl rfs root))) adr) (swO (blw made (ded true kp Wn adr (LRR fl rfs root))) own) (swR (blw made (ded true kp Wn adr (LRR fl rfs root))) rem)) ol2 ow2 tp2 ∧ (LYR kp Wn fl rfs root (swA (blw made (ded true kp Wn adr (LRR fl rfs root))) adr) (swO (blw made (ded true kp Wn adr (LRR fl rfs root))) own) (swR (blw made (ded true kp Wn adr (LRR fl rfs root))) rem)).Nodup ∧ v = some (.int (nI made)) ∧ RW cI cZ q 0 kp Wn (made + 1) (va_up (swA (blw made (yng kp Wn (rzA (swA (blw made (ded true kp Wn adr (LRR fl rfs root))) adr) tp2 (LYR kp Wn fl rfs root (swA (blw made (ded true kp Wn adr (LRR fl rfs root))) adr) (swO (blw made (ded true kp Wn adr (LRR fl rfs root))) own) (swR (blw made (ded true kp Wn adr (LRR fl rfs root))) rem))))) (rzA (swA (blw made (ded true kp Wn adr (LRR fl rfs root))) adr) tp2 (LYR kp Wn fl rfs root (swA (blw made (ded true kp Wn adr (LRR fl rfs root))) adr) (swO (blw made (ded true kp Wn adr (LRR fl rfs root))) own) (swR (blw made (ded true kp Wn adr (LRR fl rfs root))) rem)))) made (some 0)) (va_up fl made n2) (clrB (swR (blw made (ded true kp Wn adr (LRR fl rfs root))) rem) made) (ext0 num made 0) (ext0 rfs made none) (va_up root j2 (some made)) (fillO (swO (blw made (yng kp Wn (rzA (swA (blw made (ded true kp Wn adr (LRR fl rfs root))) adr) tp2 (LYR kp Wn fl rfs root (swA (blw made (ded true kp Wn adr (LRR fl rfs root))) adr) (swO (blw made (ded true kp Wn adr (LRR fl rfs root))) own) (swR (blw made (ded true kp Wn adr (LRR fl rfs root))) rem))))) (rzO Wn (swO (blw made (ded true kp Wn adr (LRR fl rfs root))) own) ow2 (LYR kp Wn fl rfs root (swA (blw made (ded true kp Wn adr (LRR fl rfs root))) adr) (swO (blw made (ded true kp Wn adr (LRR fl rfs root))) own) (swR (blw made (ded true kp Wn adr (LRR fl rfs root))) rem)))) 0 (n2 + 1) (some made)) half (0 + (n2 + 1)) (coll + 1) (mins + 1) (movd + (LYR kp Wn fl rfs root (swA (blw made (ded true kp Wn adr (LRR fl rfs root))) adr) (swO (blw made (ded true kp Wn adr (LRR fl rfs root))) own) (swR (blw made (ded true kp Wn adr (LRR fl rfs root))) rem)).length) sz2 rw2 pl2 ol2 w2)))) A) args s 0 0 A) (F0 m 137 ls []) := by
            intro fu
            induction fu with
            | zero => intro i h1; exact absurd h1 (Nat.not_lt_zero _)
            | succ fu ihLI =>
              intro i h1 h2 w H locs hR hG ls hl
              refine lv_iload S.1 S.2.1 dX10_make_137 (lv_at hl 0 rfl) ?_
              refine lv_bipush (v := nI (6)) S.1 S.2.1 dX10_make_139 (by decide) ?_
              refine lv_icmp_ge (tgt := 178) S.1 S.2.1 dX10_make_141 (by decide) (fun c4 => ?_) (fun c4 => ?_)
              · have c4 : 6 ≤ i := (nI_leI (a := 6) (b := i) (by omega) (by omega)).mp c4
                have hi : i = 6 := by omega
                subst hi
                have hR := RW_nr hR (exI_6 num made 0) (exI_6 rfs made none)
                have hus : va_up fl made n made = n := by unfold va_up; rw [if_pos rfl]
                refine lv_aload_n S.1 S.2.1 dX10_make_178 rfl (lv_at hl 4 rfl) ?_
                refine lv_iload S.1 S.2.1 dX10_make_179 (lv_at hl 1 rfl) ?_
                refine lv_iload S.1 S.2.1 dX10_make_181 (lv_at hl 2 rfl) ?_
                refine mCV (As := [.int (nI (made)), .int (nI (a))]) (rest := []) S (r_lie hR made a hmd (by rw [hus]; omega)) cal_X10_lie in_440 in_441 in_442 in_5 hK hN hG hR.obj rfl rfl rfl hl.1 (Nat.le_of_ble_eq_true rfl) ⟨by decide, by decide⟩ ⟨rfl, rfl⟩ ⟨by decide, by decide⟩ dX10_make_183 (fun v w H locs hp hG => ?_)
                obtain ⟨rfl, hR⟩ := hp
                rw [hus] at hR
                refine W.eq (g2 := F0 m 186 ls []) rfl ?_
                refine lv_aload_n S.1 S.2.1 dX10_make_186 rfl (lv_at hl 4 rfl) ?_
                refine lv_dup S.1 S.2.1 dX10_make_187 rfl ?_
                refine rg_top S hK hG hR dX10_make_188 ?_
                refine lv_iload_n S.1 S.2.1 dX10_make_191 rfl (lv_at hl 3 rfl) ?_
                refine lv_iadd S.1 S.2.1 dX10_make_192 ?_
                refine lv_eqi (nI_add _ _) ?_
                refine rp_top S hK hG hR (top8 + (n + 1)) dX10_make_193 (fun w H locs hR hG => ?_)
                refine lv_aload_n S.1 S.2.1 dX10_make_196 rfl (lv_at hl 4 rfl) ?_
                refine rg_root S hK hG hR dX10_make_197 ?_
                refine lv_iload_n S.1 S.2.1 dX10_make_200 rfl (lv_at hl 5 rfl) ?_
                refine lv_iload S.1 S.2.1 dX10_make_201 (lv_at hl 1 rfl) ?_
                refine rs_root S hK hG hR (j) (some (made)) (by omega) dX10_make_203 (fun w H locs hR hG => ?_)
                refine lv_iload S.1 S.2.1 dX10_make_204 (lv_at hl 1 rfl) ?_
                exact mw_iret S hr hlk hK hG dX10_make_206 (hpost _ hR)
              · have c4 : ¬ (6 ≤ i) := fun h9 => c4 ((nI_leI (a := 6) (b := i) (by omega) (by omega)).mpr h9)
                refine lv_aload_n S.1 S.2.1 dX10_make_144 rfl (lv_at hl 4 rfl) ?_
                refine rg_num S hK hG hR dX10_make_145 ?_
                refine lv_bipush (v := nI (6)) S.1 S.2.1 dX10_make_148 (by decide) ?_
                refine lv_iload S.1 S.2.1 dX10_make_150 (lv_at hl 1 rfl) ?_
                refine lv_imul S.1 S.2.1 dX10_make_152 ?_
                refine lv_eqi (pk_mul _ _) ?_
                refine lv_iload S.1 S.2.1 dX10_make_153 (lv_at hl 0 rfl) ?_
                refine lv_iadd S.1 S.2.1 dX10_make_155 ?_
                refine lv_eqi (nI_add _ _) ?_
                refine lv_iconst (v := 0) S.1 S.2.1 dX10_make_156 (by decide) ?_
                refine rs_num S hK hG hR (made) (i) (0) (by omega) (by omega) dX10_make_157 (fun w H locs hR hG => ?_)
                refine lv_aload_n S.1 S.2.1 dX10_make_158 rfl (lv_at hl 4 rfl) ?_
                refine rg_rfs S hK hG hR dX10_make_159 ?_
                refine lv_bipush (v := nI (6)) S.1 S.2.1 dX10_make_162 (by decide) ?_
                refine lv_iload S.1 S.2.1 dX10_make_164 (lv_at hl 1 rfl) ?_
                refine lv_imul S.1 S.2.1 dX10_make_166 ?_
                refine lv_eqi (pk_mul _ _) ?_
                refine lv_iload S.1 S.2.1 dX10_make_167 (lv_at hl 0 rfl) ?_
                refine lv_iadd S.1 S.2.1 dX10_make_169 ?_
                refine lv_eqi (nI_add _ _) ?_
                refine lv_iconst (v := -1) S.1 S.2.1 dX10_make_170 (by decide) ?_
                refine rs_rfs S hK hG hR (made) (i) (none) (by omega) (by omega) dX10_make_171 (fun w H locs hR hG => ?_)
                rw [exI_s, exI_s] at hR
                refine lv_iinc (v := nI (i + 1)) (lv' := [(6, .int (nI (i + 1))), (5, .int (nI (made))), (4, .int (nI (a))), (3, .int (nI (n + 1))), (0, .ref (q 0)), (1, .int (nI (j))), (2, .int (nI (n)))]) S.1 S.2.1 dX10_make_172 hl (k := 0) rfl (nI_1 _) (by decide) rfl (fun ls hl => ?_)
                refine lv_goto (tgt := 137) S.1 S.2.1 dX10_make_175 (by decide) ?_
                exact ihLI (i + 1) (by omega) (by omega) _ _ _ hR hG ls (lv_sub hl [0, 1, 2, 3, 4, 5, 6] rfl)
          exact LI (7) 0 (by omega) (by omega) _ _ _ (by rw [exI_0, exI_0]; exact hR) hG ls (lv_sub hl [0, 1, 2, 3, 4, 5, 6] rfl)
        refine lv_iload_n S.1 S.2.1 dX10_make_38 rfl (lv_at hl 2 rfl) ?_
        refine lv_iconst (v := nI (1)) S.1 S.2.1 dX10_make_39 (by decide) ?_
        refine lv_iadd S.1 S.2.1 dX10_make_40 ?_
        refine lv_eqi (nI_add _ _) ?_
        refine lv_istore_n (lv' := [(3, .int (nI (n + 1))), (0, .ref (q 0)), (1, .int (nI (j))), (2, .int (nI (n)))]) S.1 S.2.1 dX10_make_41 rfl hl (by decide) rfl (fun ls hl => ?_)
        refine lv_aload_n S.1 S.2.1 dX10_make_42 rfl (lv_at hl 1 rfl) ?_
        refine lv_iload_n S.1 S.2.1 dX10_make_43 rfl (lv_at hl 0 rfl) ?_
        refine mCV (As := [.int (nI (n + 1))]) (rest := []) S (r_room2 hR hW (n + 1) (by omega) (by omega) hkp ht) cal_X10_room in_388 in_389 in_390 in_5 hK hN hG hR.obj rfl rfl rfl hl.1 (Nat.le_of_ble_eq_true rfl) ⟨by decide, by decide⟩ ⟨rfl, rfl⟩ ⟨by decide, by decide⟩ dX10_make_44 (fun v w H locs hp hG => ?_)
        obtain ⟨rfl, hw9⟩ := hp
        rw [hw9] at hG
        refine W.eq (g2 := F0 m 47 ls [.int (oI (if top + (n + 1) ≤ Wn / 4 then some top else none))]) rfl ?_
        cases hrm9 : (if top + (n + 1) ≤ Wn / 4 then some top else none : Option Nat) with
        | none =>
          refine W.eq (g2 := F0 m 47 ls [.int (oI none)]) rfl ?_
          have hz8 : ¬ top + (n + 1) ≤ Wn / 4 := fun z => by
            rw [if_pos z] at hrm9
            cases hrm9
          refine lv_istore (lv' := [(4, .int (oI none)), (3, .int (nI (n + 1))), (0, .ref (q 0)), (1, .int (nI (j))), (2, .int (nI (n)))]) S.1 S.2.1 dX10_make_47 hl (by decide) rfl (fun ls hl => ?_)
          refine lv_iload S.1 S.2.1 dX10_make_49 (lv_at hl 0 rfl) ?_
          refine lv_iconst (v := -1) S.1 S.2.1 dX10_make_51 (by decide) ?_
          refine lv_icmp_ne (tgt := 101) S.1 S.2.1 dX10_make_52 (by decide) (fun c8 => ?_) (fun c8 => ?_)
          · exact absurd rfl c8
          · refine lv_aload_n S.1 S.2.1 dX10_make_55 rfl (lv_at hl 2 rfl) ?_
            refine rg_kp S hK hG hR dX10_make_56 ?_
            refine lv_iconst (v := nI (2)) S.1 S.2.1 dX10_make_59 (by decide) ?_
            refine lv_icmp_ge (tgt := 71) S.1 S.2.1 dX10_make_60 (by decide) (fun c7 => ?_) (fun c7 => ?_)
            · have c7 : 2 ≤ kp := (nI_leI (a := 2) (b := kp) (by omega) (by omega)).mp c7
              refine lv_iload_n S.1 S.2.1 dX10_make_71 rfl (lv_at hl 1 rfl) ?_
              refine lv_aload_n S.1 S.2.1 dX10_make_72 rfl (lv_at hl 2 rfl) ?_
              refine rg_Wn S hK hG hR dX10_make_73 ?_
              refine lv_iconst (v := nI (4)) S.1 S.2.1 dX10_make_76 (by decide) ?_
              refine lv_idiv S.1 S.2.1 dX10_make_77 (by decide) ?_
              refine lv_eqi (pk_div (by omega) (by omega) (by omega)) ?_
              refine lv_icmp_gt (tgt := 94) S.1 S.2.1 dX10_make_78 (by decide) (fun c6 => ?_) (fun c6 => ?_)
              · have c6 : (Wn / 4) < (n + 1) := (nI_ltI (a := Wn / 4) (b := n + 1) (by omega) (by omega)).mp c6
                refine lv_aload_n S.1 S.2.1 dX10_make_94 rfl (lv_at hl 2 rfl) ?_
                refine lv_iload_n S.1 S.2.1 dX10_make_95 rfl (lv_at hl 1 rfl) ?_
                refine mCV (As := [.int (nI (n + 1))]) (rest := []) S (r_room2 hR hW (n + 1) (by omega) (by omega) hkp (by omega)) cal_X10_room in_388 in_389 in_390 in_5 hK hN hG hR.obj rfl rfl rfl hl.1 (Nat.le_of_ble_eq_true rfl) ⟨by decide, by decide⟩ ⟨rfl, rfl⟩ ⟨by decide, by decide⟩ dX10_make_96 (fun v w H locs hp hG => ?_)
                obtain ⟨rfl, hw9⟩ := hp
                rw [hw9] at hG
                rw [if_neg hz8]
                refine W.eq (g2 := F0 m 99 ls [.int (oI none)]) rfl ?_
                refine lv_istore (lv' := [(4, .int (oI none)), (3, .int (nI (n + 1))), (0, .ref (q 0)), (1, .int (nI (j))), (2, .int (nI (n)))]) S.1 S.2.1 dX10_make_99 hl (by decide) rfl (fun ls hl => ?_)
                refine lv_iload S.1 S.2.1 dX10_make_101 (lv_at hl 0 rfl) ?_
                refine lv_iconst (v := -1) S.1 S.2.1 dX10_make_103 (by decide) ?_
                refine lv_icmp_ne (tgt := 110) S.1 S.2.1 dX10_make_104 (by decide) (fun c9 => ?_) (fun c9 => ?_)
                · exact absurd rfl c9
                · refine lv_bipush (v := -4) S.1 S.2.1 dX10_make_107 (by decide) ?_
                  exact mw_iret S hr hlk hK hG dX10_make_109 (Or.inr (Or.inr ⟨j, n, hj, by omega, rfl, rfl, hmd, Or.inr (Or.inl ⟨hz8, by omega, rfl, hR⟩)⟩))
              · have c6 : ¬ ((Wn / 4) < (n + 1)) := fun h9 => c6 ((nI_ltI (a := Wn / 4) (b := n + 1) (by omega) (by omega)).mpr h9)
                refine lv_aload_n S.1 S.2.1 dX10_make_81 rfl (lv_at hl 2 rfl) ?_
                refine mCV (As := []) (rest := []) S (r_minorNow (Kp := Kp) hB hKm hKf hm hW hkp hfl hLay hY hR hKr hKo hrm tp0) cal_X10_minorNow in_444 in_445 in_446 in_5 hK hN hG hR.obj rfl rfl rfl hl.1 (Nat.le_of_ble_eq_true rfl) ⟨by decide, by decide⟩ ⟨rfl, rfl⟩ ⟨by decide, by decide⟩ dX10_make_82 (fun v w H locs hp hG => ?_)
                obtain ⟨sz2, rw2, pl2, ol2, hp⟩ := hp
                rcases hp with ⟨rfl, hno, hR⟩ | ⟨ow2, tp2, rfl, hRz, hnd, hR⟩
                · refine W.eq (g2 := F0 m 85 ls [.int (-1)]) rfl ?_
                  refine lv_iconst (v := -1) S.1 S.2.1 dX10_make_85 (by decide) ?_
                  refine lv_icmp_ne (tgt := 94) S.1 S.2.1 dX10_make_86 (by decide) (fun c5 => ?_) (fun c5 => ?_)
                  · exact absurd rfl c5
                  · refine lv_aload_n S.1 S.2.1 dX10_make_89 rfl (lv_at hl 2 rfl) ?_
                    refine mCV (As := []) (rest := []) S (r_cnow2 (Kp := Kp) hB hKm hKf hR hm hW hfl hLay hKr hkp hY hrm tp0) cal_X10_collectNow in_397 in_398 in_399 in_5 hK hN hG hR.obj rfl rfl rfl hl.1 (Nat.le_of_ble_eq_true rfl) ⟨by decide, by decide⟩ ⟨rfl, rfl⟩ ⟨by decide, by decide⟩ dX10_make_90 (fun v w H locs hp hG => ?_)
                    obtain ⟨sz2, rw2, pl2, ol2, hp⟩ := hp
                    rcases hp with ⟨rfl, hno2, hR⟩ | ⟨ow2, tp2, rfl, hRz, hnd, hR⟩
                    · refine W.eq (g2 := F0 m 93 ls [.int (-1)]) rfl ?_
                      refine lv_pop S.1 S.2.1 dX10_make_93 rfl ?_
                      refine lv_aload_n S.1 S.2.1 dX10_make_94 rfl (lv_at hl 2 rfl) ?_
                      refine lv_iload_n S.1 S.2.1 dX10_make_95 rfl (lv_at hl 1 rfl) ?_
                      refine mCV (As := [.int (nI (n + 1))]) (rest := []) S (r_room2 hR hW (n + 1) (by omega) (by omega) hkp (by omega)) cal_X10_room in_388 in_389 in_390 in_5 hK hN hG hR.obj rfl rfl rfl hl.1 (Nat.le_of_ble_eq_true rfl) ⟨by decide, by decide⟩ ⟨rfl, rfl⟩ ⟨by decide, by decide⟩ dX10_make_96 (fun v w H locs hp hG => ?_)
                      obtain ⟨rfl, hw9⟩ := hp
                      rw [hw9] at hG
                      rw [if_neg hz8]
                      refine W.eq (g2 := F0 m 99 ls [.int (oI none)]) rfl ?_
                      refine lv_istore (lv' := [(4, .int (oI none)), (3, .int (nI (n + 1))), (0, .ref (q 0)), (1, .int (nI (j))), (2, .int (nI (n)))]) S.1 S.2.1 dX10_make_99 hl (by decide) rfl (fun ls hl => ?_)
                      refine lv_iload S.1 S.2.1 dX10_make_101 (lv_at hl 0 rfl) ?_
                      refine lv_iconst (v := -1) S.1 S.2.1 dX10_make_103 (by decide) ?_
                      refine lv_icmp_ne (tgt := 110) S.1 S.2.1 dX10_make_104 (by decide) (fun c9 => ?_) (fun c9 => ?_)
                      · exact absurd rfl c9
                      · refine lv_bipush (v := -4) S.1 S.2.1 dX10_make_107 (by decide) ?_
                        exact mw_iret S hr hlk hK hG dX10_make_109 (Or.inr (Or.inr ⟨j, n, hj, by omega, rfl, rfl, hmd, Or.inr (Or.inr (Or.inr ⟨hz8, by omega, hno, sz2, rw2, pl2, ol2, Or.inl ⟨hno2, rfl, hR⟩⟩))⟩))
                    · refine W.eq (g2 := F0 m 93 ls [.int (nI (cnt (ded true kp Wn adr (LRR fl rfs root)) made + cnt (yng kp Wn (rzA (swA (blw made (ded true kp Wn adr (LRR fl rfs root))) adr) tp2 (LYR kp Wn fl rfs root (swA (blw made (ded true kp Wn adr (LRR fl rfs root))) adr) (swO (blw made (ded true kp Wn adr (LRR fl rfs root))) own) (swR (blw made (ded true kp Wn adr (LRR fl rfs root))) rem)))) made))]) rfl ?_
                      refine lv_pop S.1 S.2.1 dX10_make_93 rfl ?_
                      refine lv_aload_n S.1 S.2.1 dX10_make_94 rfl (lv_at hl 2 rfl) ?_
                      refine lv_iload_n S.1 S.2.1 dX10_make_95 rfl (lv_at hl 1 rfl) ?_
                      refine mCV (As := [.int (nI (n + 1))]) (rest := []) S (r_room2 hR hW (n + 1) (by omega) (by omega) hkp (by omega)) cal_X10_room in_388 in_389 in_390 in_5 hK hN hG hR.obj rfl rfl rfl hl.1 (Nat.le_of_ble_eq_true rfl) ⟨by decide, by decide⟩ ⟨rfl, rfl⟩ ⟨by decide, by decide⟩ dX10_make_96 (fun v w H locs hp hG => ?_)
                      obtain ⟨rfl, hw9⟩ := hp
                      rw [hw9] at hG
                      rw [if_pos (show 0 + (n + 1) ≤ Wn / 4 by omega)]
                      refine W.eq (g2 := F0 m 99 ls [.int (nI (0))]) rfl ?_
                      refine lv_istore (lv' := [(4, .int (nI (0))), (3, .int (nI (n + 1))), (0, .ref (q 0)), (1, .int (nI (j))), (2, .int (nI (n)))]) S.1 S.2.1 dX10_make_99 hl (by decide) rfl (fun ls hl => ?_)
                      refine lv_iload S.1 S.2.1 dX10_make_101 (lv_at hl 0 rfl) ?_
                      refine lv_iconst (v := -1) S.1 S.2.1 dX10_make_103 (by decide) ?_
                      refine lv_icmp_ne (tgt := 110) S.1 S.2.1 dX10_make_104 (by decide) (fun c9 => ?_) (fun c9 => ?_)
                      · exact TT _ _ _ _ _ _ _ _ _ _ _ _ (0) (by omega) (fun w2 h2 => Or.inr (Or.inr ⟨j, n, hj, by omega, rfl, rfl, hmd, Or.inr (Or.inr (Or.inr ⟨hz8, by omega, hno, sz2, rw2, pl2, ol2, Or.inr ⟨ow2, tp2, hRz, hnd, rfl, h2⟩⟩))⟩)) _ _ _ hR hG ls (lv_sub hl [0, 1, 2, 3, 4] rfl)
                      · exact absurd c9 (nI_m1 (by omega))
                · have hcl9 := cnt_le (yng kp Wn (rzA adr tp2 (LYR kp Wn fl rfs root adr own rem))) made
                  refine W.eq (g2 := F0 m 85 ls [.int (nI (cnt (yng kp Wn (rzA adr tp2 (LYR kp Wn fl rfs root adr own rem))) made))]) rfl ?_
                  refine lv_iconst (v := -1) S.1 S.2.1 dX10_make_85 (by decide) ?_
                  refine lv_icmp_ne (tgt := 94) S.1 S.2.1 dX10_make_86 (by decide) (fun c5 => ?_) (fun c5 => ?_)
                  · refine lv_aload_n S.1 S.2.1 dX10_make_94 rfl (lv_at hl 2 rfl) ?_
                    refine lv_iload_n S.1 S.2.1 dX10_make_95 rfl (lv_at hl 1 rfl) ?_
                    refine mCV (As := [.int (nI (n + 1))]) (rest := []) S (r_room2 hR hW (n + 1) (by omega) (by omega) hkp (by omega)) cal_X10_room in_388 in_389 in_390 in_5 hK hN hG hR.obj rfl rfl rfl hl.1 (Nat.le_of_ble_eq_true rfl) ⟨by decide, by decide⟩ ⟨rfl, rfl⟩ ⟨by decide, by decide⟩ dX10_make_96 (fun v w H locs hp hG => ?_)
                    obtain ⟨rfl, hw9⟩ := hp
                    rw [hw9] at hG
                    rw [if_pos (show 0 + (n + 1) ≤ Wn / 4 by omega)]
                    refine W.eq (g2 := F0 m 99 ls [.int (nI (0))]) rfl ?_
                    refine lv_istore (lv' := [(4, .int (nI (0))), (3, .int (nI (n + 1))), (0, .ref (q 0)), (1, .int (nI (j))), (2, .int (nI (n)))]) S.1 S.2.1 dX10_make_99 hl (by decide) rfl (fun ls hl => ?_)
                    refine lv_iload S.1 S.2.1 dX10_make_101 (lv_at hl 0 rfl) ?_
                    refine lv_iconst (v := -1) S.1 S.2.1 dX10_make_103 (by decide) ?_
                    refine lv_icmp_ne (tgt := 110) S.1 S.2.1 dX10_make_104 (by decide) (fun c9 => ?_) (fun c9 => ?_)
                    · exact TT _ _ _ _ _ _ _ _ _ _ _ _ (0) (by omega) (fun w2 h2 => Or.inr (Or.inr ⟨j, n, hj, by omega, rfl, rfl, hmd, Or.inr (Or.inr (Or.inl ⟨hz8, by omega, sz2, rw2, pl2, ol2, ow2, tp2, hRz, hnd, rfl, h2⟩))⟩)) _ _ _ hR hG ls (lv_sub hl [0, 1, 2, 3, 4] rfl)
                    · exact absurd c9 (nI_m1 (by omega))
                  · exact absurd c5 (nI_m1 (by omega))
            · have c7 : ¬ (2 ≤ kp) := fun h9 => c7 ((nI_leI (a := 2) (b := kp) (by omega) (by omega)).mpr h9)
              exact absurd c7 (by omega)
        | some a =>
          refine W.eq (g2 := F0 m 47 ls [.int (nI (a))]) rfl ?_
          have ha9 : top = a ∧ top + (n + 1) ≤ Wn / 4 := by
            by_cases z : top + (n + 1) ≤ Wn / 4
            · rw [if_pos z] at hrm9
              cases hrm9
              exact ⟨rfl, z⟩
            · rw [if_neg z] at hrm9
              cases hrm9
          obtain ⟨ha9, hz9⟩ := ha9
          subst ha9
          refine lv_istore (lv' := [(4, .int (nI (top))), (3, .int (nI (n + 1))), (0, .ref (q 0)), (1, .int (nI (j))), (2, .int (nI (n)))]) S.1 S.2.1 dX10_make_47 hl (by decide) rfl (fun ls hl => ?_)
          refine lv_iload S.1 S.2.1 dX10_make_49 (lv_at hl 0 rfl) ?_
          refine lv_iconst (v := -1) S.1 S.2.1 dX10_make_51 (by decide) ?_
          refine lv_icmp_ne (tgt := 101) S.1 S.2.1 dX10_make_52 (by decide) (fun c8 => ?_) (fun c8 => ?_)
          · refine lv_iload S.1 S.2.1 dX10_make_101 (lv_at hl 0 rfl) ?_
            refine lv_iconst (v := -1) S.1 S.2.1 dX10_make_103 (by decide) ?_
            refine lv_icmp_ne (tgt := 110) S.1 S.2.1 dX10_make_104 (by decide) (fun c9 => ?_) (fun c9 => ?_)
            · exact TT _ _ _ _ _ _ _ _ _ _ _ _ (top) (by omega) (fun w2 h2 => Or.inr (Or.inr ⟨j, n, hj, by omega, rfl, rfl, hmd, Or.inl ⟨hz9, rfl, h2⟩⟩)) _ _ _ hR hG ls (lv_sub hl [0, 1, 2, 3, 4] rfl)
            · exact absurd c9 (nI_m1 (by omega))
          · exact absurd c8 (nI_m1 (by omega))
      · have c3 : made = 2000 := (nI_eq (a := made) (b := 2000) (by omega) (by omega)).mp c3
        refine lv_bipush (v := -4) S.1 S.2.1 dX10_make_35 (by decide) ?_
        exact mw_iret S hr hlk hK hG dX10_make_37 (Or.inr (Or.inl ⟨⟨inR_nI hj (by decide), inR_nI hn (by decide)⟩, c3, rfl, hR⟩))
    · refine lv_bipush (v := -2) S.1 S.2.1 dX10_make_22 (by decide) ?_
      exact mw_iret S hr hlk hK hG dX10_make_24 (Or.inl ⟨Or.inr (bI_f c2), rfl, hR⟩)
theorem cal_X10_collect : mCal yX10_collect cX10_collect 2 0 (some .int) := ⟨in_569, by decide +kernel⟩
set_option maxHeartbeats 4000000 in
set_option maxRecDepth 100000 in
theorem r_collect0 {l : Launch} {dC : Nat → ClassId} {dI : Nat → Nat → Nat} {cI cZ cT : ClassId} {q : Nat → Nat} {thr : Int32} {kp : Nat} {Wn : Nat} {made : Nat} {adr : (Nat → Option Nat)} {fl : (Nat → Nat)} {rem : (Nat → Bool)} {num : (Nat → Nat → Int32)} {rfs : (Nat → Nat → Option Nat)} {root : (Nat → Option Nat)} {own : (Nat → Option Nat)} {half : Nat} {top : Nat} {coll : Nat} {mins : Nat} {movd : Nat} {size : Nat} {row : (Nat → Nat)} {plc : (Nat → Option Nat)} {old : (Nat → Option Nat)} {Kp : Nat → Prop} (hB : ∀ M : List Nat, M.Nodup → (∀ x ∈ M, Kp x) → M.length ≤ 400) (hKm : ∀ x, Kp x → x < made ∧ ∃ a, adr x = some a) (hKf : ∀ x, Kp x → ∀ i, i < fl x → ∀ t, rfs x i = some t → Kp t) {w : mM} (hR : RW cI cZ q thr kp Wn made adr fl rem num rfs root own half top coll mins movd size row plc old w) (hm : made ≤ 2000) (hW : Wn ≤ 400) (hfl : ∀ x, x < made → fl x ≤ 6) (hLay : Lay made Wn fl adr own) (hKr : ∀ i, i < 16 → ∀ t, root i = some t → Kp t) (hkp : kp = 0) : mC l yX10_collect (wsY yX10_collect cX10_collect 2 (some .int)) { frames := 4, cells := 0, slots := 0, locals := 88 } (dC, dI) vwCl (tyL cI cZ cT) 0 0 w [.ref (q 0)] (fun v w2 => ∃ (sz2 : Nat) (rw2 : Nat → Nat) (pl2 : Nat → Option Nat), v = some (.int (nI (cnt (ded false kp Wn adr (LRR fl rfs root)) made))) ∧ RW cI cZ q 0 kp Wn made (swA (blw made (ded false kp Wn adr (LRR fl rfs root))) adr) fl (swR (blw made (ded false kp Wn adr (LRR fl rfs root))) rem) num rfs root (swO (blw made (ded false kp Wn adr (LRR fl rfs root))) own) half top (coll + 1) mins movd sz2 rw2 pl2 old w2) := by
  refine mC.on (by decide) (Nat.le_of_ble_eq_true rfl) ?_
  intro p e s m args below meth c ls S hr hlk hnm hK hN hG hl
  have hl : lv_has ls 2 [(0, .ref (q 0))] := hl
  generalize hAe : mA w s.heap.size = A at hG ⊢
  refine lv_aload_n S.1 S.2.1 dX10_collect_0 rfl (lv_at hl 0 rfl) ?_
  refine lv_iconst (v := 0) S.1 S.2.1 dX10_collect_1 (by decide) ?_
  refine rp_thr S hK hG hR (0) dX10_collect_2 (fun w H locs hR hG => ?_)
  refine lv_aload_n S.1 S.2.1 dX10_collect_5 rfl (lv_at hl 0 rfl) ?_
  refine mCV (As := []) (rest := []) S (r_cnow0 (Kp := Kp) hB hKm hKf hR hm hW hfl hLay hKr hkp) cal_X10_collectNow in_397 in_398 in_399 in_5 hK hN hG hR.obj rfl rfl rfl hl.1 (Nat.le_of_ble_eq_true rfl) ⟨by decide, by decide⟩ ⟨rfl, rfl⟩ ⟨by decide, by decide⟩ dX10_collect_6 (fun v w H locs hp hG => ?_)
  obtain ⟨sz2, rw2, pl2, rfl, hR⟩ := hp
  have hcl0 := cnt_le (ded false kp Wn adr (LRR fl rfs root)) made
  refine W.eq (g2 := F0 m 9 ls [.int (nI (cnt (ded false kp Wn adr (LRR fl rfs root)) made))]) rfl ?_
  refine lv_istore_n (lv' := [(1, .int (nI (cnt (ded false kp Wn adr (LRR fl rfs root)) made))), (0, .ref (q 0))]) S.1 S.2.1 dX10_collect_9 rfl hl (by decide) rfl (fun ls hl => ?_)
  refine lv_iload_n S.1 S.2.1 dX10_collect_10 rfl (lv_at hl 0 rfl) ?_
  refine lv_iconst (v := -1) S.1 S.2.1 dX10_collect_11 (by decide) ?_
  refine lv_icmp_ne (tgt := 20) S.1 S.2.1 dX10_collect_12 (by decide) (fun c1 => ?_) (fun c1 => ?_)
  · refine lv_iload_n S.1 S.2.1 dX10_collect_20 rfl (lv_at hl 0 rfl) ?_
    exact mw_iret S hr hlk hK hG dX10_collect_21 (⟨sz2, rw2, pl2, rfl, hR⟩)
  · exact absurd c1 (nI_m1 (by omega))
set_option maxHeartbeats 4000000 in
set_option maxRecDepth 100000 in
theorem r_collect1 {l : Launch} {dC : Nat → ClassId} {dI : Nat → Nat → Nat} {cI cZ cT : ClassId} {q : Nat → Nat} {thr : Int32} {kp : Nat} {Wn : Nat} {made : Nat} {adr : (Nat → Option Nat)} {fl : (Nat → Nat)} {rem : (Nat → Bool)} {num : (Nat → Nat → Int32)} {rfs : (Nat → Nat → Option Nat)} {root : (Nat → Option Nat)} {own : (Nat → Option Nat)} {half : Nat} {top : Nat} {coll : Nat} {mins : Nat} {movd : Nat} {size : Nat} {row : (Nat → Nat)} {plc : (Nat → Option Nat)} {old : (Nat → Option Nat)} {Kp : Nat → Prop} (hB : ∀ M : List Nat, M.Nodup → (∀ x ∈ M, Kp x) → M.length ≤ 400) (hKm : ∀ x, Kp x → x < made ∧ ∃ a, adr x = some a) (hKf : ∀ x, Kp x → ∀ i, i < fl x → ∀ t, rfs x i = some t → Kp t) {w : mM} (hR : RW cI cZ q thr kp Wn made adr fl rem num rfs root own half top coll mins movd size row plc old w) (hm : made ≤ 2000) (hW : Wn ≤ 400) (hfl : ∀ x, x < made → fl x ≤ 6) (hLay : Lay made Wn fl adr own) (hKr : ∀ i, i < 16 → ∀ t, root i = some t → Kp t) (hkp : kp = 1) (hh : half ≤ 1) (hcap : szL fl 0 (LRR fl rfs root) ≤ Wn / 2) : mC l yX10_collect (wsY yX10_collect cX10_collect 2 (some .int)) { frames := 5, cells := 0, slots := 0, locals := 110 } (dC, dI) vwCl (tyL cI cZ cT) 0 0 w [.ref (q 0)] (fun v w2 => ∃ (sz2 : Nat) (rw2 : Nat → Nat) (pl2 : Nat → Option Nat), v = some (.int (nI (cnt (ded false kp Wn adr (LRR fl rfs root)) made))) ∧ RW cI cZ q 0 kp Wn made (((LRR fl rfs root).foldl (plR fl) ((1 - half) * (Wn / 2), swA (blw made (ded false kp Wn adr (LRR fl rfs root))) adr, fun _ => none)).2.1) fl (swR (blw made (ded false kp Wn adr (LRR fl rfs root))) rem) num rfs root (((LRR fl rfs root).foldl (plR fl) ((1 - half) * (Wn / 2), swA (blw made (ded false kp Wn adr (LRR fl rfs root))) adr, fun _ => none)).2.2) (1 - half) (((LRR fl rfs root).foldl (plR fl) ((1 - half) * (Wn / 2), swA (blw made (ded false kp Wn adr (LRR fl rfs root))) adr, fun _ => none)).1) (coll + 1) mins (movd + (LRR fl rfs root).length) sz2 rw2 pl2 old w2) := by
  refine mC.on (by decide) (Nat.le_of_ble_eq_true rfl) ?_
  intro p e s m args below meth c ls S hr hlk hnm hK hN hG hl
  have hl : lv_has ls 2 [(0, .ref (q 0))] := hl
  generalize hAe : mA w s.heap.size = A at hG ⊢
  refine lv_aload_n S.1 S.2.1 dX10_collect_0 rfl (lv_at hl 0 rfl) ?_
  refine lv_iconst (v := 0) S.1 S.2.1 dX10_collect_1 (by decide) ?_
  refine rp_thr S hK hG hR (0) dX10_collect_2 (fun w H locs hR hG => ?_)
  refine lv_aload_n S.1 S.2.1 dX10_collect_5 rfl (lv_at hl 0 rfl) ?_
  refine mCV (As := []) (rest := []) S (r_cnow1 (Kp := Kp) hB hKm hKf hR hm hW hfl hLay hKr hkp hh hcap) cal_X10_collectNow in_397 in_398 in_399 in_5 hK hN hG hR.obj rfl rfl rfl hl.1 (Nat.le_of_ble_eq_true rfl) ⟨by decide, by decide⟩ ⟨rfl, rfl⟩ ⟨by decide, by decide⟩ dX10_collect_6 (fun v w H locs hp hG => ?_)
  obtain ⟨sz2, rw2, pl2, rfl, hR⟩ := hp
  have hcl0 := cnt_le (ded false kp Wn adr (LRR fl rfs root)) made
  refine W.eq (g2 := F0 m 9 ls [.int (nI (cnt (ded false kp Wn adr (LRR fl rfs root)) made))]) rfl ?_
  refine lv_istore_n (lv' := [(1, .int (nI (cnt (ded false kp Wn adr (LRR fl rfs root)) made))), (0, .ref (q 0))]) S.1 S.2.1 dX10_collect_9 rfl hl (by decide) rfl (fun ls hl => ?_)
  refine lv_iload_n S.1 S.2.1 dX10_collect_10 rfl (lv_at hl 0 rfl) ?_
  refine lv_iconst (v := -1) S.1 S.2.1 dX10_collect_11 (by decide) ?_
  refine lv_icmp_ne (tgt := 20) S.1 S.2.1 dX10_collect_12 (by decide) (fun c1 => ?_) (fun c1 => ?_)
  · refine lv_iload_n S.1 S.2.1 dX10_collect_20 rfl (lv_at hl 0 rfl) ?_
    exact mw_iret S hr hlk hK hG dX10_collect_21 (⟨sz2, rw2, pl2, rfl, hR⟩)
  · exact absurd c1 (nI_m1 (by omega))
set_option maxHeartbeats 4000000 in
set_option maxRecDepth 100000 in
theorem r_collect2 {l : Launch} {dC : Nat → ClassId} {dI : Nat → Nat → Nat} {cI cZ cT : ClassId} {q : Nat → Nat} {thr : Int32} {kp : Nat} {Wn : Nat} {made : Nat} {adr : (Nat → Option Nat)} {fl : (Nat → Nat)} {rem : (Nat → Bool)} {num : (Nat → Nat → Int32)} {rfs : (Nat → Nat → Option Nat)} {root : (Nat → Option Nat)} {own : (Nat → Option Nat)} {half : Nat} {top : Nat} {coll : Nat} {mins : Nat} {movd : Nat} {size : Nat} {row : (Nat → Nat)} {plc : (Nat → Option Nat)} {old : (Nat → Option Nat)} {Kp : Nat → Prop} (hB : ∀ M : List Nat, M.Nodup → (∀ x ∈ M, Kp x) → M.length ≤ 400) (hKm : ∀ x, Kp x → x < made ∧ ∃ a, adr x = some a) (hKf : ∀ x, Kp x → ∀ i, i < fl x → ∀ t, rfs x i = some t → Kp t) {w : mM} (hR : RW cI cZ q thr kp Wn made adr fl rem num rfs root own half top coll mins movd size row plc old w) (hm : made ≤ 2000) (hW : Wn ≤ 400) (hfl : ∀ x, x < made → fl x ≤ 6) (hLay : Lay made Wn fl adr own) (hKr : ∀ i, i < 16 → ∀ t, root i = some t → Kp t) (hkp : kp = 2) (hY : ∀ k a, k < made → adr k = some a → a < Wn / 4 → a + fl k < Wn / 4) (hrm : ∀ o a, o < made → adr o = some a → a < Wn / 4 → rem o = false) (tp0 : Nat → Nat) : mC l yX10_collect (wsY yX10_collect cX10_collect 2 (some .int)) { frames := 5, cells := 0, slots := 0, locals := 114 } (dC, dI) vwCl (tyL cI cZ cT) 0 0 w [.ref (q 0)] (fun v w2 => ∃ (sz2 : Nat) (rw2 : Nat → Nat) (pl2 ol2 : Nat → Option Nat), (v = some (.int (-4)) ∧ lay fl Wn (LYR kp Wn fl rfs root (swA (blw made (ded true kp Wn adr (LRR fl rfs root))) adr) (swO (blw made (ded true kp Wn adr (LRR fl rfs root))) own) (swR (blw made (ded true kp Wn adr (LRR fl rfs root))) rem)) ((swO (blw made (ded true kp Wn adr (LRR fl rfs root))) own), tp0) = none ∧ RW cI cZ q 0 kp Wn made ((swA (blw made (ded true kp Wn adr (LRR fl rfs root))) adr)) fl ((swR (blw made (ded true kp Wn adr (LRR fl rfs root))) rem)) num rfs root ((swO (blw made (ded true kp Wn adr (LRR fl rfs root))) own)) half top (coll + 1) mins movd sz2 rw2 pl2 ol2 w2) ∨ ∃ (ow2 : Nat → Option Nat) (tp2 : Nat → Nat), v = some (.int (nI (cnt (ded true kp Wn adr (LRR fl rfs root)) made + cnt (yng kp Wn (rzA (swA (blw made (ded true kp Wn adr (LRR fl rfs root))) adr) tp2 (LYR kp Wn fl rfs root (swA (blw made (ded true kp Wn adr (LRR fl rfs root))) adr) (swO (blw made (ded true kp Wn adr (LRR fl rfs root))) own) (swR (blw made (ded true kp Wn adr (LRR fl rfs root))) rem)))) made))) ∧ Rz made Wn fl (swA (blw made (ded true kp Wn adr (LRR fl rfs root))) adr) (swO (blw made (ded true kp Wn adr (LRR fl rfs root))) own) tp0 (LYR kp Wn fl rfs root (swA (blw made (ded true kp Wn adr (LRR fl rfs root))) adr) (swO (blw made (ded true kp Wn adr (LRR fl rfs root))) own) (swR (blw made (ded true kp Wn adr (LRR fl rfs root))) rem)) ol2 ow2 tp2 ∧ (LYR kp Wn fl rfs root (swA (blw made (ded true kp Wn adr (LRR fl rfs root))) adr) (swO (blw made (ded true kp Wn adr (LRR fl rfs root))) own) (swR (blw made (ded true kp Wn adr (LRR fl rfs root))) rem)).Nodup ∧ RW cI cZ q 0 kp Wn made (swA (blw made (yng kp Wn (rzA (swA (blw made (ded true kp Wn adr (LRR fl rfs root))) adr) tp2 (LYR kp Wn fl rfs root (swA (blw made (ded true kp Wn adr (LRR fl rfs root))) adr) (swO (blw made (ded true kp Wn adr (LRR fl rfs root))) own) (swR (blw made (ded true kp Wn adr (LRR fl rfs root))) rem))))) (rzA (swA (blw made (ded true kp Wn adr (LRR fl rfs root))) adr) tp2 (LYR kp Wn fl rfs root (swA (blw made (ded true kp Wn adr (LRR fl rfs root))) adr) (swO (blw made (ded true kp Wn adr (LRR fl rfs root))) own) (swR (blw made (ded true kp Wn adr (LRR fl rfs root))) rem)))) fl (clrB (swR (blw made (ded true kp Wn adr (LRR fl rfs root))) rem) made) num rfs root (swO (blw made (yng kp Wn (rzA (swA (blw made (ded true kp Wn adr (LRR fl rfs root))) adr) tp2 (LYR kp Wn fl rfs root (swA (blw made (ded true kp Wn adr (LRR fl rfs root))) adr) (swO (blw made (ded true kp Wn adr (LRR fl rfs root))) own) (swR (blw made (ded true kp Wn adr (LRR fl rfs root))) rem))))) (rzO Wn (swO (blw made (ded true kp Wn adr (LRR fl rfs root))) own) ow2 (LYR kp Wn fl rfs root (swA (blw made (ded true kp Wn adr (LRR fl rfs root))) adr) (swO (blw made (ded true kp Wn adr (LRR fl rfs root))) own) (swR (blw made (ded true kp Wn adr (LRR fl rfs root))) rem)))) half 0 (coll + 1) (mins + 1) (movd + (LYR kp Wn fl rfs root (swA (blw made (ded true kp Wn adr (LRR fl rfs root))) adr) (swO (blw made (ded true kp Wn adr (LRR fl rfs root))) own) (swR (blw made (ded true kp Wn adr (LRR fl rfs root))) rem)).length) sz2 rw2 pl2 ol2 w2) := by
  refine mC.on (by decide) (Nat.le_of_ble_eq_true rfl) ?_
  intro p e s m args below meth c ls S hr hlk hnm hK hN hG hl
  have hl : lv_has ls 2 [(0, .ref (q 0))] := hl
  generalize hAe : mA w s.heap.size = A at hG ⊢
  refine lv_aload_n S.1 S.2.1 dX10_collect_0 rfl (lv_at hl 0 rfl) ?_
  refine lv_iconst (v := 0) S.1 S.2.1 dX10_collect_1 (by decide) ?_
  refine rp_thr S hK hG hR (0) dX10_collect_2 (fun w H locs hR hG => ?_)
  refine lv_aload_n S.1 S.2.1 dX10_collect_5 rfl (lv_at hl 0 rfl) ?_
  refine mCV (As := []) (rest := []) S (r_cnow2 (Kp := Kp) hB hKm hKf hR hm hW hfl hLay hKr hkp hY hrm tp0) cal_X10_collectNow in_397 in_398 in_399 in_5 hK hN hG hR.obj rfl rfl rfl hl.1 (Nat.le_of_ble_eq_true rfl) ⟨by decide, by decide⟩ ⟨rfl, rfl⟩ ⟨by decide, by decide⟩ dX10_collect_6 (fun v w H locs hp hG => ?_)
  obtain ⟨sz2, rw2, pl2, ol2, hp⟩ := hp
  rcases hp with ⟨rfl, hno, hR⟩ | ⟨ow2, tp2, rfl, hRz, hnd, hR⟩
  · refine W.eq (g2 := F0 m 9 ls [.int (-1)]) rfl ?_
    refine lv_istore_n (lv' := [(1, .int (-1)), (0, .ref (q 0))]) S.1 S.2.1 dX10_collect_9 rfl hl (by decide) rfl (fun ls hl => ?_)
    refine lv_iload_n S.1 S.2.1 dX10_collect_10 rfl (lv_at hl 0 rfl) ?_
    refine lv_iconst (v := -1) S.1 S.2.1 dX10_collect_11 (by decide) ?_
    refine lv_icmp_ne (tgt := 20) S.1 S.2.1 dX10_collect_12 (by decide) (fun c1 => ?_) (fun c1 => ?_)
    · exact absurd rfl c1
    · refine lv_bipush (v := -4) S.1 S.2.1 dX10_collect_15 (by decide) ?_
      refine lv_goto (tgt := 21) S.1 S.2.1 dX10_collect_17 (by decide) ?_
      exact mw_iret S hr hlk hK hG dX10_collect_21 (⟨sz2, rw2, pl2, ol2, Or.inl ⟨rfl, hno, hR⟩⟩)
  · have hcl0 := cnt_le (ded true kp Wn adr (LRR fl rfs root)) made
    have hcl1 := cnt_le (yng kp Wn (rzA (swA (blw made (ded true kp Wn adr (LRR fl rfs root))) adr) tp2 (LYR kp Wn fl rfs root (swA (blw made (ded true kp Wn adr (LRR fl rfs root))) adr) (swO (blw made (ded true kp Wn adr (LRR fl rfs root))) own) (swR (blw made (ded true kp Wn adr (LRR fl rfs root))) rem)))) made
    refine W.eq (g2 := F0 m 9 ls [.int (nI (cnt (ded true kp Wn adr (LRR fl rfs root)) made + cnt (yng kp Wn (rzA (swA (blw made (ded true kp Wn adr (LRR fl rfs root))) adr) tp2 (LYR kp Wn fl rfs root (swA (blw made (ded true kp Wn adr (LRR fl rfs root))) adr) (swO (blw made (ded true kp Wn adr (LRR fl rfs root))) own) (swR (blw made (ded true kp Wn adr (LRR fl rfs root))) rem)))) made))]) rfl ?_
    refine lv_istore_n (lv' := [(1, .int (nI (cnt (ded true kp Wn adr (LRR fl rfs root)) made + cnt (yng kp Wn (rzA (swA (blw made (ded true kp Wn adr (LRR fl rfs root))) adr) tp2 (LYR kp Wn fl rfs root (swA (blw made (ded true kp Wn adr (LRR fl rfs root))) adr) (swO (blw made (ded true kp Wn adr (LRR fl rfs root))) own) (swR (blw made (ded true kp Wn adr (LRR fl rfs root))) rem)))) made))), (0, .ref (q 0))]) S.1 S.2.1 dX10_collect_9 rfl hl (by decide) rfl (fun ls hl => ?_)
    refine lv_iload_n S.1 S.2.1 dX10_collect_10 rfl (lv_at hl 0 rfl) ?_
    refine lv_iconst (v := -1) S.1 S.2.1 dX10_collect_11 (by decide) ?_
    refine lv_icmp_ne (tgt := 20) S.1 S.2.1 dX10_collect_12 (by decide) (fun c1 => ?_) (fun c1 => ?_)
    · refine lv_iload_n S.1 S.2.1 dX10_collect_20 rfl (lv_at hl 0 rfl) ?_
      exact mw_iret S hr hlk hK hG dX10_collect_21 (⟨sz2, rw2, pl2, ol2, Or.inr ⟨ow2, tp2, rfl, hRz, hnd, hR⟩⟩)
    · exact absurd c1 (nI_m1 (by omega))
theorem cal_X10_minor : mCal yX10_minor cX10_minor 2 0 (some .int) := ⟨in_585, by decide +kernel⟩
set_option maxHeartbeats 4000000 in
set_option maxRecDepth 100000 in
theorem r_minor0 {l : Launch} {dC : Nat → ClassId} {dI : Nat → Nat → Nat} {cI cZ cT : ClassId} {q : Nat → Nat} {thr : Int32} {kp : Nat} {Wn : Nat} {made : Nat} {adr : (Nat → Option Nat)} {fl : (Nat → Nat)} {rem : (Nat → Bool)} {num : (Nat → Nat → Int32)} {rfs : (Nat → Nat → Option Nat)} {root : (Nat → Option Nat)} {own : (Nat → Option Nat)} {half : Nat} {top : Nat} {coll : Nat} {mins : Nat} {movd : Nat} {size : Nat} {row : (Nat → Nat)} {plc : (Nat → Option Nat)} {old : (Nat → Option Nat)} {w : mM} (hR : RW cI cZ q thr kp Wn made adr fl rem num rfs root own half top coll mins movd size row plc old w) (hkp : ¬ kp = 2) (hk2 : kp ≤ 2) : mC l yX10_minor (wsY yX10_minor cX10_minor 2 (some .int)) { frames := 0, cells := 0, slots := 0, locals := 0 } (dC, dI) vwCl (tyL cI cZ cT) 0 0 w [.ref (q 0)] (fun v w2 => v = some (.int (-2)) ∧ RW cI cZ q 0 kp Wn made adr fl rem num rfs root own half top coll mins movd size row plc old w2) := by
  refine mC.on (by decide) (Nat.le_of_ble_eq_true rfl) ?_
  intro p e s m args below meth c ls S hr hlk hnm hK hN hG hl
  have hl : lv_has ls 2 [(0, .ref (q 0))] := hl
  generalize hAe : mA w s.heap.size = A at hG ⊢
  refine lv_aload_n S.1 S.2.1 dX10_minor_0 rfl (lv_at hl 0 rfl) ?_
  refine lv_iconst (v := 0) S.1 S.2.1 dX10_minor_1 (by decide) ?_
  refine rp_thr S hK hG hR (0) dX10_minor_2 (fun w H locs hR hG => ?_)
  refine lv_aload_n S.1 S.2.1 dX10_minor_5 rfl (lv_at hl 0 rfl) ?_
  refine rg_kp S hK hG hR dX10_minor_6 ?_
  refine lv_iconst (v := nI (2)) S.1 S.2.1 dX10_minor_9 (by decide) ?_
  refine lv_icmp_eq (tgt := 16) S.1 S.2.1 dX10_minor_10 (by decide) (fun c1 => ?_) (fun c1 => ?_)
  · have c1 : kp = 2 := (nI_eq (a := kp) (b := 2) (by omega) (by omega)).mp c1
    exact absurd c1 hkp
  · have c1 : ¬ (kp = 2) := fun h9 => c1 ((nI_eq (a := kp) (b := 2) (by omega) (by omega)).mpr h9)
    refine lv_bipush (v := -2) S.1 S.2.1 dX10_minor_13 (by decide) ?_
    exact mw_iret S hr hlk hK hG dX10_minor_15 ⟨rfl, hR⟩
set_option maxHeartbeats 4000000 in
set_option maxRecDepth 100000 in
theorem r_minor2 {l : Launch} {dC : Nat → ClassId} {dI : Nat → Nat → Nat} {cI cZ cT : ClassId} {q : Nat → Nat} {thr : Int32} {kp : Nat} {Wn : Nat} {made : Nat} {adr : (Nat → Option Nat)} {fl : (Nat → Nat)} {rem : (Nat → Bool)} {num : (Nat → Nat → Int32)} {rfs : (Nat → Nat → Option Nat)} {root : (Nat → Option Nat)} {own : (Nat → Option Nat)} {half : Nat} {top : Nat} {coll : Nat} {mins : Nat} {movd : Nat} {size : Nat} {row : (Nat → Nat)} {plc : (Nat → Option Nat)} {old : (Nat → Option Nat)} {Kp : Nat → Prop} (hB : ∀ M : List Nat, M.Nodup → (∀ x ∈ M, Kp x) → M.length ≤ 400) (hKm : ∀ x, Kp x → x < made ∧ ∃ a, adr x = some a) (hKf : ∀ x, Kp x → ∀ i, i < fl x → ∀ t, rfs x i = some t → Kp t) {w : mM} (hR : RW cI cZ q thr kp Wn made adr fl rem num rfs root own half top coll mins movd size row plc old w) (hm : made ≤ 2000) (hW : Wn ≤ 400) (hfl : ∀ x, x < made → fl x ≤ 6) (hLay : Lay made Wn fl adr own) (hKr : ∀ i, i < 16 → ∀ t, root i = some t → Kp t) (hkp : kp = 2) (hY : ∀ k a, k < made → adr k = some a → a < Wn / 4 → a + fl k < Wn / 4) (hrm : ∀ o a, o < made → adr o = some a → a < Wn / 4 → rem o = false) (hKo : ∀ k t, Wn / 4 ≤ k → own k = some t → Kp t) (tp0 : Nat → Nat) : mC l yX10_minor (wsY yX10_minor cX10_minor 2 (some .int)) { frames := 4, cells := 0, slots := 0, locals := 92 } (dC, dI) vwCl (tyL cI cZ cT) 0 0 w [.ref (q 0)] (fun v w2 => ∃ (sz2 : Nat) (rw2 : Nat → Nat) (pl2 ol2 : Nat → Option Nat), (v = some (.int (-4)) ∧ lay fl Wn (LYR kp Wn fl rfs root adr own rem) (own, tp0) = none ∧ RW cI cZ q 0 kp Wn made adr fl rem num rfs root own half top coll mins movd sz2 rw2 pl2 ol2 w2) ∨ ∃ (ow2 : Nat → Option Nat) (tp2 : Nat → Nat), v = some (.int (nI (cnt (yng kp Wn (rzA adr tp2 (LYR kp Wn fl rfs root adr own rem))) made))) ∧ Rz made Wn fl adr own tp0 (LYR kp Wn fl rfs root adr own rem) ol2 ow2 tp2 ∧ (LYR kp Wn fl rfs root adr own rem).Nodup ∧ RW cI cZ q 0 kp Wn made (swA (blw made (yng kp Wn (rzA adr tp2 (LYR kp Wn fl rfs root adr own rem)))) (rzA adr tp2 (LYR kp Wn fl rfs root adr own rem))) fl (clrB rem made) num rfs root (swO (blw made (yng kp Wn (rzA adr tp2 (LYR kp Wn fl rfs root adr own rem)))) (rzO Wn own ow2 (LYR kp Wn fl rfs root adr own rem))) half 0 coll (mins + 1) (movd + (LYR kp Wn fl rfs root adr own rem).length) sz2 rw2 pl2 ol2 w2) := by
  refine mC.on (by decide) (Nat.le_of_ble_eq_true rfl) ?_
  intro p e s m args below meth c ls S hr hlk hnm hK hN hG hl
  have hl : lv_has ls 2 [(0, .ref (q 0))] := hl
  generalize hAe : mA w s.heap.size = A at hG ⊢
  refine lv_aload_n S.1 S.2.1 dX10_minor_0 rfl (lv_at hl 0 rfl) ?_
  refine lv_iconst (v := 0) S.1 S.2.1 dX10_minor_1 (by decide) ?_
  refine rp_thr S hK hG hR (0) dX10_minor_2 (fun w H locs hR hG => ?_)
  refine lv_aload_n S.1 S.2.1 dX10_minor_5 rfl (lv_at hl 0 rfl) ?_
  refine rg_kp S hK hG hR dX10_minor_6 ?_
  refine lv_iconst (v := nI (2)) S.1 S.2.1 dX10_minor_9 (by decide) ?_
  refine lv_icmp_eq (tgt := 16) S.1 S.2.1 dX10_minor_10 (by decide) (fun c1 => ?_) (fun c1 => ?_)
  · have c1 : kp = 2 := (nI_eq (a := kp) (b := 2) (by omega) (by omega)).mp c1
    refine lv_aload_n S.1 S.2.1 dX10_minor_16 rfl (lv_at hl 0 rfl) ?_
    refine mCV (As := []) (rest := []) S (r_minorNow (Kp := Kp) hB hKm hKf hm hW hkp hfl hLay hY hR hKr hKo hrm tp0) cal_X10_minorNow in_444 in_445 in_446 in_5 hK hN hG hR.obj rfl rfl rfl hl.1 (Nat.le_of_ble_eq_true rfl) ⟨by decide, by decide⟩ ⟨rfl, rfl⟩ ⟨by decide, by decide⟩ dX10_minor_17 (fun v w H locs hp hG => ?_)
    obtain ⟨sz2, rw2, pl2, ol2, hp⟩ := hp
    rcases hp with ⟨rfl, hno, hR⟩ | ⟨ow2, tp2, rfl, hRz, hnd, hR⟩
    · refine W.eq (g2 := F0 m 20 ls [.int (-1)]) rfl ?_
      refine lv_istore_n (lv' := [(1, .int (-1)), (0, .ref (q 0))]) S.1 S.2.1 dX10_minor_20 rfl hl (by decide) rfl (fun ls hl => ?_)
      refine lv_iload_n S.1 S.2.1 dX10_minor_21 rfl (lv_at hl 0 rfl) ?_
      refine lv_iconst (v := -1) S.1 S.2.1 dX10_minor_22 (by decide) ?_
      refine lv_icmp_ne (tgt := 31) S.1 S.2.1 dX10_minor_23 (by decide) (fun c2 => ?_) (fun c2 => ?_)
      · exact absurd rfl c2
      · refine lv_bipush (v := -4) S.1 S.2.1 dX10_minor_26 (by decide) ?_
        refine lv_goto (tgt := 32) S.1 S.2.1 dX10_minor_28 (by decide) ?_
        exact mw_iret S hr hlk hK hG dX10_minor_32 ⟨sz2, rw2, pl2, ol2, Or.inl ⟨rfl, hno, hR⟩⟩
    · have hcl9 := cnt_le (yng kp Wn (rzA adr tp2 (LYR kp Wn fl rfs root adr own rem))) made
      refine W.eq (g2 := F0 m 20 ls [.int (nI (cnt (yng kp Wn (rzA adr tp2 (LYR kp Wn fl rfs root adr own rem))) made))]) rfl ?_
      refine lv_istore_n (lv' := [(1, .int (nI (cnt (yng kp Wn (rzA adr tp2 (LYR kp Wn fl rfs root adr own rem))) made))), (0, .ref (q 0))]) S.1 S.2.1 dX10_minor_20 rfl hl (by decide) rfl (fun ls hl => ?_)
      refine lv_iload_n S.1 S.2.1 dX10_minor_21 rfl (lv_at hl 0 rfl) ?_
      refine lv_iconst (v := -1) S.1 S.2.1 dX10_minor_22 (by decide) ?_
      refine lv_icmp_ne (tgt := 31) S.1 S.2.1 dX10_minor_23 (by decide) (fun c2 => ?_) (fun c2 => ?_)
      · refine lv_iload_n S.1 S.2.1 dX10_minor_31 rfl (lv_at hl 0 rfl) ?_
        exact mw_iret S hr hlk hK hG dX10_minor_32 ⟨sz2, rw2, pl2, ol2, Or.inr ⟨ow2, tp2, rfl, hRz, hnd, hR⟩⟩
      · exact absurd c2 (nI_m1 (by omega))
  · have c1 : ¬ (kp = 2) := fun h9 => c1 ((nI_eq (a := kp) (b := 2) (by omega) (by omega)).mpr h9)
    exact absurd hkp c1
