/-! THE REFERENCE: a new one -/
theorem nI0 : nI 0 = 0 := by decide
theorem RW_or {cI cZ : ClassId} {q : Nat → Nat} {thr : Int32} {kp : Nat} {Wn : Nat} {made : Nat} {adr : (Nat → Option Nat)} {fl : (Nat → Nat)} {rem : (Nat → Bool)} {num : (Nat → Nat → Int32)} {rfs : (Nat → Nat → Option Nat)} {root : (Nat → Option Nat)} {own : (Nat → Option Nat)} {half : Nat} {top : Nat} {coll : Nat} {mins : Nat} {movd : Nat} {size : Nat} {row : (Nat → Nat)} {plc : (Nat → Option Nat)} {old : (Nat → Option Nat)} {own2 root2 : Nat → Option Nat} {w : mM} (hR : RW cI cZ q thr kp Wn made adr fl rem num rfs root own half top coll mins movd size row plc old w) (h1 : ∀ k, k < 400 → own k = own2 k) (h2 : ∀ k, k < 16 → root k = root2 k) : RW cI cZ q thr kp Wn made adr fl rem num rfs root2 own2 half top coll mins movd size row plc old w := by
  have e1 : (fun k => if k < 400 then oI (own k) else (0 : Int32)) = (fun k => if k < 400 then oI (own2 k) else 0) := funext fun k => by
    by_cases h : k < 400
    · rw [if_pos h, if_pos h, h1 k h]
    · rw [if_neg h, if_neg h]
  have e2 : (fun k => if k < 16 then oI (root k) else (0 : Int32)) = (fun k => if k < 16 then oI (root2 k) else 0) := funext fun k => by
    by_cases h : k < 16
    · rw [if_pos h, if_pos h, h2 k h]
    · rw [if_neg h, if_neg h]
  refine ⟨fun i hi => (hR.1 i hi).trans ?_, hR.2⟩
  rcases i with _|_|_|_|_|_|_|_|_|_|_|i
  all_goals first
    | rfl
    | exact congrArg (fun f : Nat → Int32 => (some (.inl (cI, 400, .inl f)) : Option va_E)) e1
    | exact congrArg (fun f : Nat → Int32 => (some (.inl (cI, 16, .inl f)) : Option va_E)) e2
    | (exfalso; omega)
theorem Kof_0 {x : Int32} (h : x < nI 0 ∨ nI 2 < x) : Kof x = 0 := by
  unfold Kof
  rw [if_neg (fun z => by subst z; revert h; decide), if_neg (fun z => by subst z; revert h; decide)]
theorem Kof_x {x : Int32} (h1 : ¬ x < nI 0) (h2 : ¬ nI 2 < x) : x = nI (Kof x) := by
  obtain ⟨k, hk, rfl⟩ := inR_ex (n := 3) (by decide) (inR_t2 (h := 2) (by decide) h1 h2)
  rcases (show k = 0 ∨ k = 1 ∨ k = 2 by omega) with rfl | rfl | rfl <;> decide
theorem Kof_b (x : Int32) : Kof x ≤ 2 := by
  unfold Kof
  split
  · omega
  · split <;> omega
theorem cal_X10_init : mCal yX10_init cX10_init 5 2 none := ⟨in_120, by decide +kernel⟩
set_option maxHeartbeats 4000000 in
set_option maxRecDepth 100000 in
theorem r_init {l : Launch} {dC : Nat → ClassId} {dI : Nat → Nat → Nat} {cI cZ cT : ClassId} {w0 : mM}  (b : Nat) (x y : Int32) (hb : w0 b = some (.inr (9, [.int 0, .int 0, .int 0, .int 0, .null, .null, .null, .null, .null, .null, .null, .int 0, .int 0, .int 0, .int 0, .int 0, .int 0, .null, .null, .null]))) : mC l yX10_init (wsY yX10_init cX10_init 5 none) { frames := 1, cells := 10, slots := 33216, locals := 12 } (dC, dI) vwCl (tyL cI cZ cT) 10 33216 w0 [.ref (b), .int (x), .int (y)] (fun v w2 => v = none ∧ ∃ q : Nat → Nat, q 0 = b ∧ RW cI cZ q 0 (Kof x) (Wof y) 0 (fun _ => some 0) (fun _ => 0) (fun _ => false) (fun _ _ => 0) (fun _ _ => some 0) (fun _ => none) (fun _ => none) 0 0 0 0 0 0 (fun _ => 0) (fun _ => some 0) (fun _ => some 0) w2) := by
  refine mC.on (by decide) (Nat.le_of_ble_eq_true rfl) ?_
  intro p e s m args below meth c ls S hr hlk hnm hK hN hG hl
  have hl : lv_has ls 5 [(0, .ref (b)), (1, .int (x)), (2, .int (y))] := hl
  generalize hAe : mA w0 s.heap.size = A at hG ⊢
  obtain ⟨w, hw0⟩ : ∃ z, z = w0 := ⟨_, rfl⟩
  rw [← hw0] at hG hb
  have hfr : ∀ x, w x = w0 x := fun x => by rw [hw0]
  refine lv_aload_n S.1 S.2.1 dX10_init_0 rfl (lv_at hl 0 rfl) ?_
  refine W.objInit S.1 S.2.1 S.2.2.2.1 (S.2.2.2.2 _ in_121) (S.2.2.2.2 _ in_14) (S.2.2.2.2 _ in_15) rfl (by rw [S.2.2.1]; exact hl.1) rfl dX10_init_1 (Nat.le_of_ble_eq_true rfl) (Nat.le_of_ble_eq_true rfl) ?_
  refine W.eq (g2 := F0 m 4 ls []) rfl ?_
  refine lv_aload_n S.1 S.2.1 dX10_init_4 rfl (lv_at hl 0 rfl) ?_
  refine lv_sipush (v := nI (2000)) S.1 S.2.1 dX10_init_5 (by decide) ?_
  refine mn_newi S in_122 hK hG 0 rfl (2000) (nI_pos (by omega)) (nI_clamp (by omega)) (by omega) (by decide) (show 0 + 2000 ≤ 33216 by omega) dX10_init_8 (fun a0 w H hq9 ha0 hf9 hG => ?_)
  refine W.widen (k := 1) (n := 2000) (by omega) (by omega) ?_
  have ne1 : a0 ≠ b := fun z => by rw [z, hb] at hq9; cases hq9
  have fra0 : w0 a0 = none := by rw [← hfr a0 ]; exact hq9
  have hb : w b = some (.inr (9, [.int 0, .int 0, .int 0, .int 0, .null, .null, .null, .null, .null, .null, .null, .int 0, .int 0, .int 0, .int 0, .int 0, .int 0, .null, .null, .null])) := by rw [hf9 b (Ne.symm ne1)]; exact hb
  have hfr : ∀ x, x ≠ a0 → w x = w0 x := fun x n0 => by rw [hf9 x n0]; exact hfr x
  refine mn_putF (v := .ref (a0)) S inlX10 tyX10 tyX10_ok nmX10 hK hG hb rfl 4 (by decide) in_123 (fun _ h9 => h9) rfl hnm rfl (ty := .array (.int)) (by decide +kernel) rfl rfl (Nat.le_of_ble_eq_true rfl) dX10_init_10 (fun w H locs hb hf9 hG => ?_)
  have hb : w b = some (.inr (9, [.int 0, .int 0, .int 0, .int 0, .ref (a0), .null, .null, .null, .null, .null, .null, .int 0, .int 0, .int 0, .int 0, .int 0, .int 0, .null, .null, .null])) := hb
  have ha0 : w a0 = some (.inl (cI, 2000, .inl (fun _ => 0))) := by rw [hf9 a0 ne1]; exact ha0
  have hfr : ∀ x, x ≠ a0 → x ≠ b → w x = w0 x := fun x n0 n1 => by rw [hf9 x n1]; exact hfr x n0
  refine lv_aload_n S.1 S.2.1 dX10_init_13 rfl (lv_at hl 0 rfl) ?_
  refine lv_sipush (v := nI (2000)) S.1 S.2.1 dX10_init_14 (by decide) ?_
  refine mn_newi S in_122 hK hG 0 rfl (2000) (nI_pos (by omega)) (nI_clamp (by omega)) (by omega) (by decide) (show 2000 + 2000 ≤ 33216 by omega) dX10_init_17 (fun a2 w H hq9 ha2 hf9 hG => ?_)
  refine W.widen (k := 2) (n := 4000) (by omega) (by omega) ?_
  have ne3 : a2 ≠ b := fun z => by rw [z, hb] at hq9; cases hq9
  have ne4 : a2 ≠ a0 := fun z => by rw [z, ha0] at hq9; cases hq9
  have fra2 : w0 a2 = none := by rw [← hfr a2 ne4 ne3]; exact hq9
  have hb : w b = some (.inr (9, [.int 0, .int 0, .int 0, .int 0, .ref (a0), .null, .null, .null, .null, .null, .null, .int 0, .int 0, .int 0, .int 0, .int 0, .int 0, .null, .null, .null])) := by rw [hf9 b (Ne.symm ne3)]; exact hb
  have ha0 : w a0 = some (.inl (cI, 2000, .inl (fun _ => 0))) := by rw [hf9 a0 (Ne.symm ne4)]; exact ha0
  have hfr : ∀ x, x ≠ a0 → x ≠ b → x ≠ a2 → w x = w0 x := fun x n0 n1 n2 => by rw [hf9 x n2]; exact hfr x n0 n1
  refine mn_putF (v := .ref (a2)) S inlX10 tyX10 tyX10_ok nmX10 hK hG hb rfl 5 (by decide) in_124 (fun _ h9 => h9) rfl hnm rfl (ty := .array (.int)) (by decide +kernel) rfl rfl (Nat.le_of_ble_eq_true rfl) dX10_init_19 (fun w H locs hb hf9 hG => ?_)
  have hb : w b = some (.inr (9, [.int 0, .int 0, .int 0, .int 0, .ref (a0), .ref (a2), .null, .null, .null, .null, .null, .int 0, .int 0, .int 0, .int 0, .int 0, .int 0, .null, .null, .null])) := hb
  have ha0 : w a0 = some (.inl (cI, 2000, .inl (fun _ => 0))) := by rw [hf9 a0 ne1]; exact ha0
  have ha2 : w a2 = some (.inl (cI, 2000, .inl (fun _ => 0))) := by rw [hf9 a2 ne3]; exact ha2
  have hfr : ∀ x, x ≠ a0 → x ≠ b → x ≠ a2 → w x = w0 x := fun x n0 n1 n2 => by rw [hf9 x n1]; exact hfr x n0 n1 n2
  refine lv_aload_n S.1 S.2.1 dX10_init_22 rfl (lv_at hl 0 rfl) ?_
  refine lv_sipush (v := nI (2000)) S.1 S.2.1 dX10_init_23 (by decide) ?_
  refine mn_newz S in_125 hK hG 1 rfl (2000) (nI_pos (by omega)) (nI_clamp (by omega)) (by omega) (by decide) (show 4000 + 2000 ≤ 33216 by omega) dX10_init_26 (fun a5 w H hq9 ha5 hf9 hG => ?_)
  refine W.widen (k := 3) (n := 6000) (by omega) (by omega) ?_
  have ne6 : a5 ≠ b := fun z => by rw [z, hb] at hq9; cases hq9
  have ne7 : a5 ≠ a0 := fun z => by rw [z, ha0] at hq9; cases hq9
  have ne8 : a5 ≠ a2 := fun z => by rw [z, ha2] at hq9; cases hq9
  have fra5 : w0 a5 = none := by rw [← hfr a5 ne7 ne6 ne8]; exact hq9
  have hb : w b = some (.inr (9, [.int 0, .int 0, .int 0, .int 0, .ref (a0), .ref (a2), .null, .null, .null, .null, .null, .int 0, .int 0, .int 0, .int 0, .int 0, .int 0, .null, .null, .null])) := by rw [hf9 b (Ne.symm ne6)]; exact hb
  have ha0 : w a0 = some (.inl (cI, 2000, .inl (fun _ => 0))) := by rw [hf9 a0 (Ne.symm ne7)]; exact ha0
  have ha2 : w a2 = some (.inl (cI, 2000, .inl (fun _ => 0))) := by rw [hf9 a2 (Ne.symm ne8)]; exact ha2
  have hfr : ∀ x, x ≠ a0 → x ≠ b → x ≠ a2 → x ≠ a5 → w x = w0 x := fun x n0 n1 n2 n3 => by rw [hf9 x n3]; exact hfr x n0 n1 n2
  refine mn_putF (v := .ref (a5)) S inlX10 tyX10 tyX10_ok nmX10 hK hG hb rfl 6 (by decide) in_126 (fun _ h9 => h9) rfl hnm rfl (ty := .array (.boolean)) (by decide +kernel) rfl rfl (Nat.le_of_ble_eq_true rfl) dX10_init_28 (fun w H locs hb hf9 hG => ?_)
  have hb : w b = some (.inr (9, [.int 0, .int 0, .int 0, .int 0, .ref (a0), .ref (a2), .ref (a5), .null, .null, .null, .null, .int 0, .int 0, .int 0, .int 0, .int 0, .int 0, .null, .null, .null])) := hb
  have ha0 : w a0 = some (.inl (cI, 2000, .inl (fun _ => 0))) := by rw [hf9 a0 ne1]; exact ha0
  have ha2 : w a2 = some (.inl (cI, 2000, .inl (fun _ => 0))) := by rw [hf9 a2 ne3]; exact ha2
  have ha5 : w a5 = some (.inl (cZ, 2000, .inl (fun _ => 0))) := by rw [hf9 a5 ne6]; exact ha5
  have hfr : ∀ x, x ≠ a0 → x ≠ b → x ≠ a2 → x ≠ a5 → w x = w0 x := fun x n0 n1 n2 n3 => by rw [hf9 x n1]; exact hfr x n0 n1 n2 n3
  refine lv_aload_n S.1 S.2.1 dX10_init_31 rfl (lv_at hl 0 rfl) ?_
  refine lv_sipush (v := nI (12000)) S.1 S.2.1 dX10_init_32 (by decide) ?_
  refine mn_newi S in_122 hK hG 0 rfl (12000) (nI_pos (by omega)) (nI_clamp (by omega)) (by omega) (by decide) (show 6000 + 12000 ≤ 33216 by omega) dX10_init_35 (fun a9 w H hq9 ha9 hf9 hG => ?_)
  refine W.widen (k := 4) (n := 18000) (by omega) (by omega) ?_
  have ne10 : a9 ≠ b := fun z => by rw [z, hb] at hq9; cases hq9
  have ne11 : a9 ≠ a0 := fun z => by rw [z, ha0] at hq9; cases hq9
  have ne12 : a9 ≠ a2 := fun z => by rw [z, ha2] at hq9; cases hq9
  have ne13 : a9 ≠ a5 := fun z => by rw [z, ha5] at hq9; cases hq9
  have fra9 : w0 a9 = none := by rw [← hfr a9 ne11 ne10 ne12 ne13]; exact hq9
  have hb : w b = some (.inr (9, [.int 0, .int 0, .int 0, .int 0, .ref (a0), .ref (a2), .ref (a5), .null, .null, .null, .null, .int 0, .int 0, .int 0, .int 0, .int 0, .int 0, .null, .null, .null])) := by rw [hf9 b (Ne.symm ne10)]; exact hb
  have ha0 : w a0 = some (.inl (cI, 2000, .inl (fun _ => 0))) := by rw [hf9 a0 (Ne.symm ne11)]; exact ha0
  have ha2 : w a2 = some (.inl (cI, 2000, .inl (fun _ => 0))) := by rw [hf9 a2 (Ne.symm ne12)]; exact ha2
  have ha5 : w a5 = some (.inl (cZ, 2000, .inl (fun _ => 0))) := by rw [hf9 a5 (Ne.symm ne13)]; exact ha5
  have hfr : ∀ x, x ≠ a0 → x ≠ b → x ≠ a2 → x ≠ a5 → x ≠ a9 → w x = w0 x := fun x n0 n1 n2 n3 n4 => by rw [hf9 x n4]; exact hfr x n0 n1 n2 n3
  refine mn_putF (v := .ref (a9)) S inlX10 tyX10 tyX10_ok nmX10 hK hG hb rfl 7 (by decide) in_127 (fun _ h9 => h9) rfl hnm rfl (ty := .array (.int)) (by decide +kernel) rfl rfl (Nat.le_of_ble_eq_true rfl) dX10_init_37 (fun w H locs hb hf9 hG => ?_)
  have hb : w b = some (.inr (9, [.int 0, .int 0, .int 0, .int 0, .ref (a0), .ref (a2), .ref (a5), .ref (a9), .null, .null, .null, .int 0, .int 0, .int 0, .int 0, .int 0, .int 0, .null, .null, .null])) := hb
  have ha0 : w a0 = some (.inl (cI, 2000, .inl (fun _ => 0))) := by rw [hf9 a0 ne1]; exact ha0
  have ha2 : w a2 = some (.inl (cI, 2000, .inl (fun _ => 0))) := by rw [hf9 a2 ne3]; exact ha2
  have ha5 : w a5 = some (.inl (cZ, 2000, .inl (fun _ => 0))) := by rw [hf9 a5 ne6]; exact ha5
  have ha9 : w a9 = some (.inl (cI, 12000, .inl (fun _ => 0))) := by rw [hf9 a9 ne10]; exact ha9
  have hfr : ∀ x, x ≠ a0 → x ≠ b → x ≠ a2 → x ≠ a5 → x ≠ a9 → w x = w0 x := fun x n0 n1 n2 n3 n4 => by rw [hf9 x n1]; exact hfr x n0 n1 n2 n3 n4
  refine lv_aload_n S.1 S.2.1 dX10_init_40 rfl (lv_at hl 0 rfl) ?_
  refine lv_sipush (v := nI (12000)) S.1 S.2.1 dX10_init_41 (by decide) ?_
  refine mn_newi S in_122 hK hG 0 rfl (12000) (nI_pos (by omega)) (nI_clamp (by omega)) (by omega) (by decide) (show 18000 + 12000 ≤ 33216 by omega) dX10_init_44 (fun a14 w H hq9 ha14 hf9 hG => ?_)
  refine W.widen (k := 5) (n := 30000) (by omega) (by omega) ?_
  have ne15 : a14 ≠ b := fun z => by rw [z, hb] at hq9; cases hq9
  have ne16 : a14 ≠ a0 := fun z => by rw [z, ha0] at hq9; cases hq9
  have ne17 : a14 ≠ a2 := fun z => by rw [z, ha2] at hq9; cases hq9
  have ne18 : a14 ≠ a5 := fun z => by rw [z, ha5] at hq9; cases hq9
  have ne19 : a14 ≠ a9 := fun z => by rw [z, ha9] at hq9; cases hq9
  have fra14 : w0 a14 = none := by rw [← hfr a14 ne16 ne15 ne17 ne18 ne19]; exact hq9
  have hb : w b = some (.inr (9, [.int 0, .int 0, .int 0, .int 0, .ref (a0), .ref (a2), .ref (a5), .ref (a9), .null, .null, .null, .int 0, .int 0, .int 0, .int 0, .int 0, .int 0, .null, .null, .null])) := by rw [hf9 b (Ne.symm ne15)]; exact hb
  have ha0 : w a0 = some (.inl (cI, 2000, .inl (fun _ => 0))) := by rw [hf9 a0 (Ne.symm ne16)]; exact ha0
  have ha2 : w a2 = some (.inl (cI, 2000, .inl (fun _ => 0))) := by rw [hf9 a2 (Ne.symm ne17)]; exact ha2
  have ha5 : w a5 = some (.inl (cZ, 2000, .inl (fun _ => 0))) := by rw [hf9 a5 (Ne.symm ne18)]; exact ha5
  have ha9 : w a9 = some (.inl (cI, 12000, .inl (fun _ => 0))) := by rw [hf9 a9 (Ne.symm ne19)]; exact ha9
  have hfr : ∀ x, x ≠ a0 → x ≠ b → x ≠ a2 → x ≠ a5 → x ≠ a9 → x ≠ a14 → w x = w0 x := fun x n0 n1 n2 n3 n4 n5 => by rw [hf9 x n5]; exact hfr x n0 n1 n2 n3 n4
  refine mn_putF (v := .ref (a14)) S inlX10 tyX10 tyX10_ok nmX10 hK hG hb rfl 8 (by decide) in_128 (fun _ h9 => h9) rfl hnm rfl (ty := .array (.int)) (by decide +kernel) rfl rfl (Nat.le_of_ble_eq_true rfl) dX10_init_46 (fun w H locs hb hf9 hG => ?_)
  have hb : w b = some (.inr (9, [.int 0, .int 0, .int 0, .int 0, .ref (a0), .ref (a2), .ref (a5), .ref (a9), .ref (a14), .null, .null, .int 0, .int 0, .int 0, .int 0, .int 0, .int 0, .null, .null, .null])) := hb
  have ha0 : w a0 = some (.inl (cI, 2000, .inl (fun _ => 0))) := by rw [hf9 a0 ne1]; exact ha0
  have ha2 : w a2 = some (.inl (cI, 2000, .inl (fun _ => 0))) := by rw [hf9 a2 ne3]; exact ha2
  have ha5 : w a5 = some (.inl (cZ, 2000, .inl (fun _ => 0))) := by rw [hf9 a5 ne6]; exact ha5
  have ha9 : w a9 = some (.inl (cI, 12000, .inl (fun _ => 0))) := by rw [hf9 a9 ne10]; exact ha9
  have ha14 : w a14 = some (.inl (cI, 12000, .inl (fun _ => 0))) := by rw [hf9 a14 ne15]; exact ha14
  have hfr : ∀ x, x ≠ a0 → x ≠ b → x ≠ a2 → x ≠ a5 → x ≠ a9 → x ≠ a14 → w x = w0 x := fun x n0 n1 n2 n3 n4 n5 => by rw [hf9 x n1]; exact hfr x n0 n1 n2 n3 n4 n5
  refine lv_aload_n S.1 S.2.1 dX10_init_49 rfl (lv_at hl 0 rfl) ?_
  refine lv_bipush (v := nI (16)) S.1 S.2.1 dX10_init_50 (by decide) ?_
  refine mn_newi S in_122 hK hG 0 rfl (16) (nI_pos (by omega)) (nI_clamp (by omega)) (by omega) (by decide) (show 30000 + 16 ≤ 33216 by omega) dX10_init_52 (fun a20 w H hq9 ha20 hf9 hG => ?_)
  refine W.widen (k := 6) (n := 30016) (by omega) (by omega) ?_
  have ne21 : a20 ≠ b := fun z => by rw [z, hb] at hq9; cases hq9
  have ne22 : a20 ≠ a0 := fun z => by rw [z, ha0] at hq9; cases hq9
  have ne23 : a20 ≠ a2 := fun z => by rw [z, ha2] at hq9; cases hq9
  have ne24 : a20 ≠ a5 := fun z => by rw [z, ha5] at hq9; cases hq9
  have ne25 : a20 ≠ a9 := fun z => by rw [z, ha9] at hq9; cases hq9
  have ne26 : a20 ≠ a14 := fun z => by rw [z, ha14] at hq9; cases hq9
  have fra20 : w0 a20 = none := by rw [← hfr a20 ne22 ne21 ne23 ne24 ne25 ne26]; exact hq9
  have hb : w b = some (.inr (9, [.int 0, .int 0, .int 0, .int 0, .ref (a0), .ref (a2), .ref (a5), .ref (a9), .ref (a14), .null, .null, .int 0, .int 0, .int 0, .int 0, .int 0, .int 0, .null, .null, .null])) := by rw [hf9 b (Ne.symm ne21)]; exact hb
  have ha0 : w a0 = some (.inl (cI, 2000, .inl (fun _ => 0))) := by rw [hf9 a0 (Ne.symm ne22)]; exact ha0
  have ha2 : w a2 = some (.inl (cI, 2000, .inl (fun _ => 0))) := by rw [hf9 a2 (Ne.symm ne23)]; exact ha2
  have ha5 : w a5 = some (.inl (cZ, 2000, .inl (fun _ => 0))) := by rw [hf9 a5 (Ne.symm ne24)]; exact ha5
  have ha9 : w a9 = some (.inl (cI, 12000, .inl (fun _ => 0))) := by rw [hf9 a9 (Ne.symm ne25)]; exact ha9
  have ha14 : w a14 = some (.inl (cI, 12000, .inl (fun _ => 0))) := by rw [hf9 a14 (Ne.symm ne26)]; exact ha14
  have hfr : ∀ x, x ≠ a0 → x ≠ b → x ≠ a2 → x ≠ a5 → x ≠ a9 → x ≠ a14 → x ≠ a20 → w x = w0 x := fun x n0 n1 n2 n3 n4 n5 n6 => by rw [hf9 x n6]; exact hfr x n0 n1 n2 n3 n4 n5
  refine mn_putF (v := .ref (a20)) S inlX10 tyX10 tyX10_ok nmX10 hK hG hb rfl 9 (by decide) in_129 (fun _ h9 => h9) rfl hnm rfl (ty := .array (.int)) (by decide +kernel) rfl rfl (Nat.le_of_ble_eq_true rfl) dX10_init_54 (fun w H locs hb hf9 hG => ?_)
  have hb : w b = some (.inr (9, [.int 0, .int 0, .int 0, .int 0, .ref (a0), .ref (a2), .ref (a5), .ref (a9), .ref (a14), .ref (a20), .null, .int 0, .int 0, .int 0, .int 0, .int 0, .int 0, .null, .null, .null])) := hb
  have ha0 : w a0 = some (.inl (cI, 2000, .inl (fun _ => 0))) := by rw [hf9 a0 ne1]; exact ha0
  have ha2 : w a2 = some (.inl (cI, 2000, .inl (fun _ => 0))) := by rw [hf9 a2 ne3]; exact ha2
  have ha5 : w a5 = some (.inl (cZ, 2000, .inl (fun _ => 0))) := by rw [hf9 a5 ne6]; exact ha5
  have ha9 : w a9 = some (.inl (cI, 12000, .inl (fun _ => 0))) := by rw [hf9 a9 ne10]; exact ha9
  have ha14 : w a14 = some (.inl (cI, 12000, .inl (fun _ => 0))) := by rw [hf9 a14 ne15]; exact ha14
  have ha20 : w a20 = some (.inl (cI, 16, .inl (fun _ => 0))) := by rw [hf9 a20 ne21]; exact ha20
  have hfr : ∀ x, x ≠ a0 → x ≠ b → x ≠ a2 → x ≠ a5 → x ≠ a9 → x ≠ a14 → x ≠ a20 → w x = w0 x := fun x n0 n1 n2 n3 n4 n5 n6 => by rw [hf9 x n1]; exact hfr x n0 n1 n2 n3 n4 n5 n6
  refine lv_aload_n S.1 S.2.1 dX10_init_57 rfl (lv_at hl 0 rfl) ?_
  refine lv_sipush (v := nI (400)) S.1 S.2.1 dX10_init_58 (by decide) ?_
  refine mn_newi S in_122 hK hG 0 rfl (400) (nI_pos (by omega)) (nI_clamp (by omega)) (by omega) (by decide) (show 30016 + 400 ≤ 33216 by omega) dX10_init_61 (fun a27 w H hq9 ha27 hf9 hG => ?_)
  refine W.widen (k := 7) (n := 30416) (by omega) (by omega) ?_
  have ne28 : a27 ≠ b := fun z => by rw [z, hb] at hq9; cases hq9
  have ne29 : a27 ≠ a0 := fun z => by rw [z, ha0] at hq9; cases hq9
  have ne30 : a27 ≠ a2 := fun z => by rw [z, ha2] at hq9; cases hq9
  have ne31 : a27 ≠ a5 := fun z => by rw [z, ha5] at hq9; cases hq9
  have ne32 : a27 ≠ a9 := fun z => by rw [z, ha9] at hq9; cases hq9
  have ne33 : a27 ≠ a14 := fun z => by rw [z, ha14] at hq9; cases hq9
  have ne34 : a27 ≠ a20 := fun z => by rw [z, ha20] at hq9; cases hq9
  have fra27 : w0 a27 = none := by rw [← hfr a27 ne29 ne28 ne30 ne31 ne32 ne33 ne34]; exact hq9
  have hb : w b = some (.inr (9, [.int 0, .int 0, .int 0, .int 0, .ref (a0), .ref (a2), .ref (a5), .ref (a9), .ref (a14), .ref (a20), .null, .int 0, .int 0, .int 0, .int 0, .int 0, .int 0, .null, .null, .null])) := by rw [hf9 b (Ne.symm ne28)]; exact hb
  have ha0 : w a0 = some (.inl (cI, 2000, .inl (fun _ => 0))) := by rw [hf9 a0 (Ne.symm ne29)]; exact ha0
  have ha2 : w a2 = some (.inl (cI, 2000, .inl (fun _ => 0))) := by rw [hf9 a2 (Ne.symm ne30)]; exact ha2
  have ha5 : w a5 = some (.inl (cZ, 2000, .inl (fun _ => 0))) := by rw [hf9 a5 (Ne.symm ne31)]; exact ha5
  have ha9 : w a9 = some (.inl (cI, 12000, .inl (fun _ => 0))) := by rw [hf9 a9 (Ne.symm ne32)]; exact ha9
  have ha14 : w a14 = some (.inl (cI, 12000, .inl (fun _ => 0))) := by rw [hf9 a14 (Ne.symm ne33)]; exact ha14
  have ha20 : w a20 = some (.inl (cI, 16, .inl (fun _ => 0))) := by rw [hf9 a20 (Ne.symm ne34)]; exact ha20
  have hfr : ∀ x, x ≠ a0 → x ≠ b → x ≠ a2 → x ≠ a5 → x ≠ a9 → x ≠ a14 → x ≠ a20 → x ≠ a27 → w x = w0 x := fun x n0 n1 n2 n3 n4 n5 n6 n7 => by rw [hf9 x n7]; exact hfr x n0 n1 n2 n3 n4 n5 n6
  refine mn_putF (v := .ref (a27)) S inlX10 tyX10 tyX10_ok nmX10 hK hG hb rfl 10 (by decide) in_130 (fun _ h9 => h9) rfl hnm rfl (ty := .array (.int)) (by decide +kernel) rfl rfl (Nat.le_of_ble_eq_true rfl) dX10_init_63 (fun w H locs hb hf9 hG => ?_)
  have hb : w b = some (.inr (9, [.int 0, .int 0, .int 0, .int 0, .ref (a0), .ref (a2), .ref (a5), .ref (a9), .ref (a14), .ref (a20), .ref (a27), .int 0, .int 0, .int 0, .int 0, .int 0, .int 0, .null, .null, .null])) := hb
  have ha0 : w a0 = some (.inl (cI, 2000, .inl (fun _ => 0))) := by rw [hf9 a0 ne1]; exact ha0
  have ha2 : w a2 = some (.inl (cI, 2000, .inl (fun _ => 0))) := by rw [hf9 a2 ne3]; exact ha2
  have ha5 : w a5 = some (.inl (cZ, 2000, .inl (fun _ => 0))) := by rw [hf9 a5 ne6]; exact ha5
  have ha9 : w a9 = some (.inl (cI, 12000, .inl (fun _ => 0))) := by rw [hf9 a9 ne10]; exact ha9
  have ha14 : w a14 = some (.inl (cI, 12000, .inl (fun _ => 0))) := by rw [hf9 a14 ne15]; exact ha14
  have ha20 : w a20 = some (.inl (cI, 16, .inl (fun _ => 0))) := by rw [hf9 a20 ne21]; exact ha20
  have ha27 : w a27 = some (.inl (cI, 400, .inl (fun _ => 0))) := by rw [hf9 a27 ne28]; exact ha27
  have hfr : ∀ x, x ≠ a0 → x ≠ b → x ≠ a2 → x ≠ a5 → x ≠ a9 → x ≠ a14 → x ≠ a20 → x ≠ a27 → w x = w0 x := fun x n0 n1 n2 n3 n4 n5 n6 n7 => by rw [hf9 x n1]; exact hfr x n0 n1 n2 n3 n4 n5 n6 n7
  refine lv_aload_n S.1 S.2.1 dX10_init_66 rfl (lv_at hl 0 rfl) ?_
  refine lv_sipush (v := nI (400)) S.1 S.2.1 dX10_init_67 (by decide) ?_
  refine mn_newi S in_122 hK hG 0 rfl (400) (nI_pos (by omega)) (nI_clamp (by omega)) (by omega) (by decide) (show 30416 + 400 ≤ 33216 by omega) dX10_init_70 (fun a35 w H hq9 ha35 hf9 hG => ?_)
  refine W.widen (k := 8) (n := 30816) (by omega) (by omega) ?_
  have ne36 : a35 ≠ b := fun z => by rw [z, hb] at hq9; cases hq9
  have ne37 : a35 ≠ a0 := fun z => by rw [z, ha0] at hq9; cases hq9
  have ne38 : a35 ≠ a2 := fun z => by rw [z, ha2] at hq9; cases hq9
  have ne39 : a35 ≠ a5 := fun z => by rw [z, ha5] at hq9; cases hq9
  have ne40 : a35 ≠ a9 := fun z => by rw [z, ha9] at hq9; cases hq9
  have ne41 : a35 ≠ a14 := fun z => by rw [z, ha14] at hq9; cases hq9
  have ne42 : a35 ≠ a20 := fun z => by rw [z, ha20] at hq9; cases hq9
  have ne43 : a35 ≠ a27 := fun z => by rw [z, ha27] at hq9; cases hq9
  have fra35 : w0 a35 = none := by rw [← hfr a35 ne37 ne36 ne38 ne39 ne40 ne41 ne42 ne43]; exact hq9
  have hb : w b = some (.inr (9, [.int 0, .int 0, .int 0, .int 0, .ref (a0), .ref (a2), .ref (a5), .ref (a9), .ref (a14), .ref (a20), .ref (a27), .int 0, .int 0, .int 0, .int 0, .int 0, .int 0, .null, .null, .null])) := by rw [hf9 b (Ne.symm ne36)]; exact hb
  have ha0 : w a0 = some (.inl (cI, 2000, .inl (fun _ => 0))) := by rw [hf9 a0 (Ne.symm ne37)]; exact ha0
  have ha2 : w a2 = some (.inl (cI, 2000, .inl (fun _ => 0))) := by rw [hf9 a2 (Ne.symm ne38)]; exact ha2
  have ha5 : w a5 = some (.inl (cZ, 2000, .inl (fun _ => 0))) := by rw [hf9 a5 (Ne.symm ne39)]; exact ha5
  have ha9 : w a9 = some (.inl (cI, 12000, .inl (fun _ => 0))) := by rw [hf9 a9 (Ne.symm ne40)]; exact ha9
  have ha14 : w a14 = some (.inl (cI, 12000, .inl (fun _ => 0))) := by rw [hf9 a14 (Ne.symm ne41)]; exact ha14
  have ha20 : w a20 = some (.inl (cI, 16, .inl (fun _ => 0))) := by rw [hf9 a20 (Ne.symm ne42)]; exact ha20
  have ha27 : w a27 = some (.inl (cI, 400, .inl (fun _ => 0))) := by rw [hf9 a27 (Ne.symm ne43)]; exact ha27
  have hfr : ∀ x, x ≠ a0 → x ≠ b → x ≠ a2 → x ≠ a5 → x ≠ a9 → x ≠ a14 → x ≠ a20 → x ≠ a27 → x ≠ a35 → w x = w0 x := fun x n0 n1 n2 n3 n4 n5 n6 n7 n8 => by rw [hf9 x n8]; exact hfr x n0 n1 n2 n3 n4 n5 n6 n7
  refine mn_putF (v := .ref (a35)) S inlX10 tyX10 tyX10_ok nmX10 hK hG hb rfl 17 (by decide) in_131 (fun _ h9 => h9) rfl hnm rfl (ty := .array (.int)) (by decide +kernel) rfl rfl (Nat.le_of_ble_eq_true rfl) dX10_init_72 (fun w H locs hb hf9 hG => ?_)
  have hb : w b = some (.inr (9, [.int 0, .int 0, .int 0, .int 0, .ref (a0), .ref (a2), .ref (a5), .ref (a9), .ref (a14), .ref (a20), .ref (a27), .int 0, .int 0, .int 0, .int 0, .int 0, .int 0, .ref (a35), .null, .null])) := hb
  have ha0 : w a0 = some (.inl (cI, 2000, .inl (fun _ => 0))) := by rw [hf9 a0 ne1]; exact ha0
  have ha2 : w a2 = some (.inl (cI, 2000, .inl (fun _ => 0))) := by rw [hf9 a2 ne3]; exact ha2
  have ha5 : w a5 = some (.inl (cZ, 2000, .inl (fun _ => 0))) := by rw [hf9 a5 ne6]; exact ha5
  have ha9 : w a9 = some (.inl (cI, 12000, .inl (fun _ => 0))) := by rw [hf9 a9 ne10]; exact ha9
  have ha14 : w a14 = some (.inl (cI, 12000, .inl (fun _ => 0))) := by rw [hf9 a14 ne15]; exact ha14
  have ha20 : w a20 = some (.inl (cI, 16, .inl (fun _ => 0))) := by rw [hf9 a20 ne21]; exact ha20
  have ha27 : w a27 = some (.inl (cI, 400, .inl (fun _ => 0))) := by rw [hf9 a27 ne28]; exact ha27
  have ha35 : w a35 = some (.inl (cI, 400, .inl (fun _ => 0))) := by rw [hf9 a35 ne36]; exact ha35
  have hfr : ∀ x, x ≠ a0 → x ≠ b → x ≠ a2 → x ≠ a5 → x ≠ a9 → x ≠ a14 → x ≠ a20 → x ≠ a27 → x ≠ a35 → w x = w0 x := fun x n0 n1 n2 n3 n4 n5 n6 n7 n8 => by rw [hf9 x n1]; exact hfr x n0 n1 n2 n3 n4 n5 n6 n7 n8
  refine lv_aload_n S.1 S.2.1 dX10_init_75 rfl (lv_at hl 0 rfl) ?_
  refine lv_sipush (v := nI (2000)) S.1 S.2.1 dX10_init_76 (by decide) ?_
  refine mn_newi S in_122 hK hG 0 rfl (2000) (nI_pos (by omega)) (nI_clamp (by omega)) (by omega) (by decide) (show 30816 + 2000 ≤ 33216 by omega) dX10_init_79 (fun a44 w H hq9 ha44 hf9 hG => ?_)
  refine W.widen (k := 9) (n := 32816) (by omega) (by omega) ?_
  have ne45 : a44 ≠ b := fun z => by rw [z, hb] at hq9; cases hq9
  have ne46 : a44 ≠ a0 := fun z => by rw [z, ha0] at hq9; cases hq9
  have ne47 : a44 ≠ a2 := fun z => by rw [z, ha2] at hq9; cases hq9
  have ne48 : a44 ≠ a5 := fun z => by rw [z, ha5] at hq9; cases hq9
  have ne49 : a44 ≠ a9 := fun z => by rw [z, ha9] at hq9; cases hq9
  have ne50 : a44 ≠ a14 := fun z => by rw [z, ha14] at hq9; cases hq9
  have ne51 : a44 ≠ a20 := fun z => by rw [z, ha20] at hq9; cases hq9
  have ne52 : a44 ≠ a27 := fun z => by rw [z, ha27] at hq9; cases hq9
  have ne53 : a44 ≠ a35 := fun z => by rw [z, ha35] at hq9; cases hq9
  have fra44 : w0 a44 = none := by rw [← hfr a44 ne46 ne45 ne47 ne48 ne49 ne50 ne51 ne52 ne53]; exact hq9
  have hb : w b = some (.inr (9, [.int 0, .int 0, .int 0, .int 0, .ref (a0), .ref (a2), .ref (a5), .ref (a9), .ref (a14), .ref (a20), .ref (a27), .int 0, .int 0, .int 0, .int 0, .int 0, .int 0, .ref (a35), .null, .null])) := by rw [hf9 b (Ne.symm ne45)]; exact hb
  have ha0 : w a0 = some (.inl (cI, 2000, .inl (fun _ => 0))) := by rw [hf9 a0 (Ne.symm ne46)]; exact ha0
  have ha2 : w a2 = some (.inl (cI, 2000, .inl (fun _ => 0))) := by rw [hf9 a2 (Ne.symm ne47)]; exact ha2
  have ha5 : w a5 = some (.inl (cZ, 2000, .inl (fun _ => 0))) := by rw [hf9 a5 (Ne.symm ne48)]; exact ha5
  have ha9 : w a9 = some (.inl (cI, 12000, .inl (fun _ => 0))) := by rw [hf9 a9 (Ne.symm ne49)]; exact ha9
  have ha14 : w a14 = some (.inl (cI, 12000, .inl (fun _ => 0))) := by rw [hf9 a14 (Ne.symm ne50)]; exact ha14
  have ha20 : w a20 = some (.inl (cI, 16, .inl (fun _ => 0))) := by rw [hf9 a20 (Ne.symm ne51)]; exact ha20
  have ha27 : w a27 = some (.inl (cI, 400, .inl (fun _ => 0))) := by rw [hf9 a27 (Ne.symm ne52)]; exact ha27
  have ha35 : w a35 = some (.inl (cI, 400, .inl (fun _ => 0))) := by rw [hf9 a35 (Ne.symm ne53)]; exact ha35
  have hfr : ∀ x, x ≠ a0 → x ≠ b → x ≠ a2 → x ≠ a5 → x ≠ a9 → x ≠ a14 → x ≠ a20 → x ≠ a27 → x ≠ a35 → x ≠ a44 → w x = w0 x := fun x n0 n1 n2 n3 n4 n5 n6 n7 n8 n9 => by rw [hf9 x n9]; exact hfr x n0 n1 n2 n3 n4 n5 n6 n7 n8
  refine mn_putF (v := .ref (a44)) S inlX10 tyX10 tyX10_ok nmX10 hK hG hb rfl 18 (by decide) in_132 (fun _ h9 => h9) rfl hnm rfl (ty := .array (.int)) (by decide +kernel) rfl rfl (Nat.le_of_ble_eq_true rfl) dX10_init_81 (fun w H locs hb hf9 hG => ?_)
  have hb : w b = some (.inr (9, [.int 0, .int 0, .int 0, .int 0, .ref (a0), .ref (a2), .ref (a5), .ref (a9), .ref (a14), .ref (a20), .ref (a27), .int 0, .int 0, .int 0, .int 0, .int 0, .int 0, .ref (a35), .ref (a44), .null])) := hb
  have ha0 : w a0 = some (.inl (cI, 2000, .inl (fun _ => 0))) := by rw [hf9 a0 ne1]; exact ha0
  have ha2 : w a2 = some (.inl (cI, 2000, .inl (fun _ => 0))) := by rw [hf9 a2 ne3]; exact ha2
  have ha5 : w a5 = some (.inl (cZ, 2000, .inl (fun _ => 0))) := by rw [hf9 a5 ne6]; exact ha5
  have ha9 : w a9 = some (.inl (cI, 12000, .inl (fun _ => 0))) := by rw [hf9 a9 ne10]; exact ha9
  have ha14 : w a14 = some (.inl (cI, 12000, .inl (fun _ => 0))) := by rw [hf9 a14 ne15]; exact ha14
  have ha20 : w a20 = some (.inl (cI, 16, .inl (fun _ => 0))) := by rw [hf9 a20 ne21]; exact ha20
  have ha27 : w a27 = some (.inl (cI, 400, .inl (fun _ => 0))) := by rw [hf9 a27 ne28]; exact ha27
  have ha35 : w a35 = some (.inl (cI, 400, .inl (fun _ => 0))) := by rw [hf9 a35 ne36]; exact ha35
  have ha44 : w a44 = some (.inl (cI, 2000, .inl (fun _ => 0))) := by rw [hf9 a44 ne45]; exact ha44
  have hfr : ∀ x, x ≠ a0 → x ≠ b → x ≠ a2 → x ≠ a5 → x ≠ a9 → x ≠ a14 → x ≠ a20 → x ≠ a27 → x ≠ a35 → x ≠ a44 → w x = w0 x := fun x n0 n1 n2 n3 n4 n5 n6 n7 n8 n9 => by rw [hf9 x n1]; exact hfr x n0 n1 n2 n3 n4 n5 n6 n7 n8 n9
  refine lv_aload_n S.1 S.2.1 dX10_init_84 rfl (lv_at hl 0 rfl) ?_
  refine lv_sipush (v := nI (400)) S.1 S.2.1 dX10_init_85 (by decide) ?_
  refine mn_newi S in_122 hK hG 0 rfl (400) (nI_pos (by omega)) (nI_clamp (by omega)) (by omega) (by decide) (show 32816 + 400 ≤ 33216 by omega) dX10_init_88 (fun a54 w H hq9 ha54 hf9 hG => ?_)
  refine W.widen (k := 10) (n := 33216) (by omega) (by omega) ?_
  have ne55 : a54 ≠ b := fun z => by rw [z, hb] at hq9; cases hq9
  have ne56 : a54 ≠ a0 := fun z => by rw [z, ha0] at hq9; cases hq9
  have ne57 : a54 ≠ a2 := fun z => by rw [z, ha2] at hq9; cases hq9
  have ne58 : a54 ≠ a5 := fun z => by rw [z, ha5] at hq9; cases hq9
  have ne59 : a54 ≠ a9 := fun z => by rw [z, ha9] at hq9; cases hq9
  have ne60 : a54 ≠ a14 := fun z => by rw [z, ha14] at hq9; cases hq9
  have ne61 : a54 ≠ a20 := fun z => by rw [z, ha20] at hq9; cases hq9
  have ne62 : a54 ≠ a27 := fun z => by rw [z, ha27] at hq9; cases hq9
  have ne63 : a54 ≠ a35 := fun z => by rw [z, ha35] at hq9; cases hq9
  have ne64 : a54 ≠ a44 := fun z => by rw [z, ha44] at hq9; cases hq9
  have fra54 : w0 a54 = none := by rw [← hfr a54 ne56 ne55 ne57 ne58 ne59 ne60 ne61 ne62 ne63 ne64]; exact hq9
  have hb : w b = some (.inr (9, [.int 0, .int 0, .int 0, .int 0, .ref (a0), .ref (a2), .ref (a5), .ref (a9), .ref (a14), .ref (a20), .ref (a27), .int 0, .int 0, .int 0, .int 0, .int 0, .int 0, .ref (a35), .ref (a44), .null])) := by rw [hf9 b (Ne.symm ne55)]; exact hb
  have ha0 : w a0 = some (.inl (cI, 2000, .inl (fun _ => 0))) := by rw [hf9 a0 (Ne.symm ne56)]; exact ha0
  have ha2 : w a2 = some (.inl (cI, 2000, .inl (fun _ => 0))) := by rw [hf9 a2 (Ne.symm ne57)]; exact ha2
  have ha5 : w a5 = some (.inl (cZ, 2000, .inl (fun _ => 0))) := by rw [hf9 a5 (Ne.symm ne58)]; exact ha5
  have ha9 : w a9 = some (.inl (cI, 12000, .inl (fun _ => 0))) := by rw [hf9 a9 (Ne.symm ne59)]; exact ha9
  have ha14 : w a14 = some (.inl (cI, 12000, .inl (fun _ => 0))) := by rw [hf9 a14 (Ne.symm ne60)]; exact ha14
  have ha20 : w a20 = some (.inl (cI, 16, .inl (fun _ => 0))) := by rw [hf9 a20 (Ne.symm ne61)]; exact ha20
  have ha27 : w a27 = some (.inl (cI, 400, .inl (fun _ => 0))) := by rw [hf9 a27 (Ne.symm ne62)]; exact ha27
  have ha35 : w a35 = some (.inl (cI, 400, .inl (fun _ => 0))) := by rw [hf9 a35 (Ne.symm ne63)]; exact ha35
  have ha44 : w a44 = some (.inl (cI, 2000, .inl (fun _ => 0))) := by rw [hf9 a44 (Ne.symm ne64)]; exact ha44
  have hfr : ∀ x, x ≠ a0 → x ≠ b → x ≠ a2 → x ≠ a5 → x ≠ a9 → x ≠ a14 → x ≠ a20 → x ≠ a27 → x ≠ a35 → x ≠ a44 → x ≠ a54 → w x = w0 x := fun x n0 n1 n2 n3 n4 n5 n6 n7 n8 n9 n10 => by rw [hf9 x n10]; exact hfr x n0 n1 n2 n3 n4 n5 n6 n7 n8 n9
  refine mn_putF (v := .ref (a54)) S inlX10 tyX10 tyX10_ok nmX10 hK hG hb rfl 19 (by decide) in_133 (fun _ h9 => h9) rfl hnm rfl (ty := .array (.int)) (by decide +kernel) rfl rfl (Nat.le_of_ble_eq_true rfl) dX10_init_90 (fun w H locs hb hf9 hG => ?_)
  have hb : w b = some (.inr (9, [.int 0, .int 0, .int 0, .int 0, .ref (a0), .ref (a2), .ref (a5), .ref (a9), .ref (a14), .ref (a20), .ref (a27), .int 0, .int 0, .int 0, .int 0, .int 0, .int 0, .ref (a35), .ref (a44), .ref (a54)])) := hb
  have ha0 : w a0 = some (.inl (cI, 2000, .inl (fun _ => 0))) := by rw [hf9 a0 ne1]; exact ha0
  have ha2 : w a2 = some (.inl (cI, 2000, .inl (fun _ => 0))) := by rw [hf9 a2 ne3]; exact ha2
  have ha5 : w a5 = some (.inl (cZ, 2000, .inl (fun _ => 0))) := by rw [hf9 a5 ne6]; exact ha5
  have ha9 : w a9 = some (.inl (cI, 12000, .inl (fun _ => 0))) := by rw [hf9 a9 ne10]; exact ha9
  have ha14 : w a14 = some (.inl (cI, 12000, .inl (fun _ => 0))) := by rw [hf9 a14 ne15]; exact ha14
  have ha20 : w a20 = some (.inl (cI, 16, .inl (fun _ => 0))) := by rw [hf9 a20 ne21]; exact ha20
  have ha27 : w a27 = some (.inl (cI, 400, .inl (fun _ => 0))) := by rw [hf9 a27 ne28]; exact ha27
  have ha35 : w a35 = some (.inl (cI, 400, .inl (fun _ => 0))) := by rw [hf9 a35 ne36]; exact ha35
  have ha44 : w a44 = some (.inl (cI, 2000, .inl (fun _ => 0))) := by rw [hf9 a44 ne45]; exact ha44
  have ha54 : w a54 = some (.inl (cI, 400, .inl (fun _ => 0))) := by rw [hf9 a54 ne55]; exact ha54
  have hfr : ∀ x, x ≠ a0 → x ≠ b → x ≠ a2 → x ≠ a5 → x ≠ a9 → x ≠ a14 → x ≠ a20 → x ≠ a27 → x ≠ a35 → x ≠ a44 → x ≠ a54 → w x = w0 x := fun x n0 n1 n2 n3 n4 n5 n6 n7 n8 n9 n10 => by rw [hf9 x n1]; exact hfr x n0 n1 n2 n3 n4 n5 n6 n7 n8 n9 n10
  refine lv_aload_n S.1 S.2.1 dX10_init_93 rfl (lv_at hl 0 rfl) ?_
  suffices hs : W p l e { frames := 1, cells := 10, slots := 33216, locals := 12 } s m args below meth c H locs 10 33216 (MQ below (mQ (dC, dI) vwCl (tyL cI cZ cT) (fun v w2 => v = none ∧ ∃ q : Nat → Nat, q 0 = b ∧ RW cI cZ q 0 (Kof x) (Wof y) 0 (fun _ => some 0) (fun _ => 0) (fun _ => false) (fun _ _ => 0) (fun _ _ => some 0) (fun _ => none) (fun _ => none) 0 0 0 0 0 0 (fun _ => 0) (fun _ => some 0) (fun _ => some 0) w2) A) args s 10 33216 A) (F0 m 108 ls [.int (nI (Kof x)), .ref (b)]) by
    refine lv_iload_n S.1 S.2.1 dX10_init_94 rfl (lv_at hl 1 rfl) ?_
    refine lv_if_lt (tgt := 103) S.1 S.2.1 dX10_init_95 (by decide) (fun c1 => ?_) (fun c1 => ?_)
    · refine lv_iconst (v := nI (0)) S.1 S.2.1 dX10_init_103 (by decide) ?_
      refine lv_goto (tgt := 108) S.1 S.2.1 dX10_init_104 (by decide) ?_
      exact lv_eqi (congrArg nI (Kof_0 (Or.inl c1)).symm) hs
    · refine lv_iload_n S.1 S.2.1 dX10_init_98 rfl (lv_at hl 1 rfl) ?_
      refine lv_iconst (v := nI (2)) S.1 S.2.1 dX10_init_99 (by decide) ?_
      refine lv_icmp_le (tgt := 107) S.1 S.2.1 dX10_init_100 (by decide) (fun c2 => ?_) (fun c2 => ?_)
      · refine lv_iload_n S.1 S.2.1 dX10_init_107 rfl (lv_at hl 1 rfl) ?_
        exact lv_eqi (Kof_x c1 (fun z => by have h1 := lt_toInt.mp z; have h2 := le_toInt.mp c2; omega)) hs
      · refine lv_iconst (v := nI (0)) S.1 S.2.1 dX10_init_103 (by decide) ?_
        refine lv_goto (tgt := 108) S.1 S.2.1 dX10_init_104 (by decide) ?_
        exact lv_eqi (congrArg nI (Kof_0 (Or.inr (lt_toInt.mpr (Int.not_le.mp (mt le_toInt.mpr c2))))).symm) hs
  refine mn_putF (v := .int (nI (Kof x))) S inlX10 tyX10 tyX10_ok nmX10 hK hG hb rfl 1 (by decide) in_134 (fun _ h9 => h9) rfl hnm rfl (ty := .int) (by decide +kernel) rfl rfl (Nat.le_of_ble_eq_true rfl) dX10_init_108 (fun w H locs hb hf9 hG => ?_)
  have hb : w b = some (.inr (9, [.int 0, .int (nI (Kof x)), .int 0, .int 0, .ref (a0), .ref (a2), .ref (a5), .ref (a9), .ref (a14), .ref (a20), .ref (a27), .int 0, .int 0, .int 0, .int 0, .int 0, .int 0, .ref (a35), .ref (a44), .ref (a54)])) := hb
  have ha0 : w a0 = some (.inl (cI, 2000, .inl (fun _ => 0))) := by rw [hf9 a0 ne1]; exact ha0
  have ha2 : w a2 = some (.inl (cI, 2000, .inl (fun _ => 0))) := by rw [hf9 a2 ne3]; exact ha2
  have ha5 : w a5 = some (.inl (cZ, 2000, .inl (fun _ => 0))) := by rw [hf9 a5 ne6]; exact ha5
  have ha9 : w a9 = some (.inl (cI, 12000, .inl (fun _ => 0))) := by rw [hf9 a9 ne10]; exact ha9
  have ha14 : w a14 = some (.inl (cI, 12000, .inl (fun _ => 0))) := by rw [hf9 a14 ne15]; exact ha14
  have ha20 : w a20 = some (.inl (cI, 16, .inl (fun _ => 0))) := by rw [hf9 a20 ne21]; exact ha20
  have ha27 : w a27 = some (.inl (cI, 400, .inl (fun _ => 0))) := by rw [hf9 a27 ne28]; exact ha27
  have ha35 : w a35 = some (.inl (cI, 400, .inl (fun _ => 0))) := by rw [hf9 a35 ne36]; exact ha35
  have ha44 : w a44 = some (.inl (cI, 2000, .inl (fun _ => 0))) := by rw [hf9 a44 ne45]; exact ha44
  have ha54 : w a54 = some (.inl (cI, 400, .inl (fun _ => 0))) := by rw [hf9 a54 ne55]; exact ha54
  have hfr : ∀ x, x ≠ a0 → x ≠ b → x ≠ a2 → x ≠ a5 → x ≠ a9 → x ≠ a14 → x ≠ a20 → x ≠ a27 → x ≠ a35 → x ≠ a44 → x ≠ a54 → w x = w0 x := fun x n0 n1 n2 n3 n4 n5 n6 n7 n8 n9 n10 => by rw [hf9 x n1]; exact hfr x n0 n1 n2 n3 n4 n5 n6 n7 n8 n9 n10
  have hbx := Bof_b y
  suffices hs : W p l e { frames := 1, cells := 10, slots := 33216, locals := 12 } s m args below meth c H locs 10 33216 (MQ below (mQ (dC, dI) vwCl (tyL cI cZ cT) (fun v w2 => v = none ∧ ∃ q : Nat → Nat, q 0 = b ∧ RW cI cZ q 0 (Kof x) (Wof y) 0 (fun _ => some 0) (fun _ => 0) (fun _ => false) (fun _ _ => 0) (fun _ _ => some 0) (fun _ => none) (fun _ => none) 0 0 0 0 0 0 (fun _ => 0) (fun _ => some 0) (fun _ => some 0) w2) A) args s 10 33216 A) (F0 m 136 ls [.int (nI (Bof y))]) by
    refine lv_iload_n S.1 S.2.1 dX10_init_111 rfl (lv_at hl 2 rfl) ?_
    refine lv_bipush (v := nI (16)) S.1 S.2.1 dX10_init_112 (by decide) ?_
    refine lv_icmp_ge (tgt := 122) S.1 S.2.1 dX10_init_114 (by decide) (fun c1 => ?_) (fun c1 => ?_)
    · have c1 : ¬ y < nI 16 := fun z => by have h1 := lt_toInt.mp z; have h2 := le_toInt.mp c1; omega
      refine lv_iload_n S.1 S.2.1 dX10_init_122 rfl (lv_at hl 2 rfl) ?_
      refine lv_sipush (v := nI (400)) S.1 S.2.1 dX10_init_123 (by decide) ?_
      refine lv_icmp_le (tgt := 135) S.1 S.2.1 dX10_init_126 (by decide) (fun c2 => ?_) (fun c2 => ?_)
      · have c2 : ¬ nI 400 < y := fun z => by have h1 := lt_toInt.mp z; have h2 := le_toInt.mp c2; omega
        rw [Bof_nI c1 c2] at hs
        refine lv_iload_n S.1 S.2.1 dX10_init_135 rfl (lv_at hl 2 rfl) ?_
        exact hs
      · have c2 : nI 400 < y := lt_toInt.mpr (Int.not_le.mp (mt le_toInt.mpr c2))
        have e9 : Bof y = 400 := by unfold Bof; rw [if_neg c1, if_pos c2]
        rw [e9] at hs
        refine lv_sipush (v := nI (400)) S.1 S.2.1 dX10_init_129 (by decide) ?_
        refine lv_goto (tgt := 136) S.1 S.2.1 dX10_init_132 (by decide) ?_
        exact hs
    · have c1 : y < nI 16 := lt_toInt.mpr (Int.not_le.mp (mt le_toInt.mpr c1))
      have e9 : Bof y = 16 := by unfold Bof; rw [if_pos c1]
      rw [e9] at hs
      refine lv_bipush (v := nI (16)) S.1 S.2.1 dX10_init_117 (by decide) ?_
      refine lv_goto (tgt := 136) S.1 S.2.1 dX10_init_119 (by decide) ?_
      exact hs
  refine lv_istore_n (lv' := [(3, .int (nI (Bof y))), (0, .ref (b)), (1, .int (x)), (2, .int (y))]) S.1 S.2.1 dX10_init_136 rfl hl (by decide) rfl (fun ls hl => ?_)
  refine lv_aload_n S.1 S.2.1 dX10_init_137 rfl (lv_at hl 1 rfl) ?_
  refine lv_iload_n S.1 S.2.1 dX10_init_138 rfl (lv_at hl 0 rfl) ?_
  refine lv_iload_n S.1 S.2.1 dX10_init_139 rfl (lv_at hl 0 rfl) ?_
  refine lv_iconst (v := nI (4)) S.1 S.2.1 dX10_init_140 (by decide) ?_
  refine lv_irem S.1 S.2.1 dX10_init_141 (by decide) ?_
  refine lv_eqi (pk_rem (by omega) (by omega) (by omega)) ?_
  refine lv_isub S.1 S.2.1 dX10_init_142 ?_
  refine lv_eqi (pk_sub (by omega)) ?_
  refine lv_eqi (y := nI (Wof y)) (rfl) ?_
  refine mn_putF (v := .int (nI (Wof y))) S inlX10 tyX10 tyX10_ok nmX10 hK hG hb rfl 2 (by decide) in_135 (fun _ h9 => h9) rfl hnm rfl (ty := .int) (by decide +kernel) rfl rfl (Nat.le_of_ble_eq_true rfl) dX10_init_143 (fun w H locs hb hf9 hG => ?_)
  have hb : w b = some (.inr (9, [.int 0, .int (nI (Kof x)), .int (nI (Wof y)), .int 0, .ref (a0), .ref (a2), .ref (a5), .ref (a9), .ref (a14), .ref (a20), .ref (a27), .int 0, .int 0, .int 0, .int 0, .int 0, .int 0, .ref (a35), .ref (a44), .ref (a54)])) := hb
  have ha0 : w a0 = some (.inl (cI, 2000, .inl (fun _ => 0))) := by rw [hf9 a0 ne1]; exact ha0
  have ha2 : w a2 = some (.inl (cI, 2000, .inl (fun _ => 0))) := by rw [hf9 a2 ne3]; exact ha2
  have ha5 : w a5 = some (.inl (cZ, 2000, .inl (fun _ => 0))) := by rw [hf9 a5 ne6]; exact ha5
  have ha9 : w a9 = some (.inl (cI, 12000, .inl (fun _ => 0))) := by rw [hf9 a9 ne10]; exact ha9
  have ha14 : w a14 = some (.inl (cI, 12000, .inl (fun _ => 0))) := by rw [hf9 a14 ne15]; exact ha14
  have ha20 : w a20 = some (.inl (cI, 16, .inl (fun _ => 0))) := by rw [hf9 a20 ne21]; exact ha20
  have ha27 : w a27 = some (.inl (cI, 400, .inl (fun _ => 0))) := by rw [hf9 a27 ne28]; exact ha27
  have ha35 : w a35 = some (.inl (cI, 400, .inl (fun _ => 0))) := by rw [hf9 a35 ne36]; exact ha35
  have ha44 : w a44 = some (.inl (cI, 2000, .inl (fun _ => 0))) := by rw [hf9 a44 ne45]; exact ha44
  have ha54 : w a54 = some (.inl (cI, 400, .inl (fun _ => 0))) := by rw [hf9 a54 ne55]; exact ha54
  have hfr : ∀ x, x ≠ a0 → x ≠ b → x ≠ a2 → x ≠ a5 → x ≠ a9 → x ≠ a14 → x ≠ a20 → x ≠ a27 → x ≠ a35 → x ≠ a44 → x ≠ a54 → w x = w0 x := fun x n0 n1 n2 n3 n4 n5 n6 n7 n8 n9 n10 => by rw [hf9 x n1]; exact hfr x n0 n1 n2 n3 n4 n5 n6 n7 n8 n9 n10
  refine lv_iconst (v := nI (0)) S.1 S.2.1 dX10_init_146 (by decide) ?_
  refine lv_istore (lv' := [(4, .int (nI (0))), (3, .int (nI (Bof y))), (0, .ref (b)), (1, .int (x)), (2, .int (y))]) S.1 S.2.1 dX10_init_147 hl (by decide) rfl (fun ls hl => ?_)
  obtain ⟨q, hqq⟩ : ∃ z : Nat → Nat, z = (fun i => match i with | 0 => b | 1 => a0 | 2 => a2 | 3 => a5 | 4 => a9 | 5 => a14 | 6 => a20 | 7 => a27 | 8 => a35 | 9 => a44 | _ => a54) := ⟨_, rfl⟩
  have q0 : q 0 = b := by subst hqq; rfl
  have q1 : q 1 = a0 := by subst hqq; rfl
  have q2 : q 2 = a2 := by subst hqq; rfl
  have q3 : q 3 = a5 := by subst hqq; rfl
  have q4 : q 4 = a9 := by subst hqq; rfl
  have q5 : q 5 = a14 := by subst hqq; rfl
  have q6 : q 6 = a20 := by subst hqq; rfl
  have q7 : q 7 = a27 := by subst hqq; rfl
  have q8 : q 8 = a35 := by subst hqq; rfl
  have q9 : q 9 = a44 := by subst hqq; rfl
  have q10 : q 10 = a54 := by subst hqq; rfl
  have n_1_0 : q 1 ≠ q 0 := by rw [q1, q0]; exact ne1
  have n_2_0 : q 2 ≠ q 0 := by rw [q2, q0]; exact ne3
  have n_2_1 : q 2 ≠ q 1 := by rw [q2, q1]; exact ne4
  have n_3_0 : q 3 ≠ q 0 := by rw [q3, q0]; exact ne6
  have n_3_1 : q 3 ≠ q 1 := by rw [q3, q1]; exact ne7
  have n_3_2 : q 3 ≠ q 2 := by rw [q3, q2]; exact ne8
  have n_4_0 : q 4 ≠ q 0 := by rw [q4, q0]; exact ne10
  have n_4_1 : q 4 ≠ q 1 := by rw [q4, q1]; exact ne11
  have n_4_2 : q 4 ≠ q 2 := by rw [q4, q2]; exact ne12
  have n_4_3 : q 4 ≠ q 3 := by rw [q4, q3]; exact ne13
  have n_5_0 : q 5 ≠ q 0 := by rw [q5, q0]; exact ne15
  have n_5_1 : q 5 ≠ q 1 := by rw [q5, q1]; exact ne16
  have n_5_2 : q 5 ≠ q 2 := by rw [q5, q2]; exact ne17
  have n_5_3 : q 5 ≠ q 3 := by rw [q5, q3]; exact ne18
  have n_5_4 : q 5 ≠ q 4 := by rw [q5, q4]; exact ne19
  have n_6_0 : q 6 ≠ q 0 := by rw [q6, q0]; exact ne21
  have n_6_1 : q 6 ≠ q 1 := by rw [q6, q1]; exact ne22
  have n_6_2 : q 6 ≠ q 2 := by rw [q6, q2]; exact ne23
  have n_6_3 : q 6 ≠ q 3 := by rw [q6, q3]; exact ne24
  have n_6_4 : q 6 ≠ q 4 := by rw [q6, q4]; exact ne25
  have n_6_5 : q 6 ≠ q 5 := by rw [q6, q5]; exact ne26
  have n_7_0 : q 7 ≠ q 0 := by rw [q7, q0]; exact ne28
  have n_7_1 : q 7 ≠ q 1 := by rw [q7, q1]; exact ne29
  have n_7_2 : q 7 ≠ q 2 := by rw [q7, q2]; exact ne30
  have n_7_3 : q 7 ≠ q 3 := by rw [q7, q3]; exact ne31
  have n_7_4 : q 7 ≠ q 4 := by rw [q7, q4]; exact ne32
  have n_7_5 : q 7 ≠ q 5 := by rw [q7, q5]; exact ne33
  have n_7_6 : q 7 ≠ q 6 := by rw [q7, q6]; exact ne34
  have n_8_0 : q 8 ≠ q 0 := by rw [q8, q0]; exact ne36
  have n_8_1 : q 8 ≠ q 1 := by rw [q8, q1]; exact ne37
  have n_8_2 : q 8 ≠ q 2 := by rw [q8, q2]; exact ne38
  have n_8_3 : q 8 ≠ q 3 := by rw [q8, q3]; exact ne39
  have n_8_4 : q 8 ≠ q 4 := by rw [q8, q4]; exact ne40
  have n_8_5 : q 8 ≠ q 5 := by rw [q8, q5]; exact ne41
  have n_8_6 : q 8 ≠ q 6 := by rw [q8, q6]; exact ne42
  have n_8_7 : q 8 ≠ q 7 := by rw [q8, q7]; exact ne43
  have n_9_0 : q 9 ≠ q 0 := by rw [q9, q0]; exact ne45
  have n_9_1 : q 9 ≠ q 1 := by rw [q9, q1]; exact ne46
  have n_9_2 : q 9 ≠ q 2 := by rw [q9, q2]; exact ne47
  have n_9_3 : q 9 ≠ q 3 := by rw [q9, q3]; exact ne48
  have n_9_4 : q 9 ≠ q 4 := by rw [q9, q4]; exact ne49
  have n_9_5 : q 9 ≠ q 5 := by rw [q9, q5]; exact ne50
  have n_9_6 : q 9 ≠ q 6 := by rw [q9, q6]; exact ne51
  have n_9_7 : q 9 ≠ q 7 := by rw [q9, q7]; exact ne52
  have n_9_8 : q 9 ≠ q 8 := by rw [q9, q8]; exact ne53
  have n_10_0 : q 10 ≠ q 0 := by rw [q10, q0]; exact ne55
  have n_10_1 : q 10 ≠ q 1 := by rw [q10, q1]; exact ne56
  have n_10_2 : q 10 ≠ q 2 := by rw [q10, q2]; exact ne57
  have n_10_3 : q 10 ≠ q 3 := by rw [q10, q3]; exact ne58
  have n_10_4 : q 10 ≠ q 4 := by rw [q10, q4]; exact ne59
  have n_10_5 : q 10 ≠ q 5 := by rw [q10, q5]; exact ne60
  have n_10_6 : q 10 ≠ q 6 := by rw [q10, q6]; exact ne61
  have n_10_7 : q 10 ≠ q 7 := by rw [q10, q7]; exact ne62
  have n_10_8 : q 10 ≠ q 8 := by rw [q10, q8]; exact ne63
  have n_10_9 : q 10 ≠ q 9 := by rw [q10, q9]; exact ne64
  have hinj : ∀ i j, i < 11 → j < 11 → q i = q j → i = j := by
    intro i j hi hj h
    rcases (show i = 0 ∨ i = 1 ∨ i = 2 ∨ i = 3 ∨ i = 4 ∨ i = 5 ∨ i = 6 ∨ i = 7 ∨ i = 8 ∨ i = 9 ∨ i = 10 by omega) with rfl | rfl | rfl | rfl | rfl | rfl | rfl | rfl | rfl | rfl | rfl <;> rcases (show j = 0 ∨ j = 1 ∨ j = 2 ∨ j = 3 ∨ j = 4 ∨ j = 5 ∨ j = 6 ∨ j = 7 ∨ j = 8 ∨ j = 9 ∨ j = 10 by omega) with rfl | rfl | rfl | rfl | rfl | rfl | rfl | rfl | rfl | rfl | rfl <;> first | rfl | exact absurd h n_1_0 | exact absurd h.symm n_1_0 | exact absurd h n_2_0 | exact absurd h.symm n_2_0 | exact absurd h n_2_1 | exact absurd h.symm n_2_1 | exact absurd h n_3_0 | exact absurd h.symm n_3_0 | exact absurd h n_3_1 | exact absurd h.symm n_3_1 | exact absurd h n_3_2 | exact absurd h.symm n_3_2 | exact absurd h n_4_0 | exact absurd h.symm n_4_0 | exact absurd h n_4_1 | exact absurd h.symm n_4_1 | exact absurd h n_4_2 | exact absurd h.symm n_4_2 | exact absurd h n_4_3 | exact absurd h.symm n_4_3 | exact absurd h n_5_0 | exact absurd h.symm n_5_0 | exact absurd h n_5_1 | exact absurd h.symm n_5_1 | exact absurd h n_5_2 | exact absurd h.symm n_5_2 | exact absurd h n_5_3 | exact absurd h.symm n_5_3 | exact absurd h n_5_4 | exact absurd h.symm n_5_4 | exact absurd h n_6_0 | exact absurd h.symm n_6_0 | exact absurd h n_6_1 | exact absurd h.symm n_6_1 | exact absurd h n_6_2 | exact absurd h.symm n_6_2 | exact absurd h n_6_3 | exact absurd h.symm n_6_3 | exact absurd h n_6_4 | exact absurd h.symm n_6_4 | exact absurd h n_6_5 | exact absurd h.symm n_6_5 | exact absurd h n_7_0 | exact absurd h.symm n_7_0 | exact absurd h n_7_1 | exact absurd h.symm n_7_1 | exact absurd h n_7_2 | exact absurd h.symm n_7_2 | exact absurd h n_7_3 | exact absurd h.symm n_7_3 | exact absurd h n_7_4 | exact absurd h.symm n_7_4 | exact absurd h n_7_5 | exact absurd h.symm n_7_5 | exact absurd h n_7_6 | exact absurd h.symm n_7_6 | exact absurd h n_8_0 | exact absurd h.symm n_8_0 | exact absurd h n_8_1 | exact absurd h.symm n_8_1 | exact absurd h n_8_2 | exact absurd h.symm n_8_2 | exact absurd h n_8_3 | exact absurd h.symm n_8_3 | exact absurd h n_8_4 | exact absurd h.symm n_8_4 | exact absurd h n_8_5 | exact absurd h.symm n_8_5 | exact absurd h n_8_6 | exact absurd h.symm n_8_6 | exact absurd h n_8_7 | exact absurd h.symm n_8_7 | exact absurd h n_9_0 | exact absurd h.symm n_9_0 | exact absurd h n_9_1 | exact absurd h.symm n_9_1 | exact absurd h n_9_2 | exact absurd h.symm n_9_2 | exact absurd h n_9_3 | exact absurd h.symm n_9_3 | exact absurd h n_9_4 | exact absurd h.symm n_9_4 | exact absurd h n_9_5 | exact absurd h.symm n_9_5 | exact absurd h n_9_6 | exact absurd h.symm n_9_6 | exact absurd h n_9_7 | exact absurd h.symm n_9_7 | exact absurd h n_9_8 | exact absurd h.symm n_9_8 | exact absurd h n_10_0 | exact absurd h.symm n_10_0 | exact absurd h n_10_1 | exact absurd h.symm n_10_1 | exact absurd h n_10_2 | exact absurd h.symm n_10_2 | exact absurd h n_10_3 | exact absurd h.symm n_10_3 | exact absurd h n_10_4 | exact absurd h.symm n_10_4 | exact absurd h n_10_5 | exact absurd h.symm n_10_5 | exact absurd h n_10_6 | exact absurd h.symm n_10_6 | exact absurd h n_10_7 | exact absurd h.symm n_10_7 | exact absurd h n_10_8 | exact absurd h.symm n_10_8 | exact absurd h n_10_9 | exact absurd h.symm n_10_9
  have hR : RW cI cZ q 0 (Kof x) (Wof y) 0 (fun _ => some 0) (fun _ => 0) (fun _ => false) (fun _ _ => 0) (fun _ _ => some 0) (fun _ => some 0) (fun _ => some 0) 0 0 0 0 0 0 (fun _ => 0) (fun _ => some 0) (fun _ => some 0) w := by
    refine ⟨fun i hi => ?_, hinj⟩
    rcases (show i = 0 ∨ i = 1 ∨ i = 2 ∨ i = 3 ∨ i = 4 ∨ i = 5 ∨ i = 6 ∨ i = 7 ∨ i = 8 ∨ i = 9 ∨ i = 10 by omega) with rfl | rfl | rfl | rfl | rfl | rfl | rfl | rfl | rfl | rfl | rfl
    · rw [q0, hb]; apply congrArg; simp [cellR, objR, oI, bI, nI0, q0, q1, q2, q3, q4, q5, q6, q7, q8, q9, q10]
    · rw [q1, ha0]; apply congrArg; simp [cellR, objR, oI, bI, nI0, q0, q1, q2, q3, q4, q5, q6, q7, q8, q9, q10]
    · rw [q2, ha2]; apply congrArg; simp [cellR, objR, oI, bI, nI0, q0, q1, q2, q3, q4, q5, q6, q7, q8, q9, q10]
    · rw [q3, ha5]; apply congrArg; simp [cellR, objR, oI, bI, nI0, q0, q1, q2, q3, q4, q5, q6, q7, q8, q9, q10]
    · rw [q4, ha9]; apply congrArg; simp [cellR, objR, oI, bI, nI0, q0, q1, q2, q3, q4, q5, q6, q7, q8, q9, q10]
    · rw [q5, ha14]; apply congrArg; simp [cellR, objR, oI, bI, nI0, q0, q1, q2, q3, q4, q5, q6, q7, q8, q9, q10]
    · rw [q6, ha20]; apply congrArg; simp [cellR, objR, oI, bI, nI0, q0, q1, q2, q3, q4, q5, q6, q7, q8, q9, q10]
    · rw [q7, ha27]; apply congrArg; simp [cellR, objR, oI, bI, nI0, q0, q1, q2, q3, q4, q5, q6, q7, q8, q9, q10]
    · rw [q8, ha35]; apply congrArg; simp [cellR, objR, oI, bI, nI0, q0, q1, q2, q3, q4, q5, q6, q7, q8, q9, q10]
    · rw [q9, ha44]; apply congrArg; simp [cellR, objR, oI, bI, nI0, q0, q1, q2, q3, q4, q5, q6, q7, q8, q9, q10]
    · rw [q10, ha54]; apply congrArg; simp [cellR, objR, oI, bI, nI0, q0, q1, q2, q3, q4, q5, q6, q7, q8, q9, q10]
  have hl : lv_has ls 5 [(4, .int (nI (0))), (3, .int (nI (Bof y))), (0, .ref (q 0)), (1, .int (x)), (2, .int (y))] := by rw [q0]; exact hl
  clear hqq hinj
  have LA : ∀ (fu : Nat) (k : Nat), 400 - k < fu → (k ≤ 400) → ∀ (w : mM) (H : Heap) (locs : List Loc), RW cI cZ q 0 (Kof x) (Wof y) 0 (fun _ => some 0) (fun _ => 0) (fun _ => false) (fun _ _ => 0) (fun _ _ => some 0) (fun _ => some 0) (clrO (fun _ => some 0) k) 0 0 0 0 0 0 (fun _ => 0) (fun _ => some 0) (fun _ => some 0) w → mG (dC, dI) vwCl A s.heap w H locs → ∀ ls : Array Slot, lv_has ls 5 [(4, .int (nI (k))), (0, .ref (q 0)), (1, .int (x)), (2, .int (y)), (3, .int (nI (Bof y)))] → W p l e { frames := 1, cells := 10, slots := 33216, locals := 12 } s m args below meth c H locs 10 33216 (MQ below (mQ (dC, dI) vwCl (tyL cI cZ cT) (fun v w2 => v = none ∧ ∃ q : Nat → Nat, q 0 = b ∧ RW cI cZ q 0 (Kof x) (Wof y) 0 (fun _ => some 0) (fun _ => 0) (fun _ => false) (fun _ _ => 0) (fun _ _ => some 0) (fun _ => none) (fun _ => none) 0 0 0 0 0 0 (fun _ => 0) (fun _ => some 0) (fun _ => some 0) w2) A) args s 10 33216 A) (F0 m 149 ls []) := by
    intro fu
    induction fu with
    | zero => intro k h1; exact absurd h1 (Nat.not_lt_zero _)
    | succ fu ihLA =>
      intro k h1 h2 w H locs hR hG ls hl
      refine lv_iload S.1 S.2.1 dX10_init_149 (lv_at hl 0 rfl) ?_
      refine lv_sipush (v := nI (400)) S.1 S.2.1 dX10_init_151 (by decide) ?_
      refine lv_icmp_ge (tgt := 171) S.1 S.2.1 dX10_init_154 (by decide) (fun c1 => ?_) (fun c1 => ?_)
      · have c1 : 400 ≤ k := (nI_leI (a := 400) (b := k) (by omega) (by omega)).mp c1
        have hk : k = 400 := by omega
        subst hk
        refine lv_iconst (v := nI (0)) S.1 S.2.1 dX10_init_171 (by decide) ?_
        refine lv_istore (lv' := [(4, .int (nI (0))), (0, .ref (q 0)), (1, .int (x)), (2, .int (y)), (3, .int (nI (Bof y)))]) S.1 S.2.1 dX10_init_172 hl (by decide) rfl (fun ls hl => ?_)
        have LB : ∀ (fu : Nat) (i : Nat), 16 - i < fu → (i ≤ 16) → ∀ (w : mM) (H : Heap) (locs : List Loc), RW cI cZ q 0 (Kof x) (Wof y) 0 (fun _ => some 0) (fun _ => 0) (fun _ => false) (fun _ _ => 0) (fun _ _ => some 0) (clrO (fun _ => some 0) i) (clrO (fun _ => some 0) 400) 0 0 0 0 0 0 (fun _ => 0) (fun _ => some 0) (fun _ => some 0) w → mG (dC, dI) vwCl A s.heap w H locs → ∀ ls : Array Slot, lv_has ls 5 [(4, .int (nI (i))), (0, .ref (q 0)), (1, .int (x)), (2, .int (y)), (3, .int (nI (Bof y)))] → W p l e { frames := 1, cells := 10, slots := 33216, locals := 12 } s m args below meth c H locs 10 33216 (MQ below (mQ (dC, dI) vwCl (tyL cI cZ cT) (fun v w2 => v = none ∧ ∃ q : Nat → Nat, q 0 = b ∧ RW cI cZ q 0 (Kof x) (Wof y) 0 (fun _ => some 0) (fun _ => 0) (fun _ => false) (fun _ _ => 0) (fun _ _ => some 0) (fun _ => none) (fun _ => none) 0 0 0 0 0 0 (fun _ => 0) (fun _ => some 0) (fun _ => some 0) w2) A) args s 10 33216 A) (F0 m 174 ls []) := by
          intro fu
          induction fu with
          | zero => intro i h1; exact absurd h1 (Nat.not_lt_zero _)
          | succ fu ihLB =>
            intro i h1 h3 w H locs hR hG ls hl
            refine lv_iload S.1 S.2.1 dX10_init_174 (lv_at hl 0 rfl) ?_
            refine lv_bipush (v := nI (16)) S.1 S.2.1 dX10_init_176 (by decide) ?_
            refine lv_icmp_ge (tgt := 195) S.1 S.2.1 dX10_init_178 (by decide) (fun c2 => ?_) (fun c2 => ?_)
            · have c2 : 16 ≤ i := (nI_leI (a := 16) (b := i) (by omega) (by omega)).mp c2
              have hi : i = 16 := by omega
              subst hi
              have hR := RW_or hR (own2 := fun _ => none) (root2 := fun _ => none) (fun k hk => by unfold clrO; rw [if_pos hk]) (fun k hk => by unfold clrO; rw [if_pos hk])
              exact mw_vret S hr hlk hK hG dX10_init_195 ⟨rfl, q, q0, hR⟩
            · have c2 : ¬ (16 ≤ i) := fun h9 => c2 ((nI_leI (a := 16) (b := i) (by omega) (by omega)).mpr h9)
              refine lv_aload_n S.1 S.2.1 dX10_init_181 rfl (lv_at hl 1 rfl) ?_
              refine rg_root S hK hG hR dX10_init_182 ?_
              refine lv_iload S.1 S.2.1 dX10_init_185 (lv_at hl 0 rfl) ?_
              refine lv_iconst (v := -1) S.1 S.2.1 dX10_init_187 (by decide) ?_
              refine rs_root S hK hG hR (i) (none) (by omega) dX10_init_188 (fun w H locs hR hG => ?_)
              rw [clrO_s] at hR
              refine lv_iinc (v := nI (i + 1)) (lv' := [(4, .int (nI (i + 1))), (0, .ref (q 0)), (1, .int (x)), (2, .int (y)), (3, .int (nI (Bof y)))]) S.1 S.2.1 dX10_init_189 hl (k := 0) rfl (nI_1 _) (by decide) rfl (fun ls hl => ?_)
              refine lv_goto (tgt := 174) S.1 S.2.1 dX10_init_192 (by decide) ?_
              exact ihLB (i + 1) (by omega) (by omega) _ _ _ hR hG ls (lv_sub hl [0, 1, 2, 3, 4] rfl)
        exact LB (17) 0 (by omega) (by omega) _ _ _ (by rw [clrO_0]; exact hR) hG ls (lv_sub hl [0, 1, 2, 3, 4] rfl)
      · have c1 : ¬ (400 ≤ k) := fun h9 => c1 ((nI_leI (a := 400) (b := k) (by omega) (by omega)).mpr h9)
        refine lv_aload_n S.1 S.2.1 dX10_init_157 rfl (lv_at hl 1 rfl) ?_
        refine rg_own S hK hG hR dX10_init_158 ?_
        refine lv_iload S.1 S.2.1 dX10_init_161 (lv_at hl 0 rfl) ?_
        refine lv_iconst (v := -1) S.1 S.2.1 dX10_init_163 (by decide) ?_
        refine rs_own S hK hG hR (k) (none) (by omega) dX10_init_164 (fun w H locs hR hG => ?_)
        rw [clrO_s] at hR
        refine lv_iinc (v := nI (k + 1)) (lv' := [(4, .int (nI (k + 1))), (0, .ref (q 0)), (1, .int (x)), (2, .int (y)), (3, .int (nI (Bof y)))]) S.1 S.2.1 dX10_init_165 hl (k := 0) rfl (nI_1 _) (by decide) rfl (fun ls hl => ?_)
        refine lv_goto (tgt := 149) S.1 S.2.1 dX10_init_168 (by decide) ?_
        exact ihLA (k + 1) (by omega) (by omega) _ _ _ hR hG ls (lv_sub hl [0, 1, 2, 3, 4] rfl)
  exact LA (401) 0 (by omega) (by omega) _ _ _ (by rw [clrO_0]; exact hR) hG ls (lv_sub hl [0, 2, 3, 4, 1] rfl)
