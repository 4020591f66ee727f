theorem JW.later {cI cZ cT : ClassId} {b1 b2 t : Nat} {wC wR : mM} (hJ : JW cI cZ cT b1 b2 t wC wR) : JW cI cZ cT b1 b2 (t + 1) wC wR := by
  obtain ⟨q1, q2, kp, Wn, made, fl, num, rfs, root, own, tad, trm, tpl, wlk, ord, met, msz, cur, mend, pnx, pen, st, coll, mins, movd, thr, adr, rem, half, top, size, row, plc, old, rfl, rfl, hC, hR, hS, hw1, hw2, hw3⟩ := hJ
  exact JW_i rfl rfl hC hR hS hw1 hw2 (by omega)
set_option maxHeartbeats 4000000 in
set_option maxRecDepth 100000 in
/-- THE LAW'S LOOP: behind t calls both sides hold the joint world -/
theorem law_loop {p : Program} {e : Env} {s : State} {m : MethodId} {below : List Frame} {meth : Method} {c : Code} {l : Launch} {dC : Nat → ClassId} {dI : Nat → Nat → Nat} {cI cZ cT : ClassId} {b L : Nat} {xs : Nat → Int32} (hL : L ≤ 2050) (C0 : lw_At p s m meth c b L xs) (hK : va_K (dC, dI) vwCl (tyL cI cZ cT) s) (hN : mN s) : ∀ (n t : Nat), 4 * t ≤ L + 2 → L + 8 ≤ 4 * t + n → ∀ (b1 b2 : Nat), ∀ (wC wR : mM) (H : Heap) (locs : List Loc), JW cI cZ cT b1 b2 t wC wR → mG (dC, dI) vwCl (fun q => s.heap.size ≤ q) s.heap wC H locs → mG (dC, dI) vwCl (fun q => s.heap.size ≤ q) s.heap wR H locs → (∀ a e, wC a = some e → wR a = none) → ∀ ls : Array Slot, lv_has ls 4 [(3, .int (nI (2 + 4 * t))), (2, .ref (b2)), (1, .ref (b1)), (0, .ref (b))] → W p l e room_1 s m #[Value.ref b] below meth c H locs (40 + 3 * t) (40000 + 20 * t) (lw_Z below #[Value.ref b] s) (F0 m 38 ls []) := by
  obtain ⟨hx, hb, hr, hml, hown, hts, hX, hbl, hlocks, hgv⟩ := C0
  have S : CallFix p m c cL_law 4 s #[Value.ref b] wsL RL := ⟨hx, hb, hml, hown, fun w hw => hts w (wsL_law_in w hw)⟩
  have hbA : ¬ (fun q : Nat => s.heap.size ≤ q) b := Nat.not_le.mpr hbl
  intro n
  induction n with
  | zero => intro t h1 h2; exact absurd h2 (by omega)
  | succ n ih =>
    intro t h1 h2 b1 b2
    have NX : 2 + 4 * t + 4 ≤ L → ∀ (wC wR : mM) (H : Heap) (locs : List Loc), JW cI cZ cT b1 b2 (t + 1) wC wR → mG (dC, dI) vwCl (fun q => s.heap.size ≤ q) s.heap wC H locs → mG (dC, dI) vwCl (fun q => s.heap.size ≤ q) s.heap wR H locs → (∀ a e, wC a = some e → wR a = none) → ∀ ls : Array Slot, lv_has ls 4 [(3, .int (nI (2 + 4 * t))), (2, .ref (b2)), (1, .ref (b1)), (0, .ref (b))] → W p l e room_1 s m #[Value.ref b] below meth c H locs (40 + 3 * (t + 1)) (40000 + 20 * (t + 1)) (lw_Z below #[Value.ref b] s) (F0 m 574 ls []) := by
      intro hi wC wR H locs hJ hG hF hd ls hl
      refine lv_iinc (v := nI (2 + 4 * (t + 1))) (lv' := [(3, .int (nI (2 + 4 * (t + 1)))), (2, .ref (b2)), (1, .ref (b1)), (0, .ref (b))]) S.1 S.2.1 dL_law_574 hl (k := 0) rfl (by rw [show 2 + 4 * (t + 1) = (2 + 4 * t) + 4 by omega]; exact nI_add (2 + 4 * t) 4) (by decide) rfl (fun ls hl => ?_)
      refine lv_goto (tgt := 38) S.1 S.2.1 dL_law_577 (by decide) ?_
      exact ih (t + 1) (by omega) (by omega) b1 b2 wC wR H locs hJ hG hF hd ls hl
    intro wC wR H locs hJ hG hF hd ls hl
    refine lv_iload_n S.1 S.2.1 dL_law_38 rfl (lv_at hl 0 rfl) ?_
    refine lv_aload_n S.1 S.2.1 dL_law_39 rfl (lv_at hl 3 rfl) ?_
    refine va_slen S.1 S.2.1 hX hbl hbA hG.2.2.1 dL_law_40 ?_
    refine lv_eqi (y := nI (L)) (rfl) ?_
    refine lv_iconst (v := nI (4)) S.1 S.2.1 dL_law_41 (by decide) ?_
    by_cases h4 : 4 ≤ L
    · refine lv_isub S.1 S.2.1 dL_law_42 ?_
      refine lv_eqi (pk_sub (by omega)) ?_
      refine lv_icmp_gt (tgt := 580) S.1 S.2.1 dL_law_43 (by decide) (fun c1 => ?_) (fun c1 => ?_)
      · have c1 : (L - 4) < (2 + 4 * t) := (nI_ltI (a := L - 4) (b := 2 + 4 * t) (by omega) (by omega)).mp c1
        refine lv_iconst (v := 1) S.1 S.2.1 dL_law_580 (by decide) ?_
        refine va_forget (fun q hq => hG.2.2.1.2.2 q hq) ?_
        refine W.widen (k := 600000) (n := 7302250) (by omega) (by omega) ?_
        exact lw_ret hx hb hr hlocks dL_law_581
      · have c1 : ¬ ((L - 4) < (2 + 4 * t)) := fun h9 => c1 ((nI_ltI (a := L - 4) (b := 2 + 4 * t) (by omega) (by omega)).mpr h9)
        have hi : 2 + 4 * t + 4 ≤ L := by omega
        have NX := fun wC wR H locs hJ hG hF hd ls hl => NX (by omega) wC wR H locs hJ hG hF hd ls hl
        refine lv_aload_n S.1 S.2.1 dL_law_46 rfl (lv_at hl 3 rfl) ?_
        refine lv_iload_n S.1 S.2.1 dL_law_47 rfl (lv_at hl 0 rfl) ?_
        refine va_sld S.1 S.2.1 hX hbl hbA hG.2.2.1 (i := nI (2 + 4 * t)) (vp_in_nI (by omega) (by omega)) dL_law_48 ?_
        refine lv_eqi (y := xs (2 + 4 * t)) (by rw [nI_clamp (by omega)]) ?_
        refine lv_bipush (v := nI (15)) S.1 S.2.1 dL_law_49 (by decide) ?_
        refine lv_iand S.1 S.2.1 dL_law_51 ?_
        have hT : t ≤ 600 := by omega
        obtain ⟨fs1, ho1⟩ := hJ.oC
        obtain ⟨fs2, ho2⟩ := hJ.oR
        have hd2 : ∀ a e, wR a = some e → wC a = none := fun a e ha => by
          cases hc : wC a with
          | none => rfl
          | some e2 => rw [hd a e2 hc] at ha; cases ha
        by_cases hy : inR 15 (xs (2 + 4 * t) &&& nI 15) = true
        · obtain ⟨k, hk, he⟩ := inR_ex (by decide) hy
          rw [he]
          rcases (show k = 0 ∨ k = 1 ∨ k = 2 ∨ k = 3 ∨ k = 4 ∨ k = 5 ∨ k = 6 ∨ k = 7 ∨ k = 8 ∨ k = 9 ∨ k = 10 ∨ k = 11 ∨ k = 12 ∨ k = 13 ∨ k = 14 by omega) with rfl | rfl | rfl | rfl | rfl | rfl | rfl | rfl | rfl | rfl | rfl | rfl | rfl | rfl | rfl
          · refine lv_tableIn (tgt := 128) (off := 76) S.1 S.2.1 dL_law_52 (by decide) (by decide) (by decide) (by decide) ?_
            obtain ⟨post1, hc1, hnx⟩ := st_make (l := l) (dC := dC) (dI := dI) hJ hT (xs (2 + 4 * t + 1)) (xs (2 + 4 * t + 2))
            refine lv_aload_n S.1 S.2.1 dL_law_128 rfl (lv_at hl 2 rfl) ?_
            refine lv_aload_n S.1 S.2.1 dL_law_129 rfl (lv_at hl 3 rfl) ?_
            refine lv_iload_n S.1 S.2.1 dL_law_130 rfl (lv_at hl 0 rfl) ?_
            refine lv_iconst (v := nI (1)) S.1 S.2.1 dL_law_131 (by decide) ?_
            refine lv_iadd S.1 S.2.1 dL_law_132 ?_
            refine lv_eqi (nI_add _ _) ?_
            refine va_sld S.1 S.2.1 hX hbl hbA hG.2.2.1 (i := nI ((2 + 4 * t) + 1)) (vp_in_nI (by omega) (by omega)) dL_law_133 ?_
            refine lv_eqi (y := xs ((2 + 4 * t) + 1)) (by rw [nI_clamp (by omega)]) ?_
            refine lv_aload_n S.1 S.2.1 dL_law_134 rfl (lv_at hl 3 rfl) ?_
            refine lv_iload_n S.1 S.2.1 dL_law_135 rfl (lv_at hl 0 rfl) ?_
            refine lv_iconst (v := nI (2)) S.1 S.2.1 dL_law_136 (by decide) ?_
            refine lv_iadd S.1 S.2.1 dL_law_137 ?_
            refine lv_eqi (nI_add _ _) ?_
            refine va_sld S.1 S.2.1 hX hbl hbA hG.2.2.1 (i := nI ((2 + 4 * t) + 2)) (vp_in_nI (by omega) (by omega)) dL_law_138 ?_
            refine lv_eqi (y := xs ((2 + 4 * t) + 2)) (by rw [nI_clamp (by omega)]) ?_
            refine law_V (As := [.int (xs (2 + 4 * t + 1)), .int (xs (2 + 4 * t + 2))]) (rest := []) S hc1 cal_X9_make in_136 in_137 in_138 in_2 hK hN hG hF hd ho1 rfl rfl rfl hl.1 (Nat.le_of_ble_eq_true rfl) ⟨show 40 + 3 * t + 3 ≤ 600000 by omega, show 40000 + 20 * t + 20 ≤ 7302250 by omega⟩ dL_law_139 (fun v w2 H locs hp hG hF hd => ?_)
            obtain ⟨post2, hc2, hfin⟩ := hnx v w2 hp
            have hd3 : ∀ a e, wR a = some e → w2 a = none := fun a e ha => by
              cases hc : w2 a with
              | none => rfl
              | some e2 => rw [hd a e2 hc] at ha; cases ha
            refine lv_aload_n S.1 S.2.1 dL_law_142 rfl (lv_at hl 1 rfl) ?_
            refine lv_aload_n S.1 S.2.1 dL_law_143 rfl (lv_at hl 3 rfl) ?_
            refine lv_iload_n S.1 S.2.1 dL_law_144 rfl (lv_at hl 0 rfl) ?_
            refine lv_iconst (v := nI (1)) S.1 S.2.1 dL_law_145 (by decide) ?_
            refine lv_iadd S.1 S.2.1 dL_law_146 ?_
            refine lv_eqi (nI_add _ _) ?_
            refine va_sld S.1 S.2.1 hX hbl hbA hG.2.2.1 (i := nI ((2 + 4 * t) + 1)) (vp_in_nI (by omega) (by omega)) dL_law_147 ?_
            refine lv_eqi (y := xs ((2 + 4 * t) + 1)) (by rw [nI_clamp (by omega)]) ?_
            refine lv_aload_n S.1 S.2.1 dL_law_148 rfl (lv_at hl 3 rfl) ?_
            refine lv_iload_n S.1 S.2.1 dL_law_149 rfl (lv_at hl 0 rfl) ?_
            refine lv_iconst (v := nI (2)) S.1 S.2.1 dL_law_150 (by decide) ?_
            refine lv_iadd S.1 S.2.1 dL_law_151 ?_
            refine lv_eqi (nI_add _ _) ?_
            refine va_sld S.1 S.2.1 hX hbl hbA hG.2.2.1 (i := nI ((2 + 4 * t) + 2)) (vp_in_nI (by omega) (by omega)) dL_law_152 ?_
            refine lv_eqi (y := xs ((2 + 4 * t) + 2)) (by rw [nI_clamp (by omega)]) ?_
            refine law_V (As := [.int (xs (2 + 4 * t + 1)), .int (xs (2 + 4 * t + 2))]) (rest := (v.toList ++ [])) S hc2 cal_X10_make in_375 in_376 in_377 in_5 hK hN hF hG hd3 ho2 rfl rfl rfl hl.1 (cat_le v) ⟨show 40 + 3 * t + 3 + 0 ≤ 600000 by omega, show 40000 + 20 * t + 20 + 0 ≤ 7302250 by omega⟩ dL_law_153 (fun v2 w3 H locs hp2 hG9 hF9 hd9 => ?_)
            obtain ⟨hvv, hV, hJ2⟩ := hfin v2 w3 hp2
            subst hvv
            obtain ⟨x9, hx9⟩ := hV
            subst hx9
            have hd4 : ∀ a e, w2 a = some e → w3 a = none := fun a e ha => by
              cases hc : w3 a with
              | none => rfl
              | some e2 => rw [hd9 a e2 hc] at ha; cases ha
            refine W.eq (g2 := F0 m 156 ls [.int x9, .int x9]) rfl ?_
            refine lv_icmp_eq (tgt := 574) S.1 S.2.1 dL_law_156 (by decide) (fun c2 => ?_) (fun c2 => ?_)
            · refine W.widen (k := 40 + 3 * (t + 1)) (n := 40000 + 20 * (t + 1)) (by omega) (by omega) ?_
              exact NX w2 w3 H locs hJ2 hF9 hG9 hd4 ls (lv_sub hl [0, 1, 2, 3] rfl)
            · exact absurd rfl c2
          · refine lv_tableIn (tgt := 161) (off := 109) S.1 S.2.1 dL_law_52 (by decide) (by decide) (by decide) (by decide) ?_
            obtain ⟨post1, hc1, hnx⟩ := st_set (l := l) (dC := dC) (dI := dI) hJ (xs (2 + 4 * t + 1)) (xs (2 + 4 * t + 2)) (xs (2 + 4 * t + 3))
            refine lv_aload_n S.1 S.2.1 dL_law_161 rfl (lv_at hl 2 rfl) ?_
            refine lv_aload_n S.1 S.2.1 dL_law_162 rfl (lv_at hl 3 rfl) ?_
            refine lv_iload_n S.1 S.2.1 dL_law_163 rfl (lv_at hl 0 rfl) ?_
            refine lv_iconst (v := nI (1)) S.1 S.2.1 dL_law_164 (by decide) ?_
            refine lv_iadd S.1 S.2.1 dL_law_165 ?_
            refine lv_eqi (nI_add _ _) ?_
            refine va_sld S.1 S.2.1 hX hbl hbA hG.2.2.1 (i := nI ((2 + 4 * t) + 1)) (vp_in_nI (by omega) (by omega)) dL_law_166 ?_
            refine lv_eqi (y := xs ((2 + 4 * t) + 1)) (by rw [nI_clamp (by omega)]) ?_
            refine lv_aload_n S.1 S.2.1 dL_law_167 rfl (lv_at hl 3 rfl) ?_
            refine lv_iload_n S.1 S.2.1 dL_law_168 rfl (lv_at hl 0 rfl) ?_
            refine lv_iconst (v := nI (2)) S.1 S.2.1 dL_law_169 (by decide) ?_
            refine lv_iadd S.1 S.2.1 dL_law_170 ?_
            refine lv_eqi (nI_add _ _) ?_
            refine va_sld S.1 S.2.1 hX hbl hbA hG.2.2.1 (i := nI ((2 + 4 * t) + 2)) (vp_in_nI (by omega) (by omega)) dL_law_171 ?_
            refine lv_eqi (y := xs ((2 + 4 * t) + 2)) (by rw [nI_clamp (by omega)]) ?_
            refine lv_aload_n S.1 S.2.1 dL_law_172 rfl (lv_at hl 3 rfl) ?_
            refine lv_iload_n S.1 S.2.1 dL_law_173 rfl (lv_at hl 0 rfl) ?_
            refine lv_iconst (v := nI (3)) S.1 S.2.1 dL_law_174 (by decide) ?_
            refine lv_iadd S.1 S.2.1 dL_law_175 ?_
            refine lv_eqi (nI_add _ _) ?_
            refine va_sld S.1 S.2.1 hX hbl hbA hG.2.2.1 (i := nI ((2 + 4 * t) + 3)) (vp_in_nI (by omega) (by omega)) dL_law_176 ?_
            refine lv_eqi (y := xs ((2 + 4 * t) + 3)) (by rw [nI_clamp (by omega)]) ?_
            refine law_V (As := [.int (xs (2 + 4 * t + 1)), .int (xs (2 + 4 * t + 2)), .int (xs (2 + 4 * t + 3))]) (rest := []) S hc1 cal_X9_set in_457 in_458 in_459 in_2 hK hN hG hF hd ho1 rfl rfl rfl hl.1 (Nat.le_of_ble_eq_true rfl) ⟨show 40 + 3 * t + 0 ≤ 600000 by omega, show 40000 + 20 * t + 0 ≤ 7302250 by omega⟩ dL_law_177 (fun v w2 H locs hp hG hF hd => ?_)
            obtain ⟨post2, hc2, hfin⟩ := hnx v w2 hp
            have hd3 : ∀ a e, wR a = some e → w2 a = none := fun a e ha => by
              cases hc : w2 a with
              | none => rfl
              | some e2 => rw [hd a e2 hc] at ha; cases ha
            refine lv_aload_n S.1 S.2.1 dL_law_180 rfl (lv_at hl 1 rfl) ?_
            refine lv_aload_n S.1 S.2.1 dL_law_181 rfl (lv_at hl 3 rfl) ?_
            refine lv_iload_n S.1 S.2.1 dL_law_182 rfl (lv_at hl 0 rfl) ?_
            refine lv_iconst (v := nI (1)) S.1 S.2.1 dL_law_183 (by decide) ?_
            refine lv_iadd S.1 S.2.1 dL_law_184 ?_
            refine lv_eqi (nI_add _ _) ?_
            refine va_sld S.1 S.2.1 hX hbl hbA hG.2.2.1 (i := nI ((2 + 4 * t) + 1)) (vp_in_nI (by omega) (by omega)) dL_law_185 ?_
            refine lv_eqi (y := xs ((2 + 4 * t) + 1)) (by rw [nI_clamp (by omega)]) ?_
            refine lv_aload_n S.1 S.2.1 dL_law_186 rfl (lv_at hl 3 rfl) ?_
            refine lv_iload_n S.1 S.2.1 dL_law_187 rfl (lv_at hl 0 rfl) ?_
            refine lv_iconst (v := nI (2)) S.1 S.2.1 dL_law_188 (by decide) ?_
            refine lv_iadd S.1 S.2.1 dL_law_189 ?_
            refine lv_eqi (nI_add _ _) ?_
            refine va_sld S.1 S.2.1 hX hbl hbA hG.2.2.1 (i := nI ((2 + 4 * t) + 2)) (vp_in_nI (by omega) (by omega)) dL_law_190 ?_
            refine lv_eqi (y := xs ((2 + 4 * t) + 2)) (by rw [nI_clamp (by omega)]) ?_
            refine lv_aload_n S.1 S.2.1 dL_law_191 rfl (lv_at hl 3 rfl) ?_
            refine lv_iload_n S.1 S.2.1 dL_law_192 rfl (lv_at hl 0 rfl) ?_
            refine lv_iconst (v := nI (3)) S.1 S.2.1 dL_law_193 (by decide) ?_
            refine lv_iadd S.1 S.2.1 dL_law_194 ?_
            refine lv_eqi (nI_add _ _) ?_
            refine va_sld S.1 S.2.1 hX hbl hbA hG.2.2.1 (i := nI ((2 + 4 * t) + 3)) (vp_in_nI (by omega) (by omega)) dL_law_195 ?_
            refine lv_eqi (y := xs ((2 + 4 * t) + 3)) (by rw [nI_clamp (by omega)]) ?_
            refine law_V (As := [.int (xs (2 + 4 * t + 1)), .int (xs (2 + 4 * t + 2)), .int (xs (2 + 4 * t + 3))]) (rest := (v.toList ++ [])) S hc2 cal_X10_set in_479 in_480 in_481 in_5 hK hN hF hG hd3 ho2 rfl rfl rfl hl.1 (cat_le v) ⟨show 40 + 3 * t + 0 + 0 ≤ 600000 by omega, show 40000 + 20 * t + 0 + 0 ≤ 7302250 by omega⟩ dL_law_196 (fun v2 w3 H locs hp2 hG9 hF9 hd9 => ?_)
            obtain ⟨hvv, hV, hJ2⟩ := hfin v2 w3 hp2
            subst hvv
            obtain ⟨x9, hx9⟩ := hV
            subst hx9
            have hd4 : ∀ a e, w2 a = some e → w3 a = none := fun a e ha => by
              cases hc : w3 a with
              | none => rfl
              | some e2 => rw [hd9 a e2 hc] at ha; cases ha
            refine W.eq (g2 := F0 m 199 ls [.int x9, .int x9]) rfl ?_
            refine lv_icmp_eq (tgt := 574) S.1 S.2.1 dL_law_199 (by decide) (fun c2 => ?_) (fun c2 => ?_)
            · refine W.widen (k := 40 + 3 * (t + 1)) (n := 40000 + 20 * (t + 1)) (by omega) (by omega) ?_
              exact NX w2 w3 H locs hJ2 hF9 hG9 hd4 ls (lv_sub hl [0, 1, 2, 3] rfl)
            · exact absurd rfl c2
          · refine lv_tableIn (tgt := 204) (off := 152) S.1 S.2.1 dL_law_52 (by decide) (by decide) (by decide) (by decide) ?_
            obtain ⟨post1, hc1, hnx⟩ := st_link (l := l) (dC := dC) (dI := dI) hJ (xs (2 + 4 * t + 1)) (xs (2 + 4 * t + 2)) (xs (2 + 4 * t + 3))
            refine lv_aload_n S.1 S.2.1 dL_law_204 rfl (lv_at hl 2 rfl) ?_
            refine lv_aload_n S.1 S.2.1 dL_law_205 rfl (lv_at hl 3 rfl) ?_
            refine lv_iload_n S.1 S.2.1 dL_law_206 rfl (lv_at hl 0 rfl) ?_
            refine lv_iconst (v := nI (1)) S.1 S.2.1 dL_law_207 (by decide) ?_
            refine lv_iadd S.1 S.2.1 dL_law_208 ?_
            refine lv_eqi (nI_add _ _) ?_
            refine va_sld S.1 S.2.1 hX hbl hbA hG.2.2.1 (i := nI ((2 + 4 * t) + 1)) (vp_in_nI (by omega) (by omega)) dL_law_209 ?_
            refine lv_eqi (y := xs ((2 + 4 * t) + 1)) (by rw [nI_clamp (by omega)]) ?_
            refine lv_aload_n S.1 S.2.1 dL_law_210 rfl (lv_at hl 3 rfl) ?_
            refine lv_iload_n S.1 S.2.1 dL_law_211 rfl (lv_at hl 0 rfl) ?_
            refine lv_iconst (v := nI (2)) S.1 S.2.1 dL_law_212 (by decide) ?_
            refine lv_iadd S.1 S.2.1 dL_law_213 ?_
            refine lv_eqi (nI_add _ _) ?_
            refine va_sld S.1 S.2.1 hX hbl hbA hG.2.2.1 (i := nI ((2 + 4 * t) + 2)) (vp_in_nI (by omega) (by omega)) dL_law_214 ?_
            refine lv_eqi (y := xs ((2 + 4 * t) + 2)) (by rw [nI_clamp (by omega)]) ?_
            refine lv_aload_n S.1 S.2.1 dL_law_215 rfl (lv_at hl 3 rfl) ?_
            refine lv_iload_n S.1 S.2.1 dL_law_216 rfl (lv_at hl 0 rfl) ?_
            refine lv_iconst (v := nI (3)) S.1 S.2.1 dL_law_217 (by decide) ?_
            refine lv_iadd S.1 S.2.1 dL_law_218 ?_
            refine lv_eqi (nI_add _ _) ?_
            refine va_sld S.1 S.2.1 hX hbl hbA hG.2.2.1 (i := nI ((2 + 4 * t) + 3)) (vp_in_nI (by omega) (by omega)) dL_law_219 ?_
            refine lv_eqi (y := xs ((2 + 4 * t) + 3)) (by rw [nI_clamp (by omega)]) ?_
            refine law_V (As := [.int (xs (2 + 4 * t + 1)), .int (xs (2 + 4 * t + 2)), .int (xs (2 + 4 * t + 3))]) (rest := []) S hc1 cal_X9_link in_487 in_488 in_489 in_2 hK hN hG hF hd ho1 rfl rfl rfl hl.1 (Nat.le_of_ble_eq_true rfl) ⟨show 40 + 3 * t + 0 ≤ 600000 by omega, show 40000 + 20 * t + 0 ≤ 7302250 by omega⟩ dL_law_220 (fun v w2 H locs hp hG hF hd => ?_)
            obtain ⟨post2, hc2, hfin⟩ := hnx v w2 hp
            have hd3 : ∀ a e, wR a = some e → w2 a = none := fun a e ha => by
              cases hc : w2 a with
              | none => rfl
              | some e2 => rw [hd a e2 hc] at ha; cases ha
            refine lv_aload_n S.1 S.2.1 dL_law_223 rfl (lv_at hl 1 rfl) ?_
            refine lv_aload_n S.1 S.2.1 dL_law_224 rfl (lv_at hl 3 rfl) ?_
            refine lv_iload_n S.1 S.2.1 dL_law_225 rfl (lv_at hl 0 rfl) ?_
            refine lv_iconst (v := nI (1)) S.1 S.2.1 dL_law_226 (by decide) ?_
            refine lv_iadd S.1 S.2.1 dL_law_227 ?_
            refine lv_eqi (nI_add _ _) ?_
            refine va_sld S.1 S.2.1 hX hbl hbA hG.2.2.1 (i := nI ((2 + 4 * t) + 1)) (vp_in_nI (by omega) (by omega)) dL_law_228 ?_
            refine lv_eqi (y := xs ((2 + 4 * t) + 1)) (by rw [nI_clamp (by omega)]) ?_
            refine lv_aload_n S.1 S.2.1 dL_law_229 rfl (lv_at hl 3 rfl) ?_
            refine lv_iload_n S.1 S.2.1 dL_law_230 rfl (lv_at hl 0 rfl) ?_
            refine lv_iconst (v := nI (2)) S.1 S.2.1 dL_law_231 (by decide) ?_
            refine lv_iadd S.1 S.2.1 dL_law_232 ?_
            refine lv_eqi (nI_add _ _) ?_
            refine va_sld S.1 S.2.1 hX hbl hbA hG.2.2.1 (i := nI ((2 + 4 * t) + 2)) (vp_in_nI (by omega) (by omega)) dL_law_233 ?_
            refine lv_eqi (y := xs ((2 + 4 * t) + 2)) (by rw [nI_clamp (by omega)]) ?_
            refine lv_aload_n S.1 S.2.1 dL_law_234 rfl (lv_at hl 3 rfl) ?_
            refine lv_iload_n S.1 S.2.1 dL_law_235 rfl (lv_at hl 0 rfl) ?_
            refine lv_iconst (v := nI (3)) S.1 S.2.1 dL_law_236 (by decide) ?_
            refine lv_iadd S.1 S.2.1 dL_law_237 ?_
            refine lv_eqi (nI_add _ _) ?_
            refine va_sld S.1 S.2.1 hX hbl hbA hG.2.2.1 (i := nI ((2 + 4 * t) + 3)) (vp_in_nI (by omega) (by omega)) dL_law_238 ?_
            refine lv_eqi (y := xs ((2 + 4 * t) + 3)) (by rw [nI_clamp (by omega)]) ?_
            refine law_V (As := [.int (xs (2 + 4 * t + 1)), .int (xs (2 + 4 * t + 2)), .int (xs (2 + 4 * t + 3))]) (rest := (v.toList ++ [])) S hc2 cal_X10_link in_502 in_503 in_504 in_5 hK hN hF hG hd3 ho2 rfl rfl rfl hl.1 (cat_le v) ⟨show 40 + 3 * t + 0 + 0 ≤ 600000 by omega, show 40000 + 20 * t + 0 + 0 ≤ 7302250 by omega⟩ dL_law_239 (fun v2 w3 H locs hp2 hG9 hF9 hd9 => ?_)
            obtain ⟨hvv, hV, hJ2⟩ := hfin v2 w3 hp2
            subst hvv
            obtain ⟨x9, hx9⟩ := hV
            subst hx9
            have hd4 : ∀ a e, w2 a = some e → w3 a = none := fun a e ha => by
              cases hc : w3 a with
              | none => rfl
              | some e2 => rw [hd9 a e2 hc] at ha; cases ha
            refine W.eq (g2 := F0 m 242 ls [.int x9, .int x9]) rfl ?_
            refine lv_icmp_eq (tgt := 574) S.1 S.2.1 dL_law_242 (by decide) (fun c2 => ?_) (fun c2 => ?_)
            · refine W.widen (k := 40 + 3 * (t + 1)) (n := 40000 + 20 * (t + 1)) (by omega) (by omega) ?_
              exact NX w2 w3 H locs hJ2 hF9 hG9 hd4 ls (lv_sub hl [0, 1, 2, 3] rfl)
            · exact absurd rfl c2
          · refine lv_tableIn (tgt := 247) (off := 195) S.1 S.2.1 dL_law_52 (by decide) (by decide) (by decide) (by decide) ?_
            obtain ⟨post1, hc1, hnx⟩ := st_refers (l := l) (dC := dC) (dI := dI) hJ (xs (2 + 4 * t + 1)) (xs (2 + 4 * t + 2))
            refine lv_aload_n S.1 S.2.1 dL_law_247 rfl (lv_at hl 2 rfl) ?_
            refine lv_aload_n S.1 S.2.1 dL_law_248 rfl (lv_at hl 3 rfl) ?_
            refine lv_iload_n S.1 S.2.1 dL_law_249 rfl (lv_at hl 0 rfl) ?_
            refine lv_iconst (v := nI (1)) S.1 S.2.1 dL_law_250 (by decide) ?_
            refine lv_iadd S.1 S.2.1 dL_law_251 ?_
            refine lv_eqi (nI_add _ _) ?_
            refine va_sld S.1 S.2.1 hX hbl hbA hG.2.2.1 (i := nI ((2 + 4 * t) + 1)) (vp_in_nI (by omega) (by omega)) dL_law_252 ?_
            refine lv_eqi (y := xs ((2 + 4 * t) + 1)) (by rw [nI_clamp (by omega)]) ?_
            refine lv_aload_n S.1 S.2.1 dL_law_253 rfl (lv_at hl 3 rfl) ?_
            refine lv_iload_n S.1 S.2.1 dL_law_254 rfl (lv_at hl 0 rfl) ?_
            refine lv_iconst (v := nI (2)) S.1 S.2.1 dL_law_255 (by decide) ?_
            refine lv_iadd S.1 S.2.1 dL_law_256 ?_
            refine lv_eqi (nI_add _ _) ?_
            refine va_sld S.1 S.2.1 hX hbl hbA hG.2.2.1 (i := nI ((2 + 4 * t) + 2)) (vp_in_nI (by omega) (by omega)) dL_law_257 ?_
            refine lv_eqi (y := xs ((2 + 4 * t) + 2)) (by rw [nI_clamp (by omega)]) ?_
            refine law_V (As := [.int (xs (2 + 4 * t + 1)), .int (xs (2 + 4 * t + 2))]) (rest := []) S hc1 cal_X9_refers in_506 in_507 in_508 in_2 hK hN hG hF hd ho1 rfl rfl rfl hl.1 (Nat.le_of_ble_eq_true rfl) ⟨show 40 + 3 * t + 0 ≤ 600000 by omega, show 40000 + 20 * t + 0 ≤ 7302250 by omega⟩ dL_law_258 (fun v w2 H locs hp hG hF hd => ?_)
            obtain ⟨post2, hc2, hfin⟩ := hnx v w2 hp
            have hd3 : ∀ a e, wR a = some e → w2 a = none := fun a e ha => by
              cases hc : w2 a with
              | none => rfl
              | some e2 => rw [hd a e2 hc] at ha; cases ha
            refine lv_aload_n S.1 S.2.1 dL_law_261 rfl (lv_at hl 1 rfl) ?_
            refine lv_aload_n S.1 S.2.1 dL_law_262 rfl (lv_at hl 3 rfl) ?_
            refine lv_iload_n S.1 S.2.1 dL_law_263 rfl (lv_at hl 0 rfl) ?_
            refine lv_iconst (v := nI (1)) S.1 S.2.1 dL_law_264 (by decide) ?_
            refine lv_iadd S.1 S.2.1 dL_law_265 ?_
            refine lv_eqi (nI_add _ _) ?_
            refine va_sld S.1 S.2.1 hX hbl hbA hG.2.2.1 (i := nI ((2 + 4 * t) + 1)) (vp_in_nI (by omega) (by omega)) dL_law_266 ?_
            refine lv_eqi (y := xs ((2 + 4 * t) + 1)) (by rw [nI_clamp (by omega)]) ?_
            refine lv_aload_n S.1 S.2.1 dL_law_267 rfl (lv_at hl 3 rfl) ?_
            refine lv_iload_n S.1 S.2.1 dL_law_268 rfl (lv_at hl 0 rfl) ?_
            refine lv_iconst (v := nI (2)) S.1 S.2.1 dL_law_269 (by decide) ?_
            refine lv_iadd S.1 S.2.1 dL_law_270 ?_
            refine lv_eqi (nI_add _ _) ?_
            refine va_sld S.1 S.2.1 hX hbl hbA hG.2.2.1 (i := nI ((2 + 4 * t) + 2)) (vp_in_nI (by omega) (by omega)) dL_law_271 ?_
            refine lv_eqi (y := xs ((2 + 4 * t) + 2)) (by rw [nI_clamp (by omega)]) ?_
            refine law_V (As := [.int (xs (2 + 4 * t + 1)), .int (xs (2 + 4 * t + 2))]) (rest := (v.toList ++ [])) S hc2 cal_X10_refers in_514 in_515 in_516 in_5 hK hN hF hG hd3 ho2 rfl rfl rfl hl.1 (cat_le v) ⟨show 40 + 3 * t + 0 + 0 ≤ 600000 by omega, show 40000 + 20 * t + 0 + 0 ≤ 7302250 by omega⟩ dL_law_272 (fun v2 w3 H locs hp2 hG9 hF9 hd9 => ?_)
            obtain ⟨hvv, hV, hJ2⟩ := hfin v2 w3 hp2
            subst hvv
            obtain ⟨x9, hx9⟩ := hV
            subst hx9
            have hd4 : ∀ a e, w2 a = some e → w3 a = none := fun a e ha => by
              cases hc : w3 a with
              | none => rfl
              | some e2 => rw [hd9 a e2 hc] at ha; cases ha
            refine W.eq (g2 := F0 m 275 ls [.int x9, .int x9]) rfl ?_
            refine lv_icmp_eq (tgt := 574) S.1 S.2.1 dL_law_275 (by decide) (fun c2 => ?_) (fun c2 => ?_)
            · refine W.widen (k := 40 + 3 * (t + 1)) (n := 40000 + 20 * (t + 1)) (by omega) (by omega) ?_
              exact NX w2 w3 H locs hJ2 hF9 hG9 hd4 ls (lv_sub hl [0, 1, 2, 3] rfl)
            · exact absurd rfl c2
          · refine lv_tableIn (tgt := 280) (off := 228) S.1 S.2.1 dL_law_52 (by decide) (by decide) (by decide) (by decide) ?_
            obtain ⟨post1, hc1, hnx⟩ := st_number (l := l) (dC := dC) (dI := dI) hJ (xs (2 + 4 * t + 1)) (xs (2 + 4 * t + 2))
            refine lv_aload_n S.1 S.2.1 dL_law_280 rfl (lv_at hl 2 rfl) ?_
            refine lv_aload_n S.1 S.2.1 dL_law_281 rfl (lv_at hl 3 rfl) ?_
            refine lv_iload_n S.1 S.2.1 dL_law_282 rfl (lv_at hl 0 rfl) ?_
            refine lv_iconst (v := nI (1)) S.1 S.2.1 dL_law_283 (by decide) ?_
            refine lv_iadd S.1 S.2.1 dL_law_284 ?_
            refine lv_eqi (nI_add _ _) ?_
            refine va_sld S.1 S.2.1 hX hbl hbA hG.2.2.1 (i := nI ((2 + 4 * t) + 1)) (vp_in_nI (by omega) (by omega)) dL_law_285 ?_
            refine lv_eqi (y := xs ((2 + 4 * t) + 1)) (by rw [nI_clamp (by omega)]) ?_
            refine lv_aload_n S.1 S.2.1 dL_law_286 rfl (lv_at hl 3 rfl) ?_
            refine lv_iload_n S.1 S.2.1 dL_law_287 rfl (lv_at hl 0 rfl) ?_
            refine lv_iconst (v := nI (2)) S.1 S.2.1 dL_law_288 (by decide) ?_
            refine lv_iadd S.1 S.2.1 dL_law_289 ?_
            refine lv_eqi (nI_add _ _) ?_
            refine va_sld S.1 S.2.1 hX hbl hbA hG.2.2.1 (i := nI ((2 + 4 * t) + 2)) (vp_in_nI (by omega) (by omega)) dL_law_290 ?_
            refine lv_eqi (y := xs ((2 + 4 * t) + 2)) (by rw [nI_clamp (by omega)]) ?_
            refine law_V (As := [.int (xs (2 + 4 * t + 1)), .int (xs (2 + 4 * t + 2))]) (rest := []) S hc1 cal_X9_number in_518 in_519 in_520 in_2 hK hN hG hF hd ho1 rfl rfl rfl hl.1 (Nat.le_of_ble_eq_true rfl) ⟨show 40 + 3 * t + 0 ≤ 600000 by omega, show 40000 + 20 * t + 0 ≤ 7302250 by omega⟩ dL_law_291 (fun v w2 H locs hp hG hF hd => ?_)
            obtain ⟨post2, hc2, hfin⟩ := hnx v w2 hp
            have hd3 : ∀ a e, wR a = some e → w2 a = none := fun a e ha => by
              cases hc : w2 a with
              | none => rfl
              | some e2 => rw [hd a e2 hc] at ha; cases ha
            refine lv_aload_n S.1 S.2.1 dL_law_294 rfl (lv_at hl 1 rfl) ?_
            refine lv_aload_n S.1 S.2.1 dL_law_295 rfl (lv_at hl 3 rfl) ?_
            refine lv_iload_n S.1 S.2.1 dL_law_296 rfl (lv_at hl 0 rfl) ?_
            refine lv_iconst (v := nI (1)) S.1 S.2.1 dL_law_297 (by decide) ?_
            refine lv_iadd S.1 S.2.1 dL_law_298 ?_
            refine lv_eqi (nI_add _ _) ?_
            refine va_sld S.1 S.2.1 hX hbl hbA hG.2.2.1 (i := nI ((2 + 4 * t) + 1)) (vp_in_nI (by omega) (by omega)) dL_law_299 ?_
            refine lv_eqi (y := xs ((2 + 4 * t) + 1)) (by rw [nI_clamp (by omega)]) ?_
            refine lv_aload_n S.1 S.2.1 dL_law_300 rfl (lv_at hl 3 rfl) ?_
            refine lv_iload_n S.1 S.2.1 dL_law_301 rfl (lv_at hl 0 rfl) ?_
            refine lv_iconst (v := nI (2)) S.1 S.2.1 dL_law_302 (by decide) ?_
            refine lv_iadd S.1 S.2.1 dL_law_303 ?_
            refine lv_eqi (nI_add _ _) ?_
            refine va_sld S.1 S.2.1 hX hbl hbA hG.2.2.1 (i := nI ((2 + 4 * t) + 2)) (vp_in_nI (by omega) (by omega)) dL_law_304 ?_
            refine lv_eqi (y := xs ((2 + 4 * t) + 2)) (by rw [nI_clamp (by omega)]) ?_
            refine law_V (As := [.int (xs (2 + 4 * t + 1)), .int (xs (2 + 4 * t + 2))]) (rest := (v.toList ++ [])) S hc2 cal_X10_number in_526 in_527 in_528 in_5 hK hN hF hG hd3 ho2 rfl rfl rfl hl.1 (cat_le v) ⟨show 40 + 3 * t + 0 + 0 ≤ 600000 by omega, show 40000 + 20 * t + 0 + 0 ≤ 7302250 by omega⟩ dL_law_305 (fun v2 w3 H locs hp2 hG9 hF9 hd9 => ?_)
            obtain ⟨hvv, hV, hJ2⟩ := hfin v2 w3 hp2
            subst hvv
            obtain ⟨x9, hx9⟩ := hV
            subst hx9
            have hd4 : ∀ a e, w2 a = some e → w3 a = none := fun a e ha => by
              cases hc : w3 a with
              | none => rfl
              | some e2 => rw [hd9 a e2 hc] at ha; cases ha
            refine W.eq (g2 := F0 m 308 ls [.int x9, .int x9]) rfl ?_
            refine lv_icmp_eq (tgt := 574) S.1 S.2.1 dL_law_308 (by decide) (fun c2 => ?_) (fun c2 => ?_)
            · refine W.widen (k := 40 + 3 * (t + 1)) (n := 40000 + 20 * (t + 1)) (by omega) (by omega) ?_
              exact NX w2 w3 H locs hJ2 hF9 hG9 hd4 ls (lv_sub hl [0, 1, 2, 3] rfl)
            · exact absurd rfl c2
          · refine lv_tableIn (tgt := 313) (off := 261) S.1 S.2.1 dL_law_52 (by decide) (by decide) (by decide) (by decide) ?_
            obtain ⟨post1, hc1, hnx⟩ := st_load (l := l) (dC := dC) (dI := dI) hJ (xs (2 + 4 * t + 1)) (xs (2 + 4 * t + 2)) (xs (2 + 4 * t + 3))
            refine lv_aload_n S.1 S.2.1 dL_law_313 rfl (lv_at hl 2 rfl) ?_
            refine lv_aload_n S.1 S.2.1 dL_law_314 rfl (lv_at hl 3 rfl) ?_
            refine lv_iload_n S.1 S.2.1 dL_law_315 rfl (lv_at hl 0 rfl) ?_
            refine lv_iconst (v := nI (1)) S.1 S.2.1 dL_law_316 (by decide) ?_
            refine lv_iadd S.1 S.2.1 dL_law_317 ?_
            refine lv_eqi (nI_add _ _) ?_
            refine va_sld S.1 S.2.1 hX hbl hbA hG.2.2.1 (i := nI ((2 + 4 * t) + 1)) (vp_in_nI (by omega) (by omega)) dL_law_318 ?_
            refine lv_eqi (y := xs ((2 + 4 * t) + 1)) (by rw [nI_clamp (by omega)]) ?_
            refine lv_aload_n S.1 S.2.1 dL_law_319 rfl (lv_at hl 3 rfl) ?_
            refine lv_iload_n S.1 S.2.1 dL_law_320 rfl (lv_at hl 0 rfl) ?_
            refine lv_iconst (v := nI (2)) S.1 S.2.1 dL_law_321 (by decide) ?_
            refine lv_iadd S.1 S.2.1 dL_law_322 ?_
            refine lv_eqi (nI_add _ _) ?_
            refine va_sld S.1 S.2.1 hX hbl hbA hG.2.2.1 (i := nI ((2 + 4 * t) + 2)) (vp_in_nI (by omega) (by omega)) dL_law_323 ?_
            refine lv_eqi (y := xs ((2 + 4 * t) + 2)) (by rw [nI_clamp (by omega)]) ?_
            refine lv_aload_n S.1 S.2.1 dL_law_324 rfl (lv_at hl 3 rfl) ?_
            refine lv_iload_n S.1 S.2.1 dL_law_325 rfl (lv_at hl 0 rfl) ?_
            refine lv_iconst (v := nI (3)) S.1 S.2.1 dL_law_326 (by decide) ?_
            refine lv_iadd S.1 S.2.1 dL_law_327 ?_
            refine lv_eqi (nI_add _ _) ?_
            refine va_sld S.1 S.2.1 hX hbl hbA hG.2.2.1 (i := nI ((2 + 4 * t) + 3)) (vp_in_nI (by omega) (by omega)) dL_law_328 ?_
            refine lv_eqi (y := xs ((2 + 4 * t) + 3)) (by rw [nI_clamp (by omega)]) ?_
            refine law_V (As := [.int (xs (2 + 4 * t + 1)), .int (xs (2 + 4 * t + 2)), .int (xs (2 + 4 * t + 3))]) (rest := []) S hc1 cal_X9_load in_530 in_531 in_532 in_2 hK hN hG hF hd ho1 rfl rfl rfl hl.1 (Nat.le_of_ble_eq_true rfl) ⟨show 40 + 3 * t + 0 ≤ 600000 by omega, show 40000 + 20 * t + 0 ≤ 7302250 by omega⟩ dL_law_329 (fun v w2 H locs hp hG hF hd => ?_)
            obtain ⟨post2, hc2, hfin⟩ := hnx v w2 hp
            have hd3 : ∀ a e, wR a = some e → w2 a = none := fun a e ha => by
              cases hc : w2 a with
              | none => rfl
              | some e2 => rw [hd a e2 hc] at ha; cases ha
            refine lv_aload_n S.1 S.2.1 dL_law_332 rfl (lv_at hl 1 rfl) ?_
            refine lv_aload_n S.1 S.2.1 dL_law_333 rfl (lv_at hl 3 rfl) ?_
            refine lv_iload_n S.1 S.2.1 dL_law_334 rfl (lv_at hl 0 rfl) ?_
            refine lv_iconst (v := nI (1)) S.1 S.2.1 dL_law_335 (by decide) ?_
            refine lv_iadd S.1 S.2.1 dL_law_336 ?_
            refine lv_eqi (nI_add _ _) ?_
            refine va_sld S.1 S.2.1 hX hbl hbA hG.2.2.1 (i := nI ((2 + 4 * t) + 1)) (vp_in_nI (by omega) (by omega)) dL_law_337 ?_
            refine lv_eqi (y := xs ((2 + 4 * t) + 1)) (by rw [nI_clamp (by omega)]) ?_
            refine lv_aload_n S.1 S.2.1 dL_law_338 rfl (lv_at hl 3 rfl) ?_
            refine lv_iload_n S.1 S.2.1 dL_law_339 rfl (lv_at hl 0 rfl) ?_
            refine lv_iconst (v := nI (2)) S.1 S.2.1 dL_law_340 (by decide) ?_
            refine lv_iadd S.1 S.2.1 dL_law_341 ?_
            refine lv_eqi (nI_add _ _) ?_
            refine va_sld S.1 S.2.1 hX hbl hbA hG.2.2.1 (i := nI ((2 + 4 * t) + 2)) (vp_in_nI (by omega) (by omega)) dL_law_342 ?_
            refine lv_eqi (y := xs ((2 + 4 * t) + 2)) (by rw [nI_clamp (by omega)]) ?_
            refine lv_aload_n S.1 S.2.1 dL_law_343 rfl (lv_at hl 3 rfl) ?_
            refine lv_iload_n S.1 S.2.1 dL_law_344 rfl (lv_at hl 0 rfl) ?_
            refine lv_iconst (v := nI (3)) S.1 S.2.1 dL_law_345 (by decide) ?_
            refine lv_iadd S.1 S.2.1 dL_law_346 ?_
            refine lv_eqi (nI_add _ _) ?_
            refine va_sld S.1 S.2.1 hX hbl hbA hG.2.2.1 (i := nI ((2 + 4 * t) + 3)) (vp_in_nI (by omega) (by omega)) dL_law_347 ?_
            refine lv_eqi (y := xs ((2 + 4 * t) + 3)) (by rw [nI_clamp (by omega)]) ?_
            refine law_V (As := [.int (xs (2 + 4 * t + 1)), .int (xs (2 + 4 * t + 2)), .int (xs (2 + 4 * t + 3))]) (rest := (v.toList ++ [])) S hc2 cal_X10_load in_534 in_535 in_536 in_5 hK hN hF hG hd3 ho2 rfl rfl rfl hl.1 (cat_le v) ⟨show 40 + 3 * t + 0 + 0 ≤ 600000 by omega, show 40000 + 20 * t + 0 + 0 ≤ 7302250 by omega⟩ dL_law_348 (fun v2 w3 H locs hp2 hG9 hF9 hd9 => ?_)
            obtain ⟨hvv, hV, hJ2⟩ := hfin v2 w3 hp2
            subst hvv
            obtain ⟨x9, hx9⟩ := hV
            subst hx9
            have hd4 : ∀ a e, w2 a = some e → w3 a = none := fun a e ha => by
              cases hc : w3 a with
              | none => rfl
              | some e2 => rw [hd9 a e2 hc] at ha; cases ha
            refine W.eq (g2 := F0 m 351 ls [.int x9, .int x9]) rfl ?_
            refine lv_icmp_eq (tgt := 574) S.1 S.2.1 dL_law_351 (by decide) (fun c2 => ?_) (fun c2 => ?_)
            · refine W.widen (k := 40 + 3 * (t + 1)) (n := 40000 + 20 * (t + 1)) (by omega) (by omega) ?_
              exact NX w2 w3 H locs hJ2 hF9 hG9 hd4 ls (lv_sub hl [0, 1, 2, 3] rfl)
            · exact absurd rfl c2
          · refine lv_tableIn (tgt := 356) (off := 304) S.1 S.2.1 dL_law_52 (by decide) (by decide) (by decide) (by decide) ?_
            obtain ⟨post1, hc1, hnx⟩ := st_copy (l := l) (dC := dC) (dI := dI) hJ (xs (2 + 4 * t + 1)) (xs (2 + 4 * t + 2))
            refine lv_aload_n S.1 S.2.1 dL_law_356 rfl (lv_at hl 2 rfl) ?_
            refine lv_aload_n S.1 S.2.1 dL_law_357 rfl (lv_at hl 3 rfl) ?_
            refine lv_iload_n S.1 S.2.1 dL_law_358 rfl (lv_at hl 0 rfl) ?_
            refine lv_iconst (v := nI (1)) S.1 S.2.1 dL_law_359 (by decide) ?_
            refine lv_iadd S.1 S.2.1 dL_law_360 ?_
            refine lv_eqi (nI_add _ _) ?_
            refine va_sld S.1 S.2.1 hX hbl hbA hG.2.2.1 (i := nI ((2 + 4 * t) + 1)) (vp_in_nI (by omega) (by omega)) dL_law_361 ?_
            refine lv_eqi (y := xs ((2 + 4 * t) + 1)) (by rw [nI_clamp (by omega)]) ?_
            refine lv_aload_n S.1 S.2.1 dL_law_362 rfl (lv_at hl 3 rfl) ?_
            refine lv_iload_n S.1 S.2.1 dL_law_363 rfl (lv_at hl 0 rfl) ?_
            refine lv_iconst (v := nI (2)) S.1 S.2.1 dL_law_364 (by decide) ?_
            refine lv_iadd S.1 S.2.1 dL_law_365 ?_
            refine lv_eqi (nI_add _ _) ?_
            refine va_sld S.1 S.2.1 hX hbl hbA hG.2.2.1 (i := nI ((2 + 4 * t) + 2)) (vp_in_nI (by omega) (by omega)) dL_law_366 ?_
            refine lv_eqi (y := xs ((2 + 4 * t) + 2)) (by rw [nI_clamp (by omega)]) ?_
            refine law_V (As := [.int (xs (2 + 4 * t + 1)), .int (xs (2 + 4 * t + 2))]) (rest := []) S hc1 cal_X9_copy in_538 in_539 in_540 in_2 hK hN hG hF hd ho1 rfl rfl rfl hl.1 (Nat.le_of_ble_eq_true rfl) ⟨show 40 + 3 * t + 0 ≤ 600000 by omega, show 40000 + 20 * t + 0 ≤ 7302250 by omega⟩ dL_law_367 (fun v w2 H locs hp hG hF hd => ?_)
            obtain ⟨post2, hc2, hfin⟩ := hnx v w2 hp
            have hd3 : ∀ a e, wR a = some e → w2 a = none := fun a e ha => by
              cases hc : w2 a with
              | none => rfl
              | some e2 => rw [hd a e2 hc] at ha; cases ha
            refine lv_aload_n S.1 S.2.1 dL_law_370 rfl (lv_at hl 1 rfl) ?_
            refine lv_aload_n S.1 S.2.1 dL_law_371 rfl (lv_at hl 3 rfl) ?_
            refine lv_iload_n S.1 S.2.1 dL_law_372 rfl (lv_at hl 0 rfl) ?_
            refine lv_iconst (v := nI (1)) S.1 S.2.1 dL_law_373 (by decide) ?_
            refine lv_iadd S.1 S.2.1 dL_law_374 ?_
            refine lv_eqi (nI_add _ _) ?_
            refine va_sld S.1 S.2.1 hX hbl hbA hG.2.2.1 (i := nI ((2 + 4 * t) + 1)) (vp_in_nI (by omega) (by omega)) dL_law_375 ?_
            refine lv_eqi (y := xs ((2 + 4 * t) + 1)) (by rw [nI_clamp (by omega)]) ?_
            refine lv_aload_n S.1 S.2.1 dL_law_376 rfl (lv_at hl 3 rfl) ?_
            refine lv_iload_n S.1 S.2.1 dL_law_377 rfl (lv_at hl 0 rfl) ?_
            refine lv_iconst (v := nI (2)) S.1 S.2.1 dL_law_378 (by decide) ?_
            refine lv_iadd S.1 S.2.1 dL_law_379 ?_
            refine lv_eqi (nI_add _ _) ?_
            refine va_sld S.1 S.2.1 hX hbl hbA hG.2.2.1 (i := nI ((2 + 4 * t) + 2)) (vp_in_nI (by omega) (by omega)) dL_law_380 ?_
            refine lv_eqi (y := xs ((2 + 4 * t) + 2)) (by rw [nI_clamp (by omega)]) ?_
            refine law_V (As := [.int (xs (2 + 4 * t + 1)), .int (xs (2 + 4 * t + 2))]) (rest := (v.toList ++ [])) S hc2 cal_X10_copy in_545 in_546 in_547 in_5 hK hN hF hG hd3 ho2 rfl rfl rfl hl.1 (cat_le v) ⟨show 40 + 3 * t + 0 + 0 ≤ 600000 by omega, show 40000 + 20 * t + 0 + 0 ≤ 7302250 by omega⟩ dL_law_381 (fun v2 w3 H locs hp2 hG9 hF9 hd9 => ?_)
            obtain ⟨hvv, hV, hJ2⟩ := hfin v2 w3 hp2
            subst hvv
            obtain ⟨x9, hx9⟩ := hV
            subst hx9
            have hd4 : ∀ a e, w2 a = some e → w3 a = none := fun a e ha => by
              cases hc : w3 a with
              | none => rfl
              | some e2 => rw [hd9 a e2 hc] at ha; cases ha
            refine W.eq (g2 := F0 m 384 ls [.int x9, .int x9]) rfl ?_
            refine lv_icmp_eq (tgt := 574) S.1 S.2.1 dL_law_384 (by decide) (fun c2 => ?_) (fun c2 => ?_)
            · refine W.widen (k := 40 + 3 * (t + 1)) (n := 40000 + 20 * (t + 1)) (by omega) (by omega) ?_
              exact NX w2 w3 H locs hJ2 hF9 hG9 hd4 ls (lv_sub hl [0, 1, 2, 3] rfl)
            · exact absurd rfl c2
          · refine lv_tableIn (tgt := 389) (off := 337) S.1 S.2.1 dL_law_52 (by decide) (by decide) (by decide) (by decide) ?_
            obtain ⟨post1, hc1, hnx⟩ := st_drop (l := l) (dC := dC) (dI := dI) hJ (xs (2 + 4 * t + 1))
            refine lv_aload_n S.1 S.2.1 dL_law_389 rfl (lv_at hl 2 rfl) ?_
            refine lv_aload_n S.1 S.2.1 dL_law_390 rfl (lv_at hl 3 rfl) ?_
            refine lv_iload_n S.1 S.2.1 dL_law_391 rfl (lv_at hl 0 rfl) ?_
            refine lv_iconst (v := nI (1)) S.1 S.2.1 dL_law_392 (by decide) ?_
            refine lv_iadd S.1 S.2.1 dL_law_393 ?_
            refine lv_eqi (nI_add _ _) ?_
            refine va_sld S.1 S.2.1 hX hbl hbA hG.2.2.1 (i := nI ((2 + 4 * t) + 1)) (vp_in_nI (by omega) (by omega)) dL_law_394 ?_
            refine lv_eqi (y := xs ((2 + 4 * t) + 1)) (by rw [nI_clamp (by omega)]) ?_
            refine law_V (As := [.int (xs (2 + 4 * t + 1))]) (rest := []) S hc1 cal_X9_drop in_549 in_550 in_551 in_2 hK hN hG hF hd ho1 rfl rfl rfl hl.1 (Nat.le_of_ble_eq_true rfl) ⟨show 40 + 3 * t + 0 ≤ 600000 by omega, show 40000 + 20 * t + 0 ≤ 7302250 by omega⟩ dL_law_395 (fun v w2 H locs hp hG hF hd => ?_)
            obtain ⟨post2, hc2, hfin⟩ := hnx v w2 hp
            have hd3 : ∀ a e, wR a = some e → w2 a = none := fun a e ha => by
              cases hc : w2 a with
              | none => rfl
              | some e2 => rw [hd a e2 hc] at ha; cases ha
            refine lv_aload_n S.1 S.2.1 dL_law_398 rfl (lv_at hl 1 rfl) ?_
            refine lv_aload_n S.1 S.2.1 dL_law_399 rfl (lv_at hl 3 rfl) ?_
            refine lv_iload_n S.1 S.2.1 dL_law_400 rfl (lv_at hl 0 rfl) ?_
            refine lv_iconst (v := nI (1)) S.1 S.2.1 dL_law_401 (by decide) ?_
            refine lv_iadd S.1 S.2.1 dL_law_402 ?_
            refine lv_eqi (nI_add _ _) ?_
            refine va_sld S.1 S.2.1 hX hbl hbA hG.2.2.1 (i := nI ((2 + 4 * t) + 1)) (vp_in_nI (by omega) (by omega)) dL_law_403 ?_
            refine lv_eqi (y := xs ((2 + 4 * t) + 1)) (by rw [nI_clamp (by omega)]) ?_
            refine law_V (As := [.int (xs (2 + 4 * t + 1))]) (rest := (v.toList ++ [])) S hc2 cal_X10_drop in_553 in_554 in_555 in_5 hK hN hF hG hd3 ho2 rfl rfl rfl hl.1 (cat_le v) ⟨show 40 + 3 * t + 0 + 0 ≤ 600000 by omega, show 40000 + 20 * t + 0 + 0 ≤ 7302250 by omega⟩ dL_law_404 (fun v2 w3 H locs hp2 hG9 hF9 hd9 => ?_)
            obtain ⟨hvv, hV, hJ2⟩ := hfin v2 w3 hp2
            subst hvv
            obtain ⟨x9, hx9⟩ := hV
            subst hx9
            have hd4 : ∀ a e, w2 a = some e → w3 a = none := fun a e ha => by
              cases hc : w3 a with
              | none => rfl
              | some e2 => rw [hd9 a e2 hc] at ha; cases ha
            refine W.eq (g2 := F0 m 407 ls [.int x9, .int x9]) rfl ?_
            refine lv_icmp_eq (tgt := 574) S.1 S.2.1 dL_law_407 (by decide) (fun c2 => ?_) (fun c2 => ?_)
            · refine W.widen (k := 40 + 3 * (t + 1)) (n := 40000 + 20 * (t + 1)) (by omega) (by omega) ?_
              exact NX w2 w3 H locs hJ2 hF9 hG9 hd4 ls (lv_sub hl [0, 1, 2, 3] rfl)
            · exact absurd rfl c2
          · refine lv_tableIn (tgt := 412) (off := 360) S.1 S.2.1 dL_law_52 (by decide) (by decide) (by decide) (by decide) ?_
            obtain ⟨post1, hc1, hnx⟩ := st_collect (l := l) (dC := dC) (dI := dI) hJ hT 
            refine lv_aload_n S.1 S.2.1 dL_law_412 rfl (lv_at hl 2 rfl) ?_
            refine law_V (As := []) (rest := []) S hc1 cal_X9_collect in_557 in_558 in_559 in_2 hK hN hG hF hd ho1 rfl rfl rfl hl.1 (Nat.le_of_ble_eq_true rfl) ⟨show 40 + 3 * t + 0 ≤ 600000 by omega, show 40000 + 20 * t + 0 ≤ 7302250 by omega⟩ dL_law_413 (fun v w2 H locs hp hG hF hd => ?_)
            obtain ⟨post2, hc2, hfin⟩ := hnx v w2 hp
            have hd3 : ∀ a e, wR a = some e → w2 a = none := fun a e ha => by
              cases hc : w2 a with
              | none => rfl
              | some e2 => rw [hd a e2 hc] at ha; cases ha
            refine lv_aload_n S.1 S.2.1 dL_law_416 rfl (lv_at hl 1 rfl) ?_
            refine law_V (As := []) (rest := (v.toList ++ [])) S hc2 cal_X10_collect in_566 in_567 in_568 in_5 hK hN hF hG hd3 ho2 rfl rfl rfl hl.1 (cat_le v) ⟨show 40 + 3 * t + 0 + 0 ≤ 600000 by omega, show 40000 + 20 * t + 0 + 0 ≤ 7302250 by omega⟩ dL_law_417 (fun v2 w3 H locs hp2 hG9 hF9 hd9 => ?_)
            obtain ⟨hvv, hV, hJ2⟩ := hfin v2 w3 hp2
            subst hvv
            obtain ⟨x9, hx9⟩ := hV
            subst hx9
            have hd4 : ∀ a e, w2 a = some e → w3 a = none := fun a e ha => by
              cases hc : w3 a with
              | none => rfl
              | some e2 => rw [hd9 a e2 hc] at ha; cases ha
            refine W.eq (g2 := F0 m 420 ls [.int x9, .int x9]) rfl ?_
            refine lv_icmp_eq (tgt := 574) S.1 S.2.1 dL_law_420 (by decide) (fun c2 => ?_) (fun c2 => ?_)
            · refine W.widen (k := 40 + 3 * (t + 1)) (n := 40000 + 20 * (t + 1)) (by omega) (by omega) ?_
              exact NX w2 w3 H locs hJ2 hF9 hG9 hd4 ls (lv_sub hl [0, 1, 2, 3] rfl)
            · exact absurd rfl c2
          · refine lv_tableIn (tgt := 425) (off := 373) S.1 S.2.1 dL_law_52 (by decide) (by decide) (by decide) (by decide) ?_
            obtain ⟨post1, hc1, hnx⟩ := st_minor (l := l) (dC := dC) (dI := dI) hJ hT 
            refine lv_aload_n S.1 S.2.1 dL_law_425 rfl (lv_at hl 2 rfl) ?_
            refine law_V (As := []) (rest := []) S hc1 cal_X9_minor in_570 in_571 in_572 in_2 hK hN hG hF hd ho1 rfl rfl rfl hl.1 (Nat.le_of_ble_eq_true rfl) ⟨show 40 + 3 * t + 0 ≤ 600000 by omega, show 40000 + 20 * t + 0 ≤ 7302250 by omega⟩ dL_law_426 (fun v w2 H locs hp hG hF hd => ?_)
            obtain ⟨post2, hc2, hfin⟩ := hnx v w2 hp
            have hd3 : ∀ a e, wR a = some e → w2 a = none := fun a e ha => by
              cases hc : w2 a with
              | none => rfl
              | some e2 => rw [hd a e2 hc] at ha; cases ha
            refine lv_aload_n S.1 S.2.1 dL_law_429 rfl (lv_at hl 1 rfl) ?_
            refine law_V (As := []) (rest := (v.toList ++ [])) S hc2 cal_X10_minor in_582 in_583 in_584 in_5 hK hN hF hG hd3 ho2 rfl rfl rfl hl.1 (cat_le v) ⟨show 40 + 3 * t + 0 + 0 ≤ 600000 by omega, show 40000 + 20 * t + 0 + 0 ≤ 7302250 by omega⟩ dL_law_430 (fun v2 w3 H locs hp2 hG9 hF9 hd9 => ?_)
            obtain ⟨hvv, hV, hJ2⟩ := hfin v2 w3 hp2
            subst hvv
            obtain ⟨x9, hx9⟩ := hV
            subst hx9
            have hd4 : ∀ a e, w2 a = some e → w3 a = none := fun a e ha => by
              cases hc : w3 a with
              | none => rfl
              | some e2 => rw [hd9 a e2 hc] at ha; cases ha
            refine W.eq (g2 := F0 m 433 ls [.int x9, .int x9]) rfl ?_
            refine lv_icmp_eq (tgt := 574) S.1 S.2.1 dL_law_433 (by decide) (fun c2 => ?_) (fun c2 => ?_)
            · refine W.widen (k := 40 + 3 * (t + 1)) (n := 40000 + 20 * (t + 1)) (by omega) (by omega) ?_
              exact NX w2 w3 H locs hJ2 hF9 hG9 hd4 ls (lv_sub hl [0, 1, 2, 3] rfl)
            · exact absurd rfl c2
          · refine lv_tableIn (tgt := 438) (off := 386) S.1 S.2.1 dL_law_52 (by decide) (by decide) (by decide) (by decide) ?_
            obtain ⟨post1, hc1, hnx⟩ := st_object (l := l) (dC := dC) (dI := dI) hJ (xs (2 + 4 * t + 1)) (xs (2 + 4 * t + 2))
            refine lv_aload_n S.1 S.2.1 dL_law_438 rfl (lv_at hl 2 rfl) ?_
            refine lv_aload_n S.1 S.2.1 dL_law_439 rfl (lv_at hl 3 rfl) ?_
            refine lv_iload_n S.1 S.2.1 dL_law_440 rfl (lv_at hl 0 rfl) ?_
            refine lv_iconst (v := nI (1)) S.1 S.2.1 dL_law_441 (by decide) ?_
            refine lv_iadd S.1 S.2.1 dL_law_442 ?_
            refine lv_eqi (nI_add _ _) ?_
            refine va_sld S.1 S.2.1 hX hbl hbA hG.2.2.1 (i := nI ((2 + 4 * t) + 1)) (vp_in_nI (by omega) (by omega)) dL_law_443 ?_
            refine lv_eqi (y := xs ((2 + 4 * t) + 1)) (by rw [nI_clamp (by omega)]) ?_
            refine lv_aload_n S.1 S.2.1 dL_law_444 rfl (lv_at hl 3 rfl) ?_
            refine lv_iload_n S.1 S.2.1 dL_law_445 rfl (lv_at hl 0 rfl) ?_
            refine lv_iconst (v := nI (2)) S.1 S.2.1 dL_law_446 (by decide) ?_
            refine lv_iadd S.1 S.2.1 dL_law_447 ?_
            refine lv_eqi (nI_add _ _) ?_
            refine va_sld S.1 S.2.1 hX hbl hbA hG.2.2.1 (i := nI ((2 + 4 * t) + 2)) (vp_in_nI (by omega) (by omega)) dL_law_448 ?_
            refine lv_eqi (y := xs ((2 + 4 * t) + 2)) (by rw [nI_clamp (by omega)]) ?_
            refine law_V (As := [.int (xs (2 + 4 * t + 1)), .int (xs (2 + 4 * t + 2))]) (rest := []) S hc1 cal_X9_object in_586 in_587 in_588 in_2 hK hN hG hF hd ho1 rfl rfl rfl hl.1 (Nat.le_of_ble_eq_true rfl) ⟨show 40 + 3 * t + 0 ≤ 600000 by omega, show 40000 + 20 * t + 0 ≤ 7302250 by omega⟩ dL_law_449 (fun v w2 H locs hp hG hF hd => ?_)
            obtain ⟨post2, hc2, hfin⟩ := hnx v w2 hp
            have hd3 : ∀ a e, wR a = some e → w2 a = none := fun a e ha => by
              cases hc : w2 a with
              | none => rfl
              | some e2 => rw [hd a e2 hc] at ha; cases ha
            refine lv_aload_n S.1 S.2.1 dL_law_452 rfl (lv_at hl 1 rfl) ?_
            refine lv_aload_n S.1 S.2.1 dL_law_453 rfl (lv_at hl 3 rfl) ?_
            refine lv_iload_n S.1 S.2.1 dL_law_454 rfl (lv_at hl 0 rfl) ?_
            refine lv_iconst (v := nI (1)) S.1 S.2.1 dL_law_455 (by decide) ?_
            refine lv_iadd S.1 S.2.1 dL_law_456 ?_
            refine lv_eqi (nI_add _ _) ?_
            refine va_sld S.1 S.2.1 hX hbl hbA hG.2.2.1 (i := nI ((2 + 4 * t) + 1)) (vp_in_nI (by omega) (by omega)) dL_law_457 ?_
            refine lv_eqi (y := xs ((2 + 4 * t) + 1)) (by rw [nI_clamp (by omega)]) ?_
            refine lv_aload_n S.1 S.2.1 dL_law_458 rfl (lv_at hl 3 rfl) ?_
            refine lv_iload_n S.1 S.2.1 dL_law_459 rfl (lv_at hl 0 rfl) ?_
            refine lv_iconst (v := nI (2)) S.1 S.2.1 dL_law_460 (by decide) ?_
            refine lv_iadd S.1 S.2.1 dL_law_461 ?_
            refine lv_eqi (nI_add _ _) ?_
            refine va_sld S.1 S.2.1 hX hbl hbA hG.2.2.1 (i := nI ((2 + 4 * t) + 2)) (vp_in_nI (by omega) (by omega)) dL_law_462 ?_
            refine lv_eqi (y := xs ((2 + 4 * t) + 2)) (by rw [nI_clamp (by omega)]) ?_
            refine law_V (As := [.int (xs (2 + 4 * t + 1)), .int (xs (2 + 4 * t + 2))]) (rest := (v.toList ++ [])) S hc2 cal_X10_object in_592 in_593 in_594 in_5 hK hN hF hG hd3 ho2 rfl rfl rfl hl.1 (cat_le v) ⟨show 40 + 3 * t + 0 + 0 ≤ 600000 by omega, show 40000 + 20 * t + 0 + 0 ≤ 7302250 by omega⟩ dL_law_463 (fun v2 w3 H locs hp2 hG9 hF9 hd9 => ?_)
            obtain ⟨hvv, hV, hJ2⟩ := hfin v2 w3 hp2
            subst hvv
            obtain ⟨x9, hx9⟩ := hV
            subst hx9
            have hd4 : ∀ a e, w2 a = some e → w3 a = none := fun a e ha => by
              cases hc : w3 a with
              | none => rfl
              | some e2 => rw [hd9 a e2 hc] at ha; cases ha
            refine W.eq (g2 := F0 m 466 ls [.int x9, .int x9]) rfl ?_
            refine lv_icmp_eq (tgt := 574) S.1 S.2.1 dL_law_466 (by decide) (fun c2 => ?_) (fun c2 => ?_)
            · refine W.widen (k := 40 + 3 * (t + 1)) (n := 40000 + 20 * (t + 1)) (by omega) (by omega) ?_
              exact NX w2 w3 H locs hJ2 hF9 hG9 hd4 ls (lv_sub hl [0, 1, 2, 3] rfl)
            · exact absurd rfl c2
          · refine lv_tableIn (tgt := 471) (off := 419) S.1 S.2.1 dL_law_52 (by decide) (by decide) (by decide) (by decide) ?_
            obtain ⟨post1, hc1, hnx⟩ := st_at (l := l) (dC := dC) (dI := dI) hJ (xs (2 + 4 * t + 1))
            refine lv_aload_n S.1 S.2.1 dL_law_471 rfl (lv_at hl 2 rfl) ?_
            refine lv_aload_n S.1 S.2.1 dL_law_472 rfl (lv_at hl 3 rfl) ?_
            refine lv_iload_n S.1 S.2.1 dL_law_473 rfl (lv_at hl 0 rfl) ?_
            refine lv_iconst (v := nI (1)) S.1 S.2.1 dL_law_474 (by decide) ?_
            refine lv_iadd S.1 S.2.1 dL_law_475 ?_
            refine lv_eqi (nI_add _ _) ?_
            refine va_sld S.1 S.2.1 hX hbl hbA hG.2.2.1 (i := nI ((2 + 4 * t) + 1)) (vp_in_nI (by omega) (by omega)) dL_law_476 ?_
            refine lv_eqi (y := xs ((2 + 4 * t) + 1)) (by rw [nI_clamp (by omega)]) ?_
            refine law_V (As := [.int (xs (2 + 4 * t + 1))]) (rest := []) S hc1 cal_X9_at in_596 in_597 in_598 in_2 hK hN hG hF hd ho1 rfl rfl rfl hl.1 (Nat.le_of_ble_eq_true rfl) ⟨show 40 + 3 * t + 0 ≤ 600000 by omega, show 40000 + 20 * t + 0 ≤ 7302250 by omega⟩ dL_law_477 (fun v w2 H locs hp hG hF hd => ?_)
            obtain ⟨post2, hc2, hfin⟩ := hnx v w2 hp
            have hd3 : ∀ a e, wR a = some e → w2 a = none := fun a e ha => by
              cases hc : w2 a with
              | none => rfl
              | some e2 => rw [hd a e2 hc] at ha; cases ha
            refine lv_aload_n S.1 S.2.1 dL_law_480 rfl (lv_at hl 1 rfl) ?_
            refine lv_aload_n S.1 S.2.1 dL_law_481 rfl (lv_at hl 3 rfl) ?_
            refine lv_iload_n S.1 S.2.1 dL_law_482 rfl (lv_at hl 0 rfl) ?_
            refine lv_iconst (v := nI (1)) S.1 S.2.1 dL_law_483 (by decide) ?_
            refine lv_iadd S.1 S.2.1 dL_law_484 ?_
            refine lv_eqi (nI_add _ _) ?_
            refine va_sld S.1 S.2.1 hX hbl hbA hG.2.2.1 (i := nI ((2 + 4 * t) + 1)) (vp_in_nI (by omega) (by omega)) dL_law_485 ?_
            refine lv_eqi (y := xs ((2 + 4 * t) + 1)) (by rw [nI_clamp (by omega)]) ?_
            refine law_V (As := [.int (xs (2 + 4 * t + 1))]) (rest := (v.toList ++ [])) S hc2 cal_X10_at in_602 in_603 in_604 in_5 hK hN hF hG hd3 ho2 rfl rfl rfl hl.1 (cat_le v) ⟨show 40 + 3 * t + 0 + 0 ≤ 600000 by omega, show 40000 + 20 * t + 0 + 0 ≤ 7302250 by omega⟩ dL_law_486 (fun v2 w3 H locs hp2 hG9 hF9 hd9 => ?_)
            obtain ⟨hvv, hV, hJ2⟩ := hfin v2 w3 hp2
            subst hvv
            obtain ⟨x9, hx9⟩ := hV
            subst hx9
            have hd4 : ∀ a e, w2 a = some e → w3 a = none := fun a e ha => by
              cases hc : w3 a with
              | none => rfl
              | some e2 => rw [hd9 a e2 hc] at ha; cases ha
            refine W.eq (g2 := F0 m 489 ls [.int x9, .int x9]) rfl ?_
            refine lv_icmp_eq (tgt := 574) S.1 S.2.1 dL_law_489 (by decide) (fun c2 => ?_) (fun c2 => ?_)
            · refine W.widen (k := 40 + 3 * (t + 1)) (n := 40000 + 20 * (t + 1)) (by omega) (by omega) ?_
              exact NX w2 w3 H locs hJ2 hF9 hG9 hd4 ls (lv_sub hl [0, 1, 2, 3] rfl)
            · exact absurd rfl c2
          · refine lv_tableIn (tgt := 494) (off := 442) S.1 S.2.1 dL_law_52 (by decide) (by decide) (by decide) (by decide) ?_
            obtain ⟨post1, hc1, hnx⟩ := st_count (l := l) (dC := dC) (dI := dI) hJ hT (xs (2 + 4 * t + 1))
            refine lv_aload_n S.1 S.2.1 dL_law_494 rfl (lv_at hl 2 rfl) ?_
            refine lv_aload_n S.1 S.2.1 dL_law_495 rfl (lv_at hl 3 rfl) ?_
            refine lv_iload_n S.1 S.2.1 dL_law_496 rfl (lv_at hl 0 rfl) ?_
            refine lv_iconst (v := nI (1)) S.1 S.2.1 dL_law_497 (by decide) ?_
            refine lv_iadd S.1 S.2.1 dL_law_498 ?_
            refine lv_eqi (nI_add _ _) ?_
            refine va_sld S.1 S.2.1 hX hbl hbA hG.2.2.1 (i := nI ((2 + 4 * t) + 1)) (vp_in_nI (by omega) (by omega)) dL_law_499 ?_
            refine lv_eqi (y := xs ((2 + 4 * t) + 1)) (by rw [nI_clamp (by omega)]) ?_
            refine law_V (As := [.int (xs (2 + 4 * t + 1))]) (rest := []) S hc1 cal_X9_count in_606 in_607 in_608 in_2 hK hN hG hF hd ho1 rfl rfl rfl hl.1 (Nat.le_of_ble_eq_true rfl) ⟨show 40 + 3 * t + 0 ≤ 600000 by omega, show 40000 + 20 * t + 0 ≤ 7302250 by omega⟩ dL_law_500 (fun v w2 H locs hp hG hF hd => ?_)
            obtain ⟨post2, hc2, hfin⟩ := hnx v w2 hp
            have hd3 : ∀ a e, wR a = some e → w2 a = none := fun a e ha => by
              cases hc : w2 a with
              | none => rfl
              | some e2 => rw [hd a e2 hc] at ha; cases ha
            refine lv_aload_n S.1 S.2.1 dL_law_503 rfl (lv_at hl 1 rfl) ?_
            refine lv_aload_n S.1 S.2.1 dL_law_504 rfl (lv_at hl 3 rfl) ?_
            refine lv_iload_n S.1 S.2.1 dL_law_505 rfl (lv_at hl 0 rfl) ?_
            refine lv_iconst (v := nI (1)) S.1 S.2.1 dL_law_506 (by decide) ?_
            refine lv_iadd S.1 S.2.1 dL_law_507 ?_
            refine lv_eqi (nI_add _ _) ?_
            refine va_sld S.1 S.2.1 hX hbl hbA hG.2.2.1 (i := nI ((2 + 4 * t) + 1)) (vp_in_nI (by omega) (by omega)) dL_law_508 ?_
            refine lv_eqi (y := xs ((2 + 4 * t) + 1)) (by rw [nI_clamp (by omega)]) ?_
            refine law_V (As := [.int (xs (2 + 4 * t + 1))]) (rest := (v.toList ++ [])) S hc2 cal_X10_count in_636 in_637 in_638 in_5 hK hN hF hG hd3 ho2 rfl rfl rfl hl.1 (cat_le v) ⟨show 40 + 3 * t + 0 + 0 ≤ 600000 by omega, show 40000 + 20 * t + 0 + 0 ≤ 7302250 by omega⟩ dL_law_509 (fun v2 w3 H locs hp2 hG9 hF9 hd9 => ?_)
            obtain ⟨hvv, hV, hJ2⟩ := hfin v2 w3 hp2
            subst hvv
            obtain ⟨x9, hx9⟩ := hV
            subst hx9
            have hd4 : ∀ a e, w2 a = some e → w3 a = none := fun a e ha => by
              cases hc : w3 a with
              | none => rfl
              | some e2 => rw [hd9 a e2 hc] at ha; cases ha
            refine W.eq (g2 := F0 m 512 ls [.int x9, .int x9]) rfl ?_
            refine lv_icmp_eq (tgt := 574) S.1 S.2.1 dL_law_512 (by decide) (fun c2 => ?_) (fun c2 => ?_)
            · refine W.widen (k := 40 + 3 * (t + 1)) (n := 40000 + 20 * (t + 1)) (by omega) (by omega) ?_
              exact NX w2 w3 H locs hJ2 hF9 hG9 hd4 ls (lv_sub hl [0, 1, 2, 3] rfl)
            · exact absurd rfl c2
          · refine lv_tableIn (tgt := 517) (off := 465) S.1 S.2.1 dL_law_52 (by decide) (by decide) (by decide) (by decide) ?_
            obtain ⟨post1, hc1, hnx⟩ := st_same (l := l) (dC := dC) (dI := dI) hJ (xs (2 + 4 * t + 1)) (xs (2 + 4 * t + 2))
            refine lv_aload_n S.1 S.2.1 dL_law_517 rfl (lv_at hl 2 rfl) ?_
            refine lv_aload_n S.1 S.2.1 dL_law_518 rfl (lv_at hl 3 rfl) ?_
            refine lv_iload_n S.1 S.2.1 dL_law_519 rfl (lv_at hl 0 rfl) ?_
            refine lv_iconst (v := nI (1)) S.1 S.2.1 dL_law_520 (by decide) ?_
            refine lv_iadd S.1 S.2.1 dL_law_521 ?_
            refine lv_eqi (nI_add _ _) ?_
            refine va_sld S.1 S.2.1 hX hbl hbA hG.2.2.1 (i := nI ((2 + 4 * t) + 1)) (vp_in_nI (by omega) (by omega)) dL_law_522 ?_
            refine lv_eqi (y := xs ((2 + 4 * t) + 1)) (by rw [nI_clamp (by omega)]) ?_
            refine lv_aload_n S.1 S.2.1 dL_law_523 rfl (lv_at hl 3 rfl) ?_
            refine lv_iload_n S.1 S.2.1 dL_law_524 rfl (lv_at hl 0 rfl) ?_
            refine lv_iconst (v := nI (2)) S.1 S.2.1 dL_law_525 (by decide) ?_
            refine lv_iadd S.1 S.2.1 dL_law_526 ?_
            refine lv_eqi (nI_add _ _) ?_
            refine va_sld S.1 S.2.1 hX hbl hbA hG.2.2.1 (i := nI ((2 + 4 * t) + 2)) (vp_in_nI (by omega) (by omega)) dL_law_527 ?_
            refine lv_eqi (y := xs ((2 + 4 * t) + 2)) (by rw [nI_clamp (by omega)]) ?_
            refine law_V (As := [.int (xs (2 + 4 * t + 1)), .int (xs (2 + 4 * t + 2))]) (rest := []) S hc1 cal_X9_same in_640 in_641 in_642 in_2 hK hN hG hF hd ho1 rfl rfl rfl hl.1 (Nat.le_of_ble_eq_true rfl) ⟨show 40 + 3 * t + 0 ≤ 600000 by omega, show 40000 + 20 * t + 0 ≤ 7302250 by omega⟩ dL_law_528 (fun v w2 H locs hp hG hF hd => ?_)
            obtain ⟨post2, hc2, hfin⟩ := hnx v w2 hp
            have hd3 : ∀ a e, wR a = some e → w2 a = none := fun a e ha => by
              cases hc : w2 a with
              | none => rfl
              | some e2 => rw [hd a e2 hc] at ha; cases ha
            refine lv_aload_n S.1 S.2.1 dL_law_531 rfl (lv_at hl 1 rfl) ?_
            refine lv_aload_n S.1 S.2.1 dL_law_532 rfl (lv_at hl 3 rfl) ?_
            refine lv_iload_n S.1 S.2.1 dL_law_533 rfl (lv_at hl 0 rfl) ?_
            refine lv_iconst (v := nI (1)) S.1 S.2.1 dL_law_534 (by decide) ?_
            refine lv_iadd S.1 S.2.1 dL_law_535 ?_
            refine lv_eqi (nI_add _ _) ?_
            refine va_sld S.1 S.2.1 hX hbl hbA hG.2.2.1 (i := nI ((2 + 4 * t) + 1)) (vp_in_nI (by omega) (by omega)) dL_law_536 ?_
            refine lv_eqi (y := xs ((2 + 4 * t) + 1)) (by rw [nI_clamp (by omega)]) ?_
            refine lv_aload_n S.1 S.2.1 dL_law_537 rfl (lv_at hl 3 rfl) ?_
            refine lv_iload_n S.1 S.2.1 dL_law_538 rfl (lv_at hl 0 rfl) ?_
            refine lv_iconst (v := nI (2)) S.1 S.2.1 dL_law_539 (by decide) ?_
            refine lv_iadd S.1 S.2.1 dL_law_540 ?_
            refine lv_eqi (nI_add _ _) ?_
            refine va_sld S.1 S.2.1 hX hbl hbA hG.2.2.1 (i := nI ((2 + 4 * t) + 2)) (vp_in_nI (by omega) (by omega)) dL_law_541 ?_
            refine lv_eqi (y := xs ((2 + 4 * t) + 2)) (by rw [nI_clamp (by omega)]) ?_
            refine law_V (As := [.int (xs (2 + 4 * t + 1)), .int (xs (2 + 4 * t + 2))]) (rest := (v.toList ++ [])) S hc2 cal_X10_same in_644 in_645 in_646 in_5 hK hN hF hG hd3 ho2 rfl rfl rfl hl.1 (cat_le v) ⟨show 40 + 3 * t + 0 + 0 ≤ 600000 by omega, show 40000 + 20 * t + 0 + 0 ≤ 7302250 by omega⟩ dL_law_542 (fun v2 w3 H locs hp2 hG9 hF9 hd9 => ?_)
            obtain ⟨hvv, hV, hJ2⟩ := hfin v2 w3 hp2
            subst hvv
            obtain ⟨x9, hx9⟩ := hV
            subst hx9
            have hd4 : ∀ a e, w2 a = some e → w3 a = none := fun a e ha => by
              cases hc : w3 a with
              | none => rfl
              | some e2 => rw [hd9 a e2 hc] at ha; cases ha
            refine W.eq (g2 := F0 m 545 ls [.int x9, .int x9]) rfl ?_
            refine lv_icmp_eq (tgt := 574) S.1 S.2.1 dL_law_545 (by decide) (fun c2 => ?_) (fun c2 => ?_)
            · refine W.widen (k := 40 + 3 * (t + 1)) (n := 40000 + 20 * (t + 1)) (by omega) (by omega) ?_
              exact NX w2 w3 H locs hJ2 hF9 hG9 hd4 ls (lv_sub hl [0, 1, 2, 3] rfl)
            · exact absurd rfl c2
          · refine lv_tableIn (tgt := 550) (off := 498) S.1 S.2.1 dL_law_52 (by decide) (by decide) (by decide) (by decide) ?_
            obtain ⟨post1, hc1, hnx⟩ := st_sum (l := l) (dC := dC) (dI := dI) hJ hT (xs (2 + 4 * t + 1))
            refine lv_aload_n S.1 S.2.1 dL_law_550 rfl (lv_at hl 2 rfl) ?_
            refine lv_aload_n S.1 S.2.1 dL_law_551 rfl (lv_at hl 3 rfl) ?_
            refine lv_iload_n S.1 S.2.1 dL_law_552 rfl (lv_at hl 0 rfl) ?_
            refine lv_iconst (v := nI (1)) S.1 S.2.1 dL_law_553 (by decide) ?_
            refine lv_iadd S.1 S.2.1 dL_law_554 ?_
            refine lv_eqi (nI_add _ _) ?_
            refine va_sld S.1 S.2.1 hX hbl hbA hG.2.2.1 (i := nI ((2 + 4 * t) + 1)) (vp_in_nI (by omega) (by omega)) dL_law_555 ?_
            refine lv_eqi (y := xs ((2 + 4 * t) + 1)) (by rw [nI_clamp (by omega)]) ?_
            refine law_V (As := [.int (xs (2 + 4 * t + 1))]) (rest := []) S hc1 cal_X9_sum in_648 in_649 in_650 in_2 hK hN hG hF hd ho1 rfl rfl rfl hl.1 (Nat.le_of_ble_eq_true rfl) ⟨show 40 + 3 * t + 0 ≤ 600000 by omega, show 40000 + 20 * t + 0 ≤ 7302250 by omega⟩ dL_law_556 (fun v w2 H locs hp hG hF hd => ?_)
            obtain ⟨post2, hc2, hfin⟩ := hnx v w2 hp
            have hd3 : ∀ a e, wR a = some e → w2 a = none := fun a e ha => by
              cases hc : w2 a with
              | none => rfl
              | some e2 => rw [hd a e2 hc] at ha; cases ha
            refine lv_aload_n S.1 S.2.1 dL_law_559 rfl (lv_at hl 1 rfl) ?_
            refine lv_aload_n S.1 S.2.1 dL_law_560 rfl (lv_at hl 3 rfl) ?_
            refine lv_iload_n S.1 S.2.1 dL_law_561 rfl (lv_at hl 0 rfl) ?_
            refine lv_iconst (v := nI (1)) S.1 S.2.1 dL_law_562 (by decide) ?_
            refine lv_iadd S.1 S.2.1 dL_law_563 ?_
            refine lv_eqi (nI_add _ _) ?_
            refine va_sld S.1 S.2.1 hX hbl hbA hG.2.2.1 (i := nI ((2 + 4 * t) + 1)) (vp_in_nI (by omega) (by omega)) dL_law_564 ?_
            refine lv_eqi (y := xs ((2 + 4 * t) + 1)) (by rw [nI_clamp (by omega)]) ?_
            refine law_V (As := [.int (xs (2 + 4 * t + 1))]) (rest := (v.toList ++ [])) S hc2 cal_X10_sum in_672 in_673 in_674 in_5 hK hN hF hG hd3 ho2 rfl rfl rfl hl.1 (cat_le v) ⟨show 40 + 3 * t + 0 + 0 ≤ 600000 by omega, show 40000 + 20 * t + 0 + 0 ≤ 7302250 by omega⟩ dL_law_565 (fun v2 w3 H locs hp2 hG9 hF9 hd9 => ?_)
            obtain ⟨hvv, hV, hJ2⟩ := hfin v2 w3 hp2
            subst hvv
            obtain ⟨x9, hx9⟩ := hV
            subst hx9
            have hd4 : ∀ a e, w2 a = some e → w3 a = none := fun a e ha => by
              cases hc : w3 a with
              | none => rfl
              | some e2 => rw [hd9 a e2 hc] at ha; cases ha
            refine W.eq (g2 := F0 m 568 ls [.long x9, .long x9]) rfl ?_
            refine W.lcmp S.1 S.2.1 dL_law_568 ?_
            refine lv_if_eq (tgt := 574) S.1 S.2.1 dL_law_569 (by decide) (fun c2 => ?_) (fun c2 => ?_)
            · refine W.widen (k := 40 + 3 * (t + 1)) (n := 40000 + 20 * (t + 1)) (by omega) (by omega) ?_
              exact NX w2 w3 H locs hJ2 hF9 hG9 hd4 ls (lv_sub hl [0, 1, 2, 3] rfl)
            · exact absurd (by simp [lg_cmp]) c2
        · refine lv_tableOut (tgt := 574) S.1 S.2.1 dL_law_52 (inR_out (n := 14) hy) (by decide) ?_
          refine W.widen (k := 40 + 3 * (t + 1)) (n := 40000 + 20 * (t + 1)) (by omega) (by omega) ?_
          exact NX wC wR H locs (hJ.later) hG hF hd ls (lv_sub hl [0, 1, 2, 3] rfl)
    · refine lv_isub S.1 S.2.1 dL_law_42 ?_
      refine lv_icmp_gt (tgt := 580) S.1 S.2.1 dL_law_43 (by decide) (fun c1 => ?_) (fun c1 => ?_)
      · refine lv_iconst (v := 1) S.1 S.2.1 dL_law_580 (by decide) ?_
        refine va_forget (fun q hq => hG.2.2.1.2.2 q hq) ?_
        refine W.widen (k := 600000) (n := 7302250) (by omega) (by omega) ?_
        exact lw_ret hx hb hr hlocks dL_law_581
      · exact absurd (by rcases (show L = 0 ∨ L = 1 ∨ L = 2 ∨ L = 3 by omega) with z | z | z | z <;> rcases (show t = 0 ∨ t = 1 by omega) with y | y <;> rw [z, y] <;> decide) c1
