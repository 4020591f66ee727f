theorem cal_X9_make : mCal yX9_make cX9_make 5 2 (some .int) := ⟨in_139, by decide +kernel⟩
set_option maxHeartbeats 4000000 in
set_option maxRecDepth 100000 in
theorem make_tail {p : Program} {l : Launch} {e : Env} {s : State} {m : MethodId} {args : Array Value} {below : List Frame} {meth : Method} {c : Code} {H : Heap} {locs : List Loc} {ls : Array Slot} {A : Nat → Prop} {dC : Nat → ClassId} {dI : Nat → Nat → Nat} {cI cZ cT : ClassId} {q : Nat → Nat} {kp : Nat} {Wn : Nat} {made : Nat} {fl : (Nat → Nat)} {num : (Nat → Nat → Int32)} {rfs : (Nat → Nat → Option Nat)} {root : (Nat → Option Nat)} {own : (Nat → Option Nat)} {tad : (Nat → Nat)} {trm : (Nat → Bool)} {tpl : (Nat → Nat)} {wlk : (Nat → Nat)} {ord : (Nat → Nat)} {met : (Nat → Option Nat)} {msz : Nat} {cur : Nat} {mend : Nat} {pnx : Nat} {pen : Nat} {st : Nat} {coll : Nat} {mins : Nat} {movd : Nat} {w0 : mM} {post : Option Value → mM → Prop} (S : CallFix p m c cX9_make 5 s args wsL RX9) (hr : meth.sig.returnType = some .int) (hlk : meth.locks = false) (hK : va_K (dC, dI) vwCl (tyL cI cZ cT) s) (hN : mN s) (hG : mG (dC, dI) vwCl A s.heap w0 H locs) (hC : CW cI cT q kp Wn made fl num rfs root own tad trm tpl wlk ord met msz cur mend pnx pen st coll mins movd w0) (hW4 : Wn ≤ 400) (hob : ∀ k t, own k = some t → t < made) (hrb : ∀ j, j < 16 → ∀ o, root j = some o → o < made) (hmt : ∀ k t, met k = some t → t < made) (hfb : ∀ k, k < made → ∀ j t, rfs k j = some t → t < made) (j n a : Nat) (hj : j < 16) (hn : n ≤ 6) (ha : a + n < Wn) (hl : lv_has ls 5 [(3, .int (nI a)), (0, .ref (q 0)), (1, .int (nI j)), (2, .int (nI n))]) (hpost : ∀ (b a1 a2 : Nat) (w2 : mM), CW cI cT (extq q made b a1 a2) kp Wn ((made + 1)) ((va_up fl made n)) ((ext0 num made 0)) ((ext0 rfs made none)) ((va_up root j (some made))) ((fillO own a (n + 1) (some made))) ((va_up (va_up tad made 0) made a)) ((va_up trm made false)) ((va_up tpl made 0)) ((va_up wlk made 0)) ((va_up ord made 0)) met msz cur mend pnx pen st coll mins movd w2 → post (some (.int (nI made))) w2) : W p l e { frames := 6, cells := 3, slots := 20, locals := 135 } s m args below meth c H locs 0 0 (MQ below (mQ (dC, dI) vwCl (tyL cI cZ cT) post A) args s 3 20 A) (F0 m 82 ls []) := by
  have hnm : True := trivial
  have hq0 := hC.obj9
  obtain ⟨w, hw0⟩ : ∃ z, z = w0 := ⟨_, rfl⟩
  rw [← hw0] at hG hq0
  have hfr : ∀ x, w x = w0 x := fun x => by rw [hw0]
  refine mn_new (fs := [.int 0, .null, .null, .int 0, .int 0, .int 0, .int 0, .int 0]) (C := RX6) (T := TX6) (N := 8) (ci := 5) S inlX6 tyX6 tyX6_ok in_140 in_141 in_142 hK hG rfl (fun j hj => by rcases (show j = 0 ∨ j = 1 ∨ j = 2 ∨ j = 3 ∨ j = 4 ∨ j = 5 ∨ j = 6 ∨ j = 7 by omega) with rfl | rfl | rfl | rfl | rfl | rfl | rfl | rfl <;> rfl) (by decide) (show 0 + 8 ≤ 20 by decide) dX9_make_82 (fun o0 w H hq9 ho0 hf9 hG => ?_)
  refine W.widen (k := 1) (n := 8) (by decide) (by decide) ?_
  have ne1 : o0 ≠ (q 0) := fun z => by rw [z, hq0] at hq9; cases hq9
  have fro0 : w0 o0 = none := by rw [← hfr o0 ]; exact hq9
  have hq0 : w (q 0) = some (.inr (8, [.ref (q 1), .ref (q 3), .ref (q 5), .int (nI (made))])) := by rw [hf9 (q 0) (Ne.symm ne1)]; exact hq0
  have hfr : ∀ x, x ≠ o0 → w x = w0 x := fun x n0 => by rw [hf9 x n0]; exact hfr x
  refine lv_dup S.1 S.2.1 dX9_make_85 rfl ?_
  refine lv_aload_n S.1 S.2.1 dX9_make_86 rfl (lv_at hl 1 rfl) ?_
  refine mw_get (v := .int (nI (made))) S inlX9 hK hG hq0 rfl 3 (by decide) in_25 (fun _ h9 => h9) rfl dX9_make_87 ?_
  refine lv_iload_n S.1 S.2.1 dX9_make_90 rfl (lv_at hl 3 rfl) ?_
  have hold := ho0
  refine mCI (As := [.int (nI (made)), .int (nI (n))]) (rest := [.ref (o0)]) S (i_thing o0 made n hn ho0) cal_X6_init rfl in_358 in_359 in_142 hK hN hG rfl rfl hl.1 (Nat.le_of_ble_eq_true rfl) ⟨by decide, by decide⟩ ⟨rfl, rfl⟩ ⟨by decide, by decide⟩ dX9_make_91 (fun v w H locs hp hG => ?_)
  obtain ⟨rfl, a1, a2, fq_a1, fq_a2, n21, ho0, ha1, ha2, hf8⟩ := hp
  have ne2 : a1 ≠ (q 0) := fun z => by rw [z, hq0] at fq_a1; cases fq_a1
  have ne3 : a1 ≠ o0 := fun z => by rw [z, hold] at fq_a1; cases fq_a1
  have ne4 : a2 ≠ (q 0) := fun z => by rw [z, hq0] at fq_a2; cases fq_a2
  have ne5 : a2 ≠ o0 := fun z => by rw [z, hold] at fq_a2; cases fq_a2
  have hq0 : w (q 0) = some (.inr (8, [.ref (q 1), .ref (q 3), .ref (q 5), .int (nI (made))])) := by rw [hf8 (q 0) (Ne.symm ne1) (Ne.symm ne2) (Ne.symm ne4)]; exact hq0
  have fra1 : w0 a1 = none := by rw [← hfr a1 ne3]; exact fq_a1
  have fra2 : w0 a2 = none := by rw [← hfr a2 ne5]; exact fq_a2
  have hfr : ∀ x, x ≠ o0 → x ≠ a1 → x ≠ a2 → w x = w0 x := fun x n0 n1 n2 => by rw [hf8 x n0 n1 n2]; exact hfr x n0
  refine W.eq (g2 := F0 m 94 ls [.ref (o0)]) rfl ?_
  refine W.widen (k := 3) (n := 20) (by decide) (by decide) ?_
  refine lv_astore (lv' := [(4, .ref (o0)), (3, .int (nI (a))), (0, .ref ((q 0))), (1, .int (nI (j))), (2, .int (nI (n)))]) S.1 S.2.1 dX9_make_94 hl (by decide) rfl (fun ls hl => ?_)
  refine lv_aload_n S.1 S.2.1 dX9_make_96 rfl (lv_at hl 2 rfl) ?_
  refine lv_dup S.1 S.2.1 dX9_make_97 rfl ?_
  refine mw_get (v := .int (nI (made))) S inlX9 hK hG hq0 rfl 3 (by decide) in_25 (fun _ h9 => h9) rfl dX9_make_98 ?_
  refine lv_iconst (v := nI (1)) S.1 S.2.1 dX9_make_101 (by decide) ?_
  refine lv_iadd S.1 S.2.1 dX9_make_102 ?_
  refine lv_eqi (nI_add _ _) ?_
  refine mn_put (v := .int (nI (made + 1))) S inlX9 tyX9 tyX9_ok nmX9 hK hG hq0 rfl 3 (by decide) in_25 (fun _ h9 => h9) rfl (ty := .int) (by decide +kernel) rfl rfl (Nat.le_of_ble_eq_true rfl) dX9_make_103 (fun w H locs hq0 hf9 hG => ?_)
  have hq0 : w (q 0) = some (.inr (8, [.ref (q 1), .ref (q 3), .ref (q 5), .int (nI (made + 1))])) := hq0
  have ho0 : w o0 = some (.inr (5, [.int (nI (made)), .ref a1, .ref a2, .int (nI 0), .int (bI false), .int (nI 0), .int (nI 0), .int (nI 0)])) := by rw [hf9 o0 ne1]; exact ho0
  have ha1 : w a1 = some (.inl (cI, n, .inl (fun _ => 0))) := by rw [hf9 a1 ne2]; exact ha1
  have ha2 : w a2 = some (.inl (cT, n, .inr (.inr (.inr (.inr (fun _ => none)))))) := by rw [hf9 a2 ne4]; exact ha2
  have hfr : ∀ x, x ≠ o0 → x ≠ a1 → x ≠ a2 → x ≠ (q 0) → w x = w0 x := fun x n0 n1 n2 n3 => by rw [hf9 x n3]; exact hfr x n0 n1 n2
  have hC : CW cI cT (extq q made o0 a1 a2) kp Wn ((made + 1)) ((va_up fl made n)) ((ext0 num made 0)) ((ext0 rfs made none)) root own ((va_up tad made 0)) ((va_up trm made false)) ((va_up tpl made 0)) ((va_up wlk made 0)) ((va_up ord made 0)) met msz cur mend pnx pen st coll mins movd w := CW.ext hC hob hrb hmt hfb fro0 fra1 fra2 ne3 ne5 n21 hq0 ho0 ha1 ha2 (fun x n0 n1 n2 n3 => hfr x n1 n2 n3 n0)
  obtain ⟨q2, hq2⟩ : ∃ z, z = extq q made o0 a1 a2 := ⟨_, rfl⟩
  rw [← hq2] at hC
  have e0 : q 0 = q2 0 := by rw [hq2, extq_o (by omega)]
  have eb : o0 = q2 (3 * made + 9) := by rw [hq2, extq_0]
  rw [e0, eb] at hl
  have hfm : va_up fl made n made = n := by unfold va_up; rw [if_pos rfl]
  have hl : lv_has ls 5 [(4, .ref (tq q2 made)), (3, .int (nI (a))), (0, .ref (q2 0)), (1, .int (nI (j))), (2, .int (nI (n)))] := hl
  refine lv_aload_n S.1 S.2.1 dX9_make_106 rfl (lv_at hl 2 rfl) ?_
  refine cg_RX9_21 S hK hG hC dX9_make_107 ?_
  refine lv_aload S.1 S.2.1 dX9_make_110 (lv_at hl 0 rfl) ?_
  refine lv_iload_n S.1 S.2.1 dX9_make_112 rfl (lv_at hl 1 rfl) ?_
  refine mCV (As := [.ref (tq q2 made), .int (nI (a))]) (rest := []) S (w_put hC made (by omega) (by omega) a (by rw [hfm]; omega)) cal_X8_put in_370 in_338 in_339 in_18 hK hN hG hC.obj8 rfl rfl rfl hl.1 (Nat.le_of_ble_eq_true rfl) ⟨by decide, by decide⟩ ⟨rfl, rfl⟩ ⟨by decide, by decide⟩ dX9_make_113 (fun v w H locs hp hG => ?_)
  obtain ⟨rfl, hC⟩ := hp
  rw [hfm] at hC
  refine W.eq (g2 := F0 m 116 ls []) rfl ?_
  refine lv_aload_n S.1 S.2.1 dX9_make_116 rfl (lv_at hl 2 rfl) ?_
  refine cg_RX9_25 S hK hG hC dX9_make_117 ?_
  refine lv_iload_n S.1 S.2.1 dX9_make_120 rfl (lv_at hl 3 rfl) ?_
  refine lv_aload S.1 S.2.1 dX9_make_121 (lv_at hl 0 rfl) ?_
  refine mCV (As := [.int (nI (j)), .ref (tq q2 made)]) (rest := []) S (o_refer hC (by omega) j hj (some made) (fun t ht => by cases ht; omega)) cal_X4_refer in_371 in_372 in_373 in_21 hK hN hG hC.obj4 rfl rfl rfl hl.1 (Nat.le_of_ble_eq_true rfl) ⟨by decide, by decide⟩ ⟨rfl, rfl⟩ ⟨by decide, by decide⟩ dX9_make_123 (fun v w H locs hp hG => ?_)
  obtain ⟨rfl, hC⟩ := hp
  refine W.eq (g2 := F0 m 126 ls []) rfl ?_
  refine lv_aload S.1 S.2.1 dX9_make_126 (lv_at hl 0 rfl) ?_
  refine cg_RX9_66 S hK hG hC made (by omega) dX9_make_128 ?_
  refine W.widen (k := 3) (n := 20) (by decide) (by decide) ?_
  exact mw_iret S hr hlk hK hG dX9_make_131 (hpost o0 a1 a2 w (by rw [← hq2]; exact hC))
set_option maxHeartbeats 4000000 in
set_option maxRecDepth 100000 in
theorem h_make0 {l : Launch} {dC : Nat → ClassId} {dI : Nat → Nat → Nat} {cI cZ cT : ClassId} {q : Nat → Nat} {kp : Nat} {Wn : Nat} {made : Nat} {fl : (Nat → Nat)} {num : (Nat → Nat → Int32)} {rfs : (Nat → Nat → Option Nat)} {root : (Nat → Option Nat)} {own : (Nat → Option Nat)} {tad : (Nat → Nat)} {trm : (Nat → Bool)} {tpl : (Nat → Nat)} {wlk : (Nat → Nat)} {ord : (Nat → Nat)} {met : (Nat → Option Nat)} {msz : Nat} {cur : Nat} {mend : Nat} {pnx : Nat} {pen : Nat} {st : Nat} {coll : Nat} {mins : Nat} {movd : Nat} {Kp : Nat → Prop} (hB : ∀ M : List Nat, M.Nodup → (∀ x ∈ M, Kp x) → M.length ≤ Wn) (hKm : ∀ x, Kp x → x < made) (hKf : ∀ x, Kp x → ∀ i, i < fl x → ∀ t, rfs x i = some t → Kp t) (hfl : ∀ x, x < made → fl x ≤ 6) {w : mM} (hC : CW cI cT q kp Wn made fl num rfs root own tad trm tpl wlk ord met msz cur mend pnx pen st coll mins movd w) (hmd : made ≤ 2000) (hkp : kp = 0) (hW4 : Wn ≤ 400) (hob : ∀ k t, own k = some t → t < made) (hrb : ∀ j, j < 16 → ∀ o, root j = some o → o < made) (hmt : ∀ k t, met k = some t → t < made) (hfb : ∀ k, k < made → ∀ j t, rfs k j = some t → t < made) (hcb : cur + 1 < 2147483648) (htb : ∀ t, t < made → tad t < 2147483648) (hwb : ∀ o, o < made → wlk o ≤ cur) (hKr : ∀ i, i < 16 → ∀ t, root i = some t → Kp t) (hLy : LyC made Wn fl tad own) (x y : Int32) : mC l yX9_make (wsY yX9_make cX9_make 5 (some .int)) { frames := 6, cells := 3, slots := 20, locals := 135 } (dC, dI) vwCl (tyL cI cZ cT) 3 20 w [.ref (q 0), .int (x), .int (y)] (fun v w2 => ((inR 16 x = false ∨ inR 7 y = false) ∧ v = some (.int (-2)) ∧ CW cI cT q kp Wn made fl num rfs root own tad trm tpl wlk ord met msz cur mend pnx pen st coll mins movd w2) ∨ ((inR 16 x = true ∧ inR 7 y = true) ∧ 2000 ≤ made ∧ v = some (.int (-4)) ∧ CW cI cT q kp Wn made fl num rfs root own tad trm tpl wlk ord met msz cur mend pnx pen st coll mins movd w2) ∨ ∃ (j n : Nat), j < 16 ∧ n ≤ 6 ∧ x = nI j ∧ y = nI n ∧ made < 2000 ∧ ((∃ a, fit own Wn 0 (n + 1) = some a ∧ v = some (.int (nI made)) ∧ ∃ (b a1 a2 : Nat), CW cI cT (extq q made b a1 a2) kp Wn ((made + 1)) ((va_up fl made n)) ((ext0 num made 0)) ((ext0 rfs made none)) ((va_up root j (some made))) ((fillO own a (n + 1) (some made))) ((va_up (va_up tad made 0) made a)) ((va_up trm made false)) ((va_up tpl made 0)) ((va_up wlk made 0)) ((va_up ord made 0)) met msz cur mend pnx pen st coll mins movd w2) ∨ (fit own Wn 0 (n + 1) = none ∧ ∃ (mt3 : Nat → Option Nat) (ms3 : Nat) (wl3 od3 : Nat → Nat), LsC made (cur + 1) ms3 mt3 wl3 od3 (flw (okC tad Wn) fl rfs 401 0 (mtN (okC tad Wn) root 16 [])) ∧ ((∃ a, fit (swO (dd 0 Wn tad (ntL (flw (okC tad Wn) fl rfs 401 0 (mtN (okC tad Wn) root 16 [])))) own) Wn 0 (n + 1) = some a ∧ v = some (.int (nI made)) ∧ ∃ (b a1 a2 : Nat), CW cI cT (extq q made b a1 a2) kp Wn ((made + 1)) ((va_up fl made n)) ((ext0 num made 0)) ((ext0 rfs made none)) ((va_up root j (some made))) ((fillO (swO (dd 0 Wn tad (ntL (flw (okC tad Wn) fl rfs 401 0 (mtN (okC tad Wn) root 16 [])))) own) a (n + 1) (some made))) ((va_up (va_up tad made 0) made a)) ((va_up trm made false)) ((va_up tpl made 0)) ((va_up wl3 made 0)) ((va_up od3 made 0)) mt3 ms3 ((cur + 1)) Wn pnx pen st ((coll + 1)) mins movd w2) ∨ (fit (swO (dd 0 Wn tad (ntL (flw (okC tad Wn) fl rfs 401 0 (mtN (okC tad Wn) root 16 [])))) own) Wn 0 (n + 1) = none ∧ v = some (.int (-4)) ∧ CW cI cT q kp Wn made fl num rfs root ((swO (dd 0 Wn tad (ntL (flw (okC tad Wn) fl rfs 401 0 (mtN (okC tad Wn) root 16 [])))) own)) tad trm tpl wl3 od3 mt3 ms3 ((cur + 1)) Wn pnx pen st ((coll + 1)) mins movd w2))))) := by
  refine mC.on (by decide) (Nat.le_of_ble_eq_true rfl) ?_
  intro p e s m args below meth c ls S hr hlk hnm hK hN hG hl
  have hl : lv_has ls 5 [(0, .ref (q 0)), (1, .int (x)), (2, .int (y))] := hl
  generalize hAe : mA w s.heap.size = A at hG ⊢
  refine lv_aload_n S.1 S.2.1 dX9_make_0 rfl (lv_at hl 0 rfl) ?_
  refine cg_RX9_25 S hK hG hC dX9_make_1 ?_
  refine lv_iload_n S.1 S.2.1 dX9_make_4 rfl (lv_at hl 1 rfl) ?_
  refine mCV (As := [.int (x)]) (rest := []) S (o_has hC x) cal_X4_has in_144 in_145 in_146 in_21 hK hN hG hC.obj4 rfl rfl rfl hl.1 (Nat.le_of_ble_eq_true rfl) ⟨by decide, by decide⟩ ⟨rfl, rfl⟩ ⟨by decide, by decide⟩ dX9_make_5 (fun v w H locs hp hG => ?_)
  obtain ⟨rfl, hw9⟩ := hp
  have hw9 := hw9.symm
  subst hw9
  refine W.eq (g2 := F0 m 8 ls [.int (bI (inR 16 x))]) rfl ?_
  refine lv_if_eq (tgt := 21) S.1 S.2.1 dX9_make_8 (by decide) (fun c1 => ?_) (fun c1 => ?_)
  · refine lv_bipush (v := -2) S.1 S.2.1 dX9_make_21 (by decide) ?_
    refine W.widen (k := 3) (n := 20) (by decide) (by decide) ?_
    exact mw_iret S hr hlk hK hG dX9_make_23 (Or.inl ⟨Or.inl (bI_f c1), rfl, hC⟩)
  · obtain ⟨j, hj, rfl⟩ := inR_ex (by decide) (bI_t c1)
    refine lv_iload_n S.1 S.2.1 dX9_make_11 rfl (lv_at hl 2 rfl) ?_
    refine lv_if_lt (tgt := 21) S.1 S.2.1 dX9_make_12 (by decide) (fun c2 => ?_) (fun c2 => ?_)
    · refine lv_bipush (v := -2) S.1 S.2.1 dX9_make_21 (by decide) ?_
      refine W.widen (k := 3) (n := 20) (by decide) (by decide) ?_
      exact mw_iret S hr hlk hK hG dX9_make_23 (Or.inl ⟨Or.inr (inR_lo c2), rfl, hC⟩)
    · refine lv_iload_n S.1 S.2.1 dX9_make_15 rfl (lv_at hl 2 rfl) ?_
      refine lv_bipush (v := nI (6)) S.1 S.2.1 dX9_make_16 (by decide) ?_
      refine lv_icmp_le (tgt := 24) S.1 S.2.1 dX9_make_18 (by decide) (fun c3 => ?_) (fun c3 => ?_)
      · obtain ⟨n, hn7, rfl⟩ := inR_ex (n := 7) (by decide) (inR_t2 (h := 6) (by decide) c2 (Int32.not_lt.mpr c3))
        refine lv_aload_n S.1 S.2.1 dX9_make_24 rfl (lv_at hl 0 rfl) ?_
        refine cg_RX9_37 S hK hG hC dX9_make_25 ?_
        refine lv_sipush (v := nI (2000)) S.1 S.2.1 dX9_make_28 (by decide) ?_
        refine lv_icmp_lt (tgt := 37) S.1 S.2.1 dX9_make_31 (by decide) (fun c4 => ?_) (fun c4 => ?_)
        · have c4 : made < 2000 := (nI_ltI (a := made) (b := 2000) (by omega) (by omega)).mp c4
          refine lv_aload_n S.1 S.2.1 dX9_make_37 rfl (lv_at hl 0 rfl) ?_
          refine cg_RX9_33 S hK hG hC dX9_make_38 ?_
          refine lv_iload_n S.1 S.2.1 dX9_make_41 rfl (lv_at hl 2 rfl) ?_
          refine lv_iconst (v := nI (1)) S.1 S.2.1 dX9_make_42 (by decide) ?_
          refine lv_iadd S.1 S.2.1 dX9_make_43 ?_
          refine lv_eqi (nI_add _ _) ?_
          refine mCU (As := [.int (nI (n + 1))]) (rest := []) S (s_take hC hkp hW4 (n + 1) (by omega) (by omega)) (va_cwA (owner := "KeptHeap$Keeper") (x := ⟨"KeptHeap$Keeper", "take", "(I)I"⟩) 1 S.2.2.2.2 (mGU (own := RX9) (index := 45) (x := ⟨"KeptHeap$Keeper", "take", "(I)I"⟩) (owner := "KeptHeap$Keeper") in_163 in_148 in_149 in_161 in_162 in_60) rfl rfl rfl hN.2.1 (by decide +kernel) ⟨by decide, by decide⟩) hK hN hG (hC.obj5 hkp) rfl rfl rfl hl.1 (Nat.le_of_ble_eq_true rfl) ⟨by decide, by decide⟩ dX9_make_44 (fun v w H locs hp hG => ?_)
          obtain ⟨rfl, hw9⟩ := hp
          have hw9 := hw9.symm
          subst hw9
          refine W.eq (g2 := F0 m 47 ls [.int (oI (fit own Wn 0 (n + 1)))]) rfl ?_
          cases hf1 : fit own Wn 0 (n + 1) with
          | some a =>
            have hfa := fit_ok (by omega) hf1
            refine W.eq (g2 := F0 m 47 ls [.int (nI (a))]) rfl ?_
            refine lv_istore_n (lv' := [(3, .int (nI (a))), (0, .ref (q 0)), (1, .int (nI (j))), (2, .int (nI (n)))]) S.1 S.2.1 dX9_make_47 rfl hl (by decide) rfl (fun ls hl => ?_)
            refine lv_iload_n S.1 S.2.1 dX9_make_48 rfl (lv_at hl 0 rfl) ?_
            refine lv_iconst (v := -1) S.1 S.2.1 dX9_make_49 (by decide) ?_
            refine lv_icmp_ne (tgt := 74) S.1 S.2.1 dX9_make_50 (by decide) (fun c5 => ?_) (fun c5 => ?_)
            · refine lv_iload_n S.1 S.2.1 dX9_make_74 rfl (lv_at hl 0 rfl) ?_
              refine lv_iconst (v := -1) S.1 S.2.1 dX9_make_75 (by decide) ?_
              refine lv_icmp_ne (tgt := 82) S.1 S.2.1 dX9_make_76 (by decide) (fun c6 => ?_) (fun c6 => ?_)
              · refine make_tail S hr hlk hK hN hG hC hW4 hob hrb hmt hfb j n (a) hj (by omega) (by omega) (lv_sub hl [0, 1, 2, 3] rfl) (fun b a1 a2 w2 hC2 => Or.inr (Or.inr ⟨j, n, hj, by omega, rfl, rfl, c4, Or.inl ⟨a, hf1, rfl, b, a1, a2, hC2⟩⟩))
              · exact absurd c6 (nI_m1 (by omega))
            · exact absurd c5 (nI_m1 (by omega))
          | none =>
            refine W.eq (g2 := F0 m 47 ls [.int (-1)]) rfl ?_
            refine lv_istore_n (lv' := [(3, .int (-1)), (0, .ref (q 0)), (1, .int (nI (j))), (2, .int (nI (n)))]) S.1 S.2.1 dX9_make_47 rfl hl (by decide) rfl (fun ls hl => ?_)
            refine lv_iload_n S.1 S.2.1 dX9_make_48 rfl (lv_at hl 0 rfl) ?_
            refine lv_iconst (v := -1) S.1 S.2.1 dX9_make_49 (by decide) ?_
            refine lv_icmp_ne (tgt := 74) S.1 S.2.1 dX9_make_50 (by decide) (fun c5 => ?_) (fun c5 => ?_)
            · exact absurd rfl c5
            · refine lv_aload_n S.1 S.2.1 dX9_make_53 rfl (lv_at hl 1 rfl) ?_
              refine cg_RX9_33 S hK hG hC dX9_make_54 ?_
              refine lv_iload_n S.1 S.2.1 dX9_make_57 rfl (lv_at hl 3 rfl) ?_
              refine lv_iconst (v := nI (1)) S.1 S.2.1 dX9_make_58 (by decide) ?_
              refine lv_iadd S.1 S.2.1 dX9_make_59 ?_
              refine lv_eqi (nI_add _ _) ?_
              refine mCU (As := [.int (nI (n + 1))]) (rest := []) S (s_clearRoomFor hB hKm hKf hfl hC hkp hW4 hcb htb hwb hmt hKr hLy (n + 1)) (va_cwA (owner := "KeptHeap$Keeper") (x := ⟨"KeptHeap$Keeper", "clearRoomFor", "(I)V"⟩) 1 S.2.2.2.2 (mGU (own := RX9) (index := 50) (x := ⟨"KeptHeap$Keeper", "clearRoomFor", "(I)V"⟩) (owner := "KeptHeap$Keeper") in_345 in_170 in_171 in_343 in_344 in_60) rfl rfl rfl hN.2.2.1 (by decide +kernel) ⟨by decide, by decide⟩) hK hN hG (hC.obj5 hkp) rfl rfl rfl hl.1 (Nat.le_of_ble_eq_true rfl) ⟨by decide, by decide⟩ dX9_make_60 (fun v w H locs hp hG => ?_)
              obtain ⟨rfl, mt3, ms3, wl3, od3, hC, hLf⟩ := hp
              refine W.eq (g2 := F0 m 63 ls []) rfl ?_
              refine lv_aload_n S.1 S.2.1 dX9_make_63 rfl (lv_at hl 1 rfl) ?_
              refine cg_RX9_33 S hK hG hC dX9_make_64 ?_
              refine lv_iload_n S.1 S.2.1 dX9_make_67 rfl (lv_at hl 3 rfl) ?_
              refine lv_iconst (v := nI (1)) S.1 S.2.1 dX9_make_68 (by decide) ?_
              refine lv_iadd S.1 S.2.1 dX9_make_69 ?_
              refine lv_eqi (nI_add _ _) ?_
              refine mCU (As := [.int (nI (n + 1))]) (rest := []) S (s_take hC hkp hW4 (n + 1) (by omega) (by omega)) (va_cwA (owner := "KeptHeap$Keeper") (x := ⟨"KeptHeap$Keeper", "take", "(I)I"⟩) 1 S.2.2.2.2 (mGU (own := RX9) (index := 45) (x := ⟨"KeptHeap$Keeper", "take", "(I)I"⟩) (owner := "KeptHeap$Keeper") in_163 in_148 in_149 in_161 in_162 in_60) rfl rfl rfl hN.2.1 (by decide +kernel) ⟨by decide, by decide⟩) hK hN hG (hC.obj5 hkp) rfl rfl rfl hl.1 (Nat.le_of_ble_eq_true rfl) ⟨by decide, by decide⟩ dX9_make_70 (fun v w H locs hp hG => ?_)
              obtain ⟨rfl, hw9⟩ := hp
              have hw9 := hw9.symm
              subst hw9
              refine W.eq (g2 := F0 m 73 ls [.int (oI (fit (swO (dd 0 Wn tad (ntL (flw (okC tad Wn) fl rfs 401 0 (mtN (okC tad Wn) root 16 [])))) own) Wn 0 (n + 1)))]) rfl ?_
              cases hf2 : fit (swO (dd 0 Wn tad (ntL (flw (okC tad Wn) fl rfs 401 0 (mtN (okC tad Wn) root 16 [])))) own) Wn 0 (n + 1) with
              | some a =>
                have hfa := fit_ok (by omega) hf2
                refine W.eq (g2 := F0 m 73 ls [.int (nI (a))]) rfl ?_
                refine lv_istore_n (lv' := [(3, .int (nI (a))), (0, .ref (q 0)), (1, .int (nI (j))), (2, .int (nI (n)))]) S.1 S.2.1 dX9_make_73 rfl hl (by decide) rfl (fun ls hl => ?_)
                refine lv_iload_n S.1 S.2.1 dX9_make_74 rfl (lv_at hl 0 rfl) ?_
                refine lv_iconst (v := -1) S.1 S.2.1 dX9_make_75 (by decide) ?_
                refine lv_icmp_ne (tgt := 82) S.1 S.2.1 dX9_make_76 (by decide) (fun c6 => ?_) (fun c6 => ?_)
                · refine make_tail S hr hlk hK hN hG hC hW4 (fun k t ht => hob k t (swO_own ht)) hrb hLf.hm hfb j n (a) hj (by omega) (by omega) (lv_sub hl [0, 1, 2, 3] rfl) (fun b a1 a2 w2 hC2 => Or.inr (Or.inr ⟨j, n, hj, by omega, rfl, rfl, c4, Or.inr ⟨hf1, mt3, ms3, wl3, od3, hLf, Or.inl ⟨a, hf2, rfl, b, a1, a2, hC2⟩⟩⟩))
                · exact absurd c6 (nI_m1 (by omega))
              | none =>
                refine W.eq (g2 := F0 m 73 ls [.int (-1)]) rfl ?_
                refine lv_istore_n (lv' := [(3, .int (-1)), (0, .ref (q 0)), (1, .int (nI (j))), (2, .int (nI (n)))]) S.1 S.2.1 dX9_make_73 rfl hl (by decide) rfl (fun ls hl => ?_)
                refine lv_iload_n S.1 S.2.1 dX9_make_74 rfl (lv_at hl 0 rfl) ?_
                refine lv_iconst (v := -1) S.1 S.2.1 dX9_make_75 (by decide) ?_
                refine lv_icmp_ne (tgt := 82) S.1 S.2.1 dX9_make_76 (by decide) (fun c6 => ?_) (fun c6 => ?_)
                · exact absurd rfl c6
                · refine lv_bipush (v := -4) S.1 S.2.1 dX9_make_79 (by decide) ?_
                  refine W.widen (k := 3) (n := 20) (by decide) (by decide) ?_
                  exact mw_iret S hr hlk hK hG dX9_make_81 (Or.inr (Or.inr ⟨j, n, hj, by omega, rfl, rfl, c4, Or.inr ⟨hf1, mt3, ms3, wl3, od3, hLf, Or.inr ⟨hf2, rfl, hC⟩⟩⟩))
        · have c4 : ¬ (made < 2000) := fun h9 => c4 ((nI_ltI (a := made) (b := 2000) (by omega) (by omega)).mpr h9)
          refine lv_bipush (v := -4) S.1 S.2.1 dX9_make_34 (by decide) ?_
          refine W.widen (k := 3) (n := 20) (by decide) (by decide) ?_
          exact mw_iret S hr hlk hK hG dX9_make_36 (Or.inr (Or.inl ⟨⟨inR_nI hj (by decide), inR_nI hn7 (by decide)⟩, by omega, rfl, hC⟩))
      · refine lv_bipush (v := -2) S.1 S.2.1 dX9_make_21 (by decide) ?_
        refine W.widen (k := 3) (n := 20) (by decide) (by decide) ?_
        exact mw_iret S hr hlk hK hG dX9_make_23 (Or.inl ⟨Or.inr (inR_hi2 (h := 6) (by decide) (Int32.not_le.mp c3)), rfl, hC⟩)
