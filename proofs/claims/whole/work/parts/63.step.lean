/-! BOTH SIDES: the joint world between calls, and each call -/
def JW (cI cZ cT : ClassId) (b1 b2 t : Nat) (wC wR : mM) : Prop :=
  ∃ (q1 q2 : Nat → Nat) (kp : Nat) (Wn : Nat) (made : Nat) (fl : (Nat → Nat)) (num : (Nat → Nat → Int32)) (rfs : (Nat → Nat → Option Nat)) (root : (Nat → Option Nat)) (own : (Nat → Option Nat)) (tad : (Nat → Nat)) (trm : (Nat → Bool)) (tpl : (Nat → Nat)) (wlk : (Nat → Nat)) (ord : (Nat → Nat)) (met : (Nat → Option Nat)) (msz : Nat) (cur : Nat) (mend : Nat) (pnx : Nat) (pen : Nat) (st : Nat) (coll : Nat) (mins : Nat) (movd : Nat) (thr : Int32) (adr : (Nat → Option Nat)) (rem : (Nat → Bool)) (half : Nat) (top : Nat) (size : Nat) (row : (Nat → Nat)) (plc : (Nat → Option Nat)) (old : (Nat → Option Nat)), q1 0 = b1 ∧ q2 0 = b2 ∧ CW cI cT q1 kp Wn made fl num rfs root own tad trm tpl wlk ord met msz cur mend pnx pen st coll mins movd wC ∧ RW cI cZ q2 thr kp Wn made adr fl rem num rfs root own half top coll mins movd size row plc old wR ∧ SI kp Wn made fl rfs root own tad trm pnx pen st adr rem half top ∧ (∀ o, o < made → wlk o ≤ cur) ∧ (∀ k t, met k = some t → t < made) ∧ cur ≤ 3 * t
theorem JW_i {cI cZ cT : ClassId} {b1 b2 t : Nat} {wC wR : mM} {q1 q2 : Nat → Nat} {kp : Nat} {Wn : Nat} {made : Nat} {fl : (Nat → Nat)} {num : (Nat → Nat → Int32)} {rfs : (Nat → Nat → Option Nat)} {root : (Nat → Option Nat)} {own : (Nat → Option Nat)} {tad : (Nat → Nat)} {trm : (Nat → Bool)} {tpl : (Nat → Nat)} {wlk : (Nat → Nat)} {ord : (Nat → Nat)} {met : (Nat → Option Nat)} {msz : Nat} {cur : Nat} {mend : Nat} {pnx : Nat} {pen : Nat} {st : Nat} {coll : Nat} {mins : Nat} {movd : Nat} {thr : Int32} {adr : (Nat → Option Nat)} {rem : (Nat → Bool)} {half : Nat} {top : Nat} {size : Nat} {row : (Nat → Nat)} {plc : (Nat → Option Nat)} {old : (Nat → Option Nat)} (h1 : q1 0 = b1) (h2 : q2 0 = b2) (hC : CW cI cT q1 kp Wn made fl num rfs root own tad trm tpl wlk ord met msz cur mend pnx pen st coll mins movd wC) (hR : RW cI cZ q2 thr kp Wn made adr fl rem num rfs root own half top coll mins movd size row plc old wR) (hS : SI kp Wn made fl rfs root own tad trm pnx pen st adr rem half top) (hw : ∀ o, o < made → wlk o ≤ cur) (hm : ∀ k t, met k = some t → t < made) (hc : cur ≤ 3 * t) : JW cI cZ cT b1 b2 t wC wR :=
  ⟨q1, q2, kp, Wn, made, fl, num, rfs, root, own, tad, trm, tpl, wlk, ord, met, msz, cur, mend, pnx, pen, st, coll, mins, movd, thr, adr, rem, half, top, size, row, plc, old, h1, h2, hC, hR, hS, hw, hm, hc⟩
def isI (v : Option Value) : Prop := ∃ x : Int32, v = some (.int x)
def isJ (v : Option Value) : Prop := ∃ x : Int64, v = some (.long x)
/-- a call on the one side, then on the other: they answer alike, and the joint world stands -/
def Bth (l : Launch) (D : va_G) (cl : List vw_C) (tys : List (ClassId × FieldType)) (J : mM → mM → Prop) (V : Option Value → Prop) (ret : Option FieldType) (y1 : MethodName) (c1 : ByteArray) (m1 mc ms : Nat) (y2 : MethodName) (c2 : ByteArray) (m2 : Nat) (wC wR : mM) (av1 av2 : List Value) : Prop :=
  ∃ post1 : Option Value → mM → Prop, Cal l y1 c1 m1 ret D cl tys mc ms wC av1 post1 ∧ ∀ v w2, post1 v w2 → ∃ post2 : Option Value → mM → Prop, Cal l y2 c2 m2 ret D cl tys 0 0 wR av2 post2 ∧ ∀ v2 w3, post2 v2 w3 → v2 = v ∧ V v ∧ J w2 w3
theorem lnk_inr {fl : Nat → Nat} {root : Nat → Option Nat} {x f t : Int32} {o i u : Nat} (h : lnk fl root x f t = .inr (o, i, u)) : ∃ j k, j < 16 ∧ k < 16 ∧ root j = some o ∧ root k = some u := by
  unfold lnk at h
  split at h
  · rename_i hc
    obtain ⟨k, hk, rfl⟩ := inR_ex (by decide) hc
    rw [nI_clamp (by omega)] at h
    split at h
    · cases h
    · rename_i o2 i2 ht
      split at h
      · cases h
      · rename_i u2 hu
        cases h
        obtain ⟨j, hj, -, -, -, hjo, -⟩ := tgt_inr ht
        exact ⟨j, k, hj, hk, hjo, hu⟩
  · cases h
theorem lod_inr {fl : Nat → Nat} {rfs : Nat → Nat → Option Nat} {root : Nat → Option Nat} {r x f : Int32} {k u : Nat} (h : lod fl rfs root r x f = .inr (k, u)) : ∃ j o i, j < 16 ∧ root j = some o ∧ i < fl o ∧ rfs o i = some u := by
  unfold lod at h
  split at h
  · split at h
    · cases h
    · rename_i o2 i2 ht
      split at h
      · cases h
      · rename_i u2 hu
        cases h
        obtain ⟨j, hj, -, -, -, hjo, hif⟩ := tgt_inr ht
        exact ⟨j, o2, i2, hj, hjo, hif, hu⟩
  · cases h
theorem smR_0 {num : Nat → Nat → Int32} {rfs : Nat → Nat → Option Nat} {idx : Nat → Nat} {k : Nat} {s : Int64} : smR num rfs idx k 0 s = s := by rw [smR.eq_1]
theorem smR_s {num : Nat → Nat → Int32} {rfs : Nat → Nat → Option Nat} {idx : Nat → Nat} {k j : Nat} {s : Int64} : smR num rfs idx k (j + 1) s = 31 * smR num rfs idx k j s + smT num rfs idx k j := by rw [smR.eq_2]
theorem smR_congr {fl : Nat → Nat} {num : Nat → Nat → Int32} {rfs : Nat → Nat → Option Nat} {i1 i2 : Nat → Nat} {x : Nat} (h : ∀ n, n < fl x → ∀ u, rfs x n = some u → i1 u = i2 u) : ∀ n, n ≤ fl x → ∀ s, smR num rfs i1 x n s = smR num rfs i2 x n s
  | 0, _, s => by rw [smR_0, smR_0]
  | n + 1, hn, s => by
    rw [smR_s, smR_s, smR_congr h n (by omega) s]
    cases hrn : rfs x n with
    | none => rw [smT_n hrn, smT_n hrn]
    | some u => rw [smT_s hrn, smT_s hrn, h n (by omega) u hrn]
theorem smO_e {fl : Nat → Nat} {num : Nat → Nat → Int32} {rfs : Nat → Nat → Option Nat} {idx : Nat → Nat} {s : Int64} {k : Nat} : smO fl num rfs idx s k = smR num rfs idx k (fl k) (31 * s + (nI (fl k)).toInt64) := by rw [smO.eq_1]
theorem sm_congr {fl : Nat → Nat} {num : Nat → Nat → Int32} {rfs : Nat → Nat → Option Nat} {i1 i2 : Nat → Nat} {L : List Nat} (h : ∀ x ∈ L, ∀ n, n < fl x → ∀ u, rfs x n = some u → i1 u = i2 u) : ∀ (M : List Nat) (s : Int64), (∀ x ∈ M, x ∈ L) → M.foldl (smO fl num rfs i1) s = M.foldl (smO fl num rfs i2) s
  | [], _, _ => by rw [List.foldl_nil, List.foldl_nil]
  | x :: m, s, hM => by
    rw [List.foldl_cons, List.foldl_cons]
    rw [smO_e (idx := i1), smO_e (idx := i2), smR_congr (h x (hM x List.mem_cons_self)) (fl x) (Nat.le_refl _)]
    exact sm_congr h m _ (fun y hy => hM y (List.mem_cons_of_mem _ hy))
section ST
variable {l : Launch} {dC : Nat → ClassId} {dI : Nat → Nat → Nat} {cI cZ cT : ClassId} {b1 b2 t : Nat} {wC wR : mM}
theorem JW.oC (hJ : JW cI cZ cT b1 b2 t wC wR) : ∃ fs, wC b1 = some (.inr (8, fs)) := by
  obtain ⟨q1, q2, kp, Wn, made, fl, num, rfs, root, own, tad, trm, tpl, wlk, ord, met, msz, cur, mend, pnx, pen, st, coll, mins, movd, thr, adr, rem, half, top, size, row, plc, old, rfl, rfl, hC, hR, hS, hw1, hw2, hw3⟩ := hJ
  exact ⟨_, hC.1 0 (Or.inl (by decide))⟩
theorem JW.oR (hJ : JW cI cZ cT b1 b2 t wC wR) : ∃ fs, wR b2 = some (.inr (9, fs)) := by
  obtain ⟨q1, q2, kp, Wn, made, fl, num, rfs, root, own, tad, trm, tpl, wlk, ord, met, msz, cur, mend, pnx, pen, st, coll, mins, movd, thr, adr, rem, half, top, size, row, plc, old, rfl, rfl, hC, hR, hS, hw1, hw2, hw3⟩ := hJ
  exact ⟨_, hR.1 0 (by decide)⟩
theorem st_set (hJ : JW cI cZ cT b1 b2 t wC wR) (x f y : Int32) : Bth l (dC, dI) vwCl (tyL cI cZ cT) (JW cI cZ cT b1 b2 (t + 1)) isI (some .int) yX9_set cX9_set 5 0 0 yX10_set cX10_set 5 wC wR [.ref b1, .int x, .int f, .int y] [.ref b2, .int x, .int f, .int y] := by
  obtain ⟨q1, q2, kp, Wn, made, fl, num, rfs, root, own, tad, trm, tpl, wlk, ord, met, msz, cur, mend, pnx, pen, st, coll, mins, movd, thr, adr, rem, half, top, size, row, plc, old, rfl, rfl, hC, hR, hS, hw1, hw2, hw3⟩ := hJ
  have hrb : ∀ j, j < 16 → ∀ o, root j = some o → o < made := fun j hj o ho => (hS.rb j hj o ho).1
  have hfb : ∀ o, o < made → ∀ i, i < fl o → ∀ t, rfs o i = some t → t < made := fun o ho i _ t ht => hS.rfb o ho i t ht
  have hfl := hS.fl6
  have hW := hS.w400
  have hmd := hS.md
  have hk2 := hS.kp2
  refine ⟨_, ⟨_, ⟨by decide, by decide⟩, ⟨rfl, rfl⟩, h_set hC hW hrb hfl x f y⟩, fun v w2 hp => ⟨_, ⟨_, ⟨by decide, by decide⟩, ⟨rfl, rfl⟩, r_set hR hrb hmd hfl x f y⟩, fun v2 w3 hp2 => ?_⟩⟩
  obtain ⟨hv, hm⟩ := hp
  obtain ⟨hv2, hm2⟩ := hp2
  refine ⟨hv2.trans hv.symm, ⟨_, hv⟩, ?_⟩
  cases ht : tgt fl root x f with
  | inl cd =>
    rw [ht] at hm hm2
    exact JW_i rfl rfl hm hm2 hS hw1 hw2 (by omega)
  | inr oi =>
    obtain ⟨o, i⟩ := oi
    rw [ht] at hm hm2
    exact JW_i rfl rfl hm hm2 hS.set hw1 hw2 (by omega)
theorem st_link (hJ : JW cI cZ cT b1 b2 t wC wR) (x f y : Int32) : Bth l (dC, dI) vwCl (tyL cI cZ cT) (JW cI cZ cT b1 b2 (t + 1)) isI (some .int) yX9_link cX9_link 6 0 0 yX10_link cX10_link 6 wC wR [.ref b1, .int x, .int f, .int y] [.ref b2, .int x, .int f, .int y] := by
  obtain ⟨q1, q2, kp, Wn, made, fl, num, rfs, root, own, tad, trm, tpl, wlk, ord, met, msz, cur, mend, pnx, pen, st, coll, mins, movd, thr, adr, rem, half, top, size, row, plc, old, rfl, rfl, hC, hR, hS, hw1, hw2, hw3⟩ := hJ
  have hrb : ∀ j, j < 16 → ∀ o, root j = some o → o < made := fun j hj o ho => (hS.rb j hj o ho).1
  have hfb : ∀ o, o < made → ∀ i, i < fl o → ∀ t, rfs o i = some t → t < made := fun o ho i _ t ht => hS.rfb o ho i t ht
  have hfl := hS.fl6
  have hW := hS.w400
  have hmd := hS.md
  have hk2 := hS.kp2
  refine ⟨_, ⟨_, ⟨by decide, by decide⟩, ⟨rfl, rfl⟩, h_link hC hW hrb hfl hS.tb hk2 x f y⟩, fun v w2 hp => ⟨_, ⟨_, ⟨by decide, by decide⟩, ⟨rfl, rfl⟩, r_link hR hrb hmd hfl hk2 hW hS.ab x f y⟩, fun v2 w3 hp2 => ?_⟩⟩
  obtain ⟨hv, hm⟩ := hp
  obtain ⟨hv2, hm2⟩ := hp2
  refine ⟨hv2.trans hv.symm, ⟨_, hv⟩, ?_⟩
  cases ht : lnk fl root x f y with
  | inl cd =>
    rw [ht] at hm hm2
    exact JW_i rfl rfl hm hm2 hS hw1 hw2 (by omega)
  | inr oi =>
    obtain ⟨o, i, u⟩ := oi
    rw [ht] at hm hm2
    obtain ⟨j, k, hj, hk, ho, hu⟩ := lnk_inr ht
    exact JW_i rfl rfl hm hm2 (hS.link hj hk ho hu) hw1 hw2 (by omega)
theorem st_refers (hJ : JW cI cZ cT b1 b2 t wC wR) (x f : Int32) : Bth l (dC, dI) vwCl (tyL cI cZ cT) (JW cI cZ cT b1 b2 (t + 1)) isI (some .int) yX9_refers cX9_refers 4 0 0 yX10_refers cX10_refers 4 wC wR [.ref b1, .int x, .int f] [.ref b2, .int x, .int f] := by
  obtain ⟨q1, q2, kp, Wn, made, fl, num, rfs, root, own, tad, trm, tpl, wlk, ord, met, msz, cur, mend, pnx, pen, st, coll, mins, movd, thr, adr, rem, half, top, size, row, plc, old, rfl, rfl, hC, hR, hS, hw1, hw2, hw3⟩ := hJ
  have hrb : ∀ j, j < 16 → ∀ o, root j = some o → o < made := fun j hj o ho => (hS.rb j hj o ho).1
  have hfb : ∀ o, o < made → ∀ i, i < fl o → ∀ t, rfs o i = some t → t < made := fun o ho i _ t ht => hS.rfb o ho i t ht
  have hfl := hS.fl6
  have hW := hS.w400
  have hmd := hS.md
  have hk2 := hS.kp2
  refine ⟨_, ⟨_, ⟨by decide, by decide⟩, ⟨rfl, rfl⟩, h_refers hC hW hrb hfl x f⟩, fun v w2 hp => ⟨_, ⟨_, ⟨by decide, by decide⟩, ⟨rfl, rfl⟩, r_refers hR hrb hmd hfl hfb x f⟩, fun v2 w3 hp2 => ?_⟩⟩
  obtain ⟨hv, hm⟩ := hp
  obtain ⟨hv2, hm2⟩ := hp2
  exact ⟨hv2.trans hv.symm, ⟨_, hv⟩, JW_i rfl rfl hm hm2 hS hw1 hw2 (by omega)⟩
theorem st_number (hJ : JW cI cZ cT b1 b2 t wC wR) (x f : Int32) : Bth l (dC, dI) vwCl (tyL cI cZ cT) (JW cI cZ cT b1 b2 (t + 1)) isI (some .int) yX9_number cX9_number 4 0 0 yX10_number cX10_number 3 wC wR [.ref b1, .int x, .int f] [.ref b2, .int x, .int f] := by
  obtain ⟨q1, q2, kp, Wn, made, fl, num, rfs, root, own, tad, trm, tpl, wlk, ord, met, msz, cur, mend, pnx, pen, st, coll, mins, movd, thr, adr, rem, half, top, size, row, plc, old, rfl, rfl, hC, hR, hS, hw1, hw2, hw3⟩ := hJ
  have hrb : ∀ j, j < 16 → ∀ o, root j = some o → o < made := fun j hj o ho => (hS.rb j hj o ho).1
  have hfb : ∀ o, o < made → ∀ i, i < fl o → ∀ t, rfs o i = some t → t < made := fun o ho i _ t ht => hS.rfb o ho i t ht
  have hfl := hS.fl6
  have hW := hS.w400
  have hmd := hS.md
  have hk2 := hS.kp2
  refine ⟨_, ⟨_, ⟨by decide, by decide⟩, ⟨rfl, rfl⟩, h_number hC hW hrb hfl x f⟩, fun v w2 hp => ⟨_, ⟨_, ⟨by decide, by decide⟩, ⟨rfl, rfl⟩, r_number hR hrb hmd hfl x f⟩, fun v2 w3 hp2 => ?_⟩⟩
  obtain ⟨hv, hm⟩ := hp
  obtain ⟨hv2, hm2⟩ := hp2
  exact ⟨hv2.trans hv.symm, ⟨_, hv⟩, JW_i rfl rfl hm hm2 hS hw1 hw2 (by omega)⟩
theorem st_load (hJ : JW cI cZ cT b1 b2 t wC wR) (r x f : Int32) : Bth l (dC, dI) vwCl (tyL cI cZ cT) (JW cI cZ cT b1 b2 (t + 1)) isI (some .int) yX9_load cX9_load 6 0 0 yX10_load cX10_load 6 wC wR [.ref b1, .int r, .int x, .int f] [.ref b2, .int r, .int x, .int f] := by
  obtain ⟨q1, q2, kp, Wn, made, fl, num, rfs, root, own, tad, trm, tpl, wlk, ord, met, msz, cur, mend, pnx, pen, st, coll, mins, movd, thr, adr, rem, half, top, size, row, plc, old, rfl, rfl, hC, hR, hS, hw1, hw2, hw3⟩ := hJ
  have hrb : ∀ j, j < 16 → ∀ o, root j = some o → o < made := fun j hj o ho => (hS.rb j hj o ho).1
  have hfb : ∀ o, o < made → ∀ i, i < fl o → ∀ t, rfs o i = some t → t < made := fun o ho i _ t ht => hS.rfb o ho i t ht
  have hfl := hS.fl6
  have hW := hS.w400
  have hmd := hS.md
  have hk2 := hS.kp2
  refine ⟨_, ⟨_, ⟨by decide, by decide⟩, ⟨rfl, rfl⟩, h_load hC hW hrb hfl hfb r x f⟩, fun v w2 hp => ⟨_, ⟨_, ⟨by decide, by decide⟩, ⟨rfl, rfl⟩, r_load hR hrb hmd hfl hfb r x f⟩, fun v2 w3 hp2 => ?_⟩⟩
  obtain ⟨hv, hm⟩ := hp
  obtain ⟨hv2, hm2⟩ := hp2
  refine ⟨hv2.trans hv.symm, ⟨_, hv⟩, ?_⟩
  cases ht : lod fl rfs root r x f with
  | inl cd =>
    rw [ht] at hm hm2
    exact JW_i rfl rfl hm hm2 hS hw1 hw2 (by omega)
  | inr oi =>
    obtain ⟨k, u⟩ := oi
    rw [ht] at hm hm2
    obtain ⟨j, o, i, hj, ho, hi, hu⟩ := lod_inr ht
    exact JW_i rfl rfl hm hm2 (hS.load hj ho hi hu) hw1 hw2 (by omega)
theorem st_copy (hJ : JW cI cZ cT b1 b2 t wC wR) (x y : Int32) : Bth l (dC, dI) vwCl (tyL cI cZ cT) (JW cI cZ cT b1 b2 (t + 1)) isI (some .int) yX9_copy cX9_copy 4 0 0 yX10_copy cX10_copy 3 wC wR [.ref b1, .int x, .int y] [.ref b2, .int x, .int y] := by
  obtain ⟨q1, q2, kp, Wn, made, fl, num, rfs, root, own, tad, trm, tpl, wlk, ord, met, msz, cur, mend, pnx, pen, st, coll, mins, movd, thr, adr, rem, half, top, size, row, plc, old, rfl, rfl, hC, hR, hS, hw1, hw2, hw3⟩ := hJ
  have hrb : ∀ j, j < 16 → ∀ o, root j = some o → o < made := fun j hj o ho => (hS.rb j hj o ho).1
  have hfb : ∀ o, o < made → ∀ i, i < fl o → ∀ t, rfs o i = some t → t < made := fun o ho i _ t ht => hS.rfb o ho i t ht
  have hfl := hS.fl6
  have hW := hS.w400
  have hmd := hS.md
  have hk2 := hS.kp2
  refine ⟨_, ⟨_, ⟨by decide, by decide⟩, ⟨rfl, rfl⟩, h_copy hC hW hrb hfl x y⟩, fun v w2 hp => ⟨_, ⟨_, ⟨by decide, by decide⟩, ⟨rfl, rfl⟩, r_copy hR hrb hmd hfl x y⟩, fun v2 w3 hp2 => ?_⟩⟩
  obtain ⟨hv, hm⟩ := hp
  obtain ⟨hv2, hm2⟩ := hp2
  refine ⟨hv2.trans hv.symm, ⟨_, hv⟩, JW_i rfl rfl hm hm2 ?_ hw1 hw2 (by omega)⟩
  by_cases z : inR 16 x = true ∧ inR 16 y = true
  · rw [if_pos z]
    obtain ⟨k, hk, rfl⟩ := inR_ex (by decide) z.2
    rw [nI_clamp (by omega)]
    exact hS.copy hk
  · rw [if_neg z]
    exact hS
theorem st_drop (hJ : JW cI cZ cT b1 b2 t wC wR) (x : Int32) : Bth l (dC, dI) vwCl (tyL cI cZ cT) (JW cI cZ cT b1 b2 (t + 1)) isI (some .int) yX9_drop cX9_drop 3 0 0 yX10_drop cX10_drop 3 wC wR [.ref b1, .int x] [.ref b2, .int x] := by
  obtain ⟨q1, q2, kp, Wn, made, fl, num, rfs, root, own, tad, trm, tpl, wlk, ord, met, msz, cur, mend, pnx, pen, st, coll, mins, movd, thr, adr, rem, half, top, size, row, plc, old, rfl, rfl, hC, hR, hS, hw1, hw2, hw3⟩ := hJ
  have hrb : ∀ j, j < 16 → ∀ o, root j = some o → o < made := fun j hj o ho => (hS.rb j hj o ho).1
  have hfb : ∀ o, o < made → ∀ i, i < fl o → ∀ t, rfs o i = some t → t < made := fun o ho i _ t ht => hS.rfb o ho i t ht
  have hfl := hS.fl6
  have hW := hS.w400
  have hmd := hS.md
  have hk2 := hS.kp2
  refine ⟨_, ⟨_, ⟨by decide, by decide⟩, ⟨rfl, rfl⟩, h_drop hC hW hrb hfl x⟩, fun v w2 hp => ⟨_, ⟨_, ⟨by decide, by decide⟩, ⟨rfl, rfl⟩, r_drop hR hrb hmd hfl x⟩, fun v2 w3 hp2 => ?_⟩⟩
  obtain ⟨hv, hm⟩ := hp
  obtain ⟨hv2, hm2⟩ := hp2
  refine ⟨hv2.trans hv.symm, ⟨_, hv⟩, JW_i rfl rfl hm hm2 ?_ hw1 hw2 (by omega)⟩
  by_cases z : inR 16 x = true
  · rw [if_pos z]
    exact hS.drop
  · rw [if_neg z]
    exact hS
theorem st_same (hJ : JW cI cZ cT b1 b2 t wC wR) (x y : Int32) : Bth l (dC, dI) vwCl (tyL cI cZ cT) (JW cI cZ cT b1 b2 (t + 1)) isI (some .int) yX9_same cX9_same 3 0 0 yX10_same cX10_same 3 wC wR [.ref b1, .int x, .int y] [.ref b2, .int x, .int y] := by
  obtain ⟨q1, q2, kp, Wn, made, fl, num, rfs, root, own, tad, trm, tpl, wlk, ord, met, msz, cur, mend, pnx, pen, st, coll, mins, movd, thr, adr, rem, half, top, size, row, plc, old, rfl, rfl, hC, hR, hS, hw1, hw2, hw3⟩ := hJ
  have hrb : ∀ j, j < 16 → ∀ o, root j = some o → o < made := fun j hj o ho => (hS.rb j hj o ho).1
  have hfb : ∀ o, o < made → ∀ i, i < fl o → ∀ t, rfs o i = some t → t < made := fun o ho i _ t ht => hS.rfb o ho i t ht
  have hfl := hS.fl6
  have hW := hS.w400
  have hmd := hS.md
  have hk2 := hS.kp2
  refine ⟨_, ⟨_, ⟨by decide, by decide⟩, ⟨rfl, rfl⟩, h_same hC hW hrb hfl x y⟩, fun v w2 hp => ⟨_, ⟨_, ⟨by decide, by decide⟩, ⟨rfl, rfl⟩, r_same hR hrb hmd hfl x y⟩, fun v2 w3 hp2 => ?_⟩⟩
  obtain ⟨hv, hm⟩ := hp
  obtain ⟨hv2, hm2⟩ := hp2
  exact ⟨hv2.trans hv.symm, ⟨_, hv⟩, JW_i rfl rfl hm hm2 hS hw1 hw2 (by omega)⟩
theorem st_at (hJ : JW cI cZ cT b1 b2 t wC wR) (x : Int32) : Bth l (dC, dI) vwCl (tyL cI cZ cT) (JW cI cZ cT b1 b2 (t + 1)) isI (some .int) yX9_at cX9_at 2 0 0 yX10_at cX10_at 2 wC wR [.ref b1, .int x] [.ref b2, .int x] := by
  obtain ⟨q1, q2, kp, Wn, made, fl, num, rfs, root, own, tad, trm, tpl, wlk, ord, met, msz, cur, mend, pnx, pen, st, coll, mins, movd, thr, adr, rem, half, top, size, row, plc, old, rfl, rfl, hC, hR, hS, hw1, hw2, hw3⟩ := hJ
  have hrb : ∀ j, j < 16 → ∀ o, root j = some o → o < made := fun j hj o ho => (hS.rb j hj o ho).1
  have hfb : ∀ o, o < made → ∀ i, i < fl o → ∀ t, rfs o i = some t → t < made := fun o ho i _ t ht => hS.rfb o ho i t ht
  have hfl := hS.fl6
  have hW := hS.w400
  have hmd := hS.md
  have hk2 := hS.kp2
  refine ⟨_, ⟨_, ⟨by decide, by decide⟩, ⟨rfl, rfl⟩, h_at hC hW hS.ob x⟩, fun v w2 hp => ⟨_, ⟨_, ⟨by decide, by decide⟩, ⟨rfl, rfl⟩, r_at hR hW (by have := hS.w16; omega) x⟩, fun v2 w3 hp2 => ?_⟩⟩
  obtain ⟨hv, hm⟩ := hp
  obtain ⟨hv2, hm2⟩ := hp2
  exact ⟨hv2.trans hv.symm, ⟨_, hv⟩, JW_i rfl rfl hm hm2 hS hw1 hw2 (by omega)⟩
theorem st_object (hJ : JW cI cZ cT b1 b2 t wC wR) (x y : Int32) : Bth l (dC, dI) vwCl (tyL cI cZ cT) (JW cI cZ cT b1 b2 (t + 1)) isI (some .int) yX9_object cX9_object 4 0 0 yX10_object cX10_object 4 wC wR [.ref b1, .int x, .int y] [.ref b2, .int x, .int y] := by
  obtain ⟨q1, q2, kp, Wn, made, fl, num, rfs, root, own, tad, trm, tpl, wlk, ord, met, msz, cur, mend, pnx, pen, st, coll, mins, movd, thr, adr, rem, half, top, size, row, plc, old, rfl, rfl, hC, hR, hS, hw1, hw2, hw3⟩ := hJ
  have hrb : ∀ j, j < 16 → ∀ o, root j = some o → o < made := fun j hj o ho => (hS.rb j hj o ho).1
  have hfb : ∀ o, o < made → ∀ i, i < fl o → ∀ t, rfs o i = some t → t < made := fun o ho i _ t ht => hS.rfb o ho i t ht
  have hfl := hS.fl6
  have hW := hS.w400
  have hmd := hS.md
  have hk2 := hS.kp2
  refine ⟨_, ⟨_, ⟨by decide, by decide⟩, ⟨rfl, rfl⟩, h_object hC hW hrb hfl hS.tb hk2 x y⟩, fun v w2 hp => ⟨_, ⟨_, ⟨by decide, by decide⟩, ⟨rfl, rfl⟩, r_object hR hrb hmd hfl hk2 hW hS.ab x y⟩, fun v2 w3 hp2 => ?_⟩⟩
  obtain ⟨hv, hm⟩ := hp
  obtain ⟨hv2, hm2⟩ := hp2
  refine ⟨?_, ⟨_, hv⟩, JW_i rfl rfl hm hm2 hS hw1 hw2 (by omega)⟩
  rw [hv, hv2]
  by_cases z : inR 16 x = true ∧ inR 5 y = true
  · rw [if_pos z, if_pos z]
    obtain ⟨j, hj, rfl⟩ := inR_ex (by decide) z.1
    rw [nI_clamp (by omega)]
    cases ho : root j with
    | none => rfl
    | some o =>
      obtain ⟨hom, a, ha⟩ := hS.rb j hj o ho
      have e1 : tad o = a := hS.ta o a hom ha
      have e2 : isOldC kp Wn tad o = isOldR kp Wn adr o := hS.old hom ha
      have e3 : trm o = rem o := hS.rm o a hom ha
      simp only [e1, e2, e3, ha]
      rfl
  · rw [if_neg z, if_neg z]
theorem st_count (hJ : JW cI cZ cT b1 b2 t wC wR) (hT : t ≤ 600) (y : Int32) : Bth l (dC, dI) vwCl (tyL cI cZ cT) (JW cI cZ cT b1 b2 (t + 1)) isI (some .int) yX9_count cX9_count 2 0 0 yX10_count cX10_count 6 wC wR [.ref b1, .int y] [.ref b2, .int y] := by
  obtain ⟨q1, q2, kp, Wn, made, fl, num, rfs, root, own, tad, trm, tpl, wlk, ord, met, msz, cur, mend, pnx, pen, st, coll, mins, movd, thr, adr, rem, half, top, size, row, plc, old, rfl, rfl, hC, hR, hS, hw1, hw2, hw3⟩ := hJ
  have hrb : ∀ j, j < 16 → ∀ o, root j = some o → o < made := fun j hj o ho => (hS.rb j hj o ho).1
  have hfb : ∀ o, o < made → ∀ i, i < fl o → ∀ t, rfs o i = some t → t < made := fun o ho i _ t ht => hS.rfb o ho i t ht
  have hfl := hS.fl6
  have hW := hS.w400
  have hmd := hS.md
  have hk2 := hS.kp2
  obtain ⟨Kp, k1, k2, k3, k4⟩ := hS.kk
  have hBc := hS.hB k1
  have hBr : ∀ M : List Nat, M.Nodup → (∀ x ∈ M, Kp x) → M.length ≤ 400 := fun M h1 h2 => Nat.le_trans (hBc M h1 h2) hW
  have hkm : ∀ x, Kp x → x < made := fun x hx => (k1 x hx).1
  refine ⟨_, ⟨_, ⟨by decide, by decide⟩, ⟨rfl, rfl⟩, h_count (Kp := Kp) hBc hkm k2 hfl hC hW (by omega) hS.tb hw1 hw2 k3 hk2 hS.ob y⟩, fun v w2 hp => ⟨_, ⟨_, ⟨by decide, by decide⟩, ⟨rfl, rfl⟩, r_count (Kp := Kp) hBr k1 k2 hR hmd hW hfl hS.lyd k3 y⟩, fun v2 w3 hp2 => ?_⟩⟩
  obtain ⟨hv, mt3, ms3, wl3, od3, cur3, mend3, hm, h1, h2, h3⟩ := hp
  obtain ⟨hv2, sz2, rw2, pl2, hm2⟩ := hp2
  refine ⟨?_, ⟨_, hv⟩, JW_i rfl rfl hm hm2 hS h1 h2 (by omega)⟩
  have e0 : cnt (fun k => (bgn own tad k).isSome) Wn = cnt (fun o => (adr o).isSome) made := by
    rw [bgC_t, cnt_bg (fun _ => true) hS.lyd hS.ta]
    exact cnt_congr made (fun o _ => by simp)
  have e1 := taken_eq hS.lyd
  have e6 : cnt (fun k => match bgn own tad k with | none => false | some t => trm t) Wn = cnt (fun o => (adr o).isSome && rem o) made := by
    refine (cnt_bg trm hS.lyd hS.ta).trans (cnt_congr made (fun o ho => ?_))
    cases ha : adr o with
    | none => rfl
    | some a => rw [hS.rm o a ho ha]
  rw [hv, hv2, e0, e1, hS.lr]
  refine congrArg (fun z => some (Value.int z)) ?_
  iterate 6 (refine ite_congr rfl (fun _ => rfl) (fun _ => ?_))
  exact ite_congr rfl (fun _ => congrArg nI e6.symm) (fun _ => rfl)
theorem st_sum (hJ : JW cI cZ cT b1 b2 t wC wR) (hT : t ≤ 600) (x : Int32) : Bth l (dC, dI) vwCl (tyL cI cZ cT) (JW cI cZ cT b1 b2 (t + 1)) isJ (some .long) yX9_sum cX9_sum 3 0 0 yX10_sum cX10_sum 8 wC wR [.ref b1, .int x] [.ref b2, .int x] := by
  obtain ⟨q1, q2, kp, Wn, made, fl, num, rfs, root, own, tad, trm, tpl, wlk, ord, met, msz, cur, mend, pnx, pen, st, coll, mins, movd, thr, adr, rem, half, top, size, row, plc, old, rfl, rfl, hC, hR, hS, hw1, hw2, hw3⟩ := hJ
  have hrb : ∀ j, j < 16 → ∀ o, root j = some o → o < made := fun j hj o ho => (hS.rb j hj o ho).1
  have hfb : ∀ o, o < made → ∀ i, i < fl o → ∀ t, rfs o i = some t → t < made := fun o ho i _ t ht => hS.rfb o ho i t ht
  have hfl := hS.fl6
  have hW := hS.w400
  have hmd := hS.md
  have hk2 := hS.kp2
  obtain ⟨Kp, k1, k2, k3, k4⟩ := hS.kk
  have hBc := hS.hB k1
  have hBr : ∀ M : List Nat, M.Nodup → (∀ x ∈ M, Kp x) → M.length ≤ 400 := fun M h1 h2 => Nat.le_trans (hBc M h1 h2) hW
  have hkm : ∀ x, Kp x → x < made := fun x hx => (k1 x hx).1
  refine ⟨_, ⟨_, ⟨by decide, by decide⟩, ⟨rfl, rfl⟩, h_sum (Kp := Kp) hBc hkm k2 hfl hC hW (by omega) hS.tb hw1 hw2 k3 hk2 x⟩, fun v w2 hp => ⟨_, ⟨_, ⟨by decide, by decide⟩, ⟨rfl, rfl⟩, r_sum (Kp := Kp) hBr k1 k2 hR hmd hW hfl hS.lyd k3 x⟩, fun v2 w3 hp2 => ?_⟩⟩
  obtain ⟨mt3, ms3, wl3, od3, cur3, mend3, hm, h1, h2, h3, hv⟩ := hp
  obtain ⟨sz2, rw2, pl2, hm2, hv2⟩ := hp2
  have hJ2 := JW_i (t := t + 1) rfl rfl hm hm2 hS h1 h2 (by omega)
  rcases hv with ⟨z, hv⟩ | ⟨j, hj, rfl, hr, hv⟩ | ⟨j, k, hj, rfl, hr, hv, hLs⟩
  · rcases hv2 with ⟨z2, hv2⟩ | ⟨j2, hj2, rfl, hr2, hv2⟩ | ⟨j2, k2, hj2, rfl, hr2, hv2, hLr⟩
    · exact ⟨hv2.trans hv.symm, ⟨_, hv⟩, hJ2⟩
    · rw [inR_nI hj2 (by decide)] at z; cases z
    · rw [inR_nI hj2 (by decide)] at z; cases z
  · rcases hv2 with ⟨z2, hv2⟩ | ⟨j2, hj2, hx, hr2, hv2⟩ | ⟨j2, k2, hj2, hx, hr2, hv2, hLr⟩
    · rw [inR_nI hj (by decide)] at z2; cases z2
    · exact ⟨hv2.trans hv.symm, ⟨_, hv⟩, hJ2⟩
    · have := (nI_eq (a := j) (b := j2) (by omega) (by omega)).mp hx
      subst this
      rw [hr] at hr2; cases hr2
  · rcases hv2 with ⟨z2, hv2⟩ | ⟨j2, hj2, hx, hr2, hv2⟩ | ⟨j2, k2, hj2, hx, hr2, hv2, hLr⟩
    · rw [inR_nI hj (by decide)] at z2; cases z2
    · have := (nI_eq (a := j) (b := j2) (by omega) (by omega)).mp hx
      subst this
      rw [hr] at hr2; cases hr2
    · have := (nI_eq (a := j) (b := j2) (by omega) (by omega)).mp hx
      subst this
      rw [hr] at hr2
      cases hr2
      rw [hS.ls hj hr] at hv hLs
      refine ⟨?_, ⟨_, hv⟩, hJ2⟩
      rw [hv, hv2]
      have hlen : (LSR fl rfs k).length ≤ 401 := by
        have := hBr _ hLr.1 (fun x hx => flw_all (fun x hx i hi t ht _ => k2 x hx i hi t ht) 401 0 _ (mtL_all (fun x hx => absurd hx List.not_mem_nil) (fun t ht _ => by cases ht; exact k3 j hj k hr)) x hx)
        omega
      have hcl := LSR_closed (fl := fl) (rfs := rfs) (k := k) hlen
      rw [sm_congr (i1 := plI pl2) (i2 := od3) (L := LSR fl rfs k) (fun x hx n hn u hu => ?_) _ _ (fun x hx => hx)]
      obtain ⟨i, hi⟩ := List.getElem?_of_mem (hcl x hx n hn u hu)
      have a1 : od3 u = i := hLs.2.2.2.2.1 i u hi
      have a2 : plI pl2 u = i := by unfold plI; rw [hLr.2.2.2.2.1 i u hi]; rfl
      rw [a1, a2]
end ST
